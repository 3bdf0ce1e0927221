def fX7_sign (c_text_length : Int32) (c_text_signs : Nat → Int32) (x1 : Int32) : Option (Int32 × Int32 × (Nat → Int32)) := bd3 (fX6_push c_text_length c_text_signs x1) fun v1 v2 v3 => if v1 = 0 then some ((-1 : Int32), v2, v3) else some (v2, v2, v3)
set_option maxHeartbeats 4000000 in
set_option maxRecDepth 100000 in
theorem tX7_sign (l : Launch) (D : va_G) (k : Nat → ClassId) (q_this q_text q_row q_now q_trial q_doors q_history q_kept q_text_signs : Nat) (c_text_length : Int32) (c_text_signs : Nat → Int32) (x1 : Int32) (r_ : Int32) (w_text_length : Int32) (w_text_signs : Nat → Int32) (hf : fX7_sign c_text_length c_text_signs x1 = some (r_, w_text_length, w_text_signs)) : MI l yX7_sign cX7_sign 2 .int (RM 1 21) D k [.ref q_this, .int x1] [oX7 q_this q_text q_row q_now q_trial q_doors q_history q_kept, oX6 q_text q_text_signs c_text_length, aI k q_text_signs 80 c_text_signs] r_ [oX7 q_this q_text q_row q_now q_trial q_doors q_history q_kept, oX6 q_text q_text_signs w_text_length, aI k q_text_signs 80 w_text_signs] := by
  refine mkMI' (own := "DoorWalk") (by decide) rfl (Nat.le_of_ble_eq_true rfl) ?_
  intro p e s m args below meth c Q A hret C
  refine ww_lv (lv' := [(0, .ref q_this), (1, .int x1)]) [0, 1] rfl ?_
  unfold fX7_sign at hf
  refine ww_aload_n (pc := 0) C dX7_sign_0 rfl 0 rfl ?_
  refine gf7_0 (pc := 1) C kf_X7_12 0 rfl rfl dX7_sign_1 ?_
  refine ww_iload_n (pc := 4) C dX7_sign_4 rfl 1 rfl ?_
  obtain ⟨v1, v2, v3, h1, hf⟩ := bd3_some hf
  refine ww_callVi (pc := 5) (ws' := [oX7 q_this q_text q_row q_now q_trial q_doors q_history q_kept, oX6 q_text q_text_signs v2, aI k q_text_signs 80 v3]) (As := [.int x1]) (rest := []) C (tX6_push l D k q_text q_text_signs c_text_length c_text_signs x1 v1 v2 v3 h1) cv_X7_55 ⟨⟨by decide, by decide⟩, rfl, rfl⟩ 1 rfl rfl [1, 2] rfl rfl rfl rfl rfl rfl (Nat.le_of_ble_eq_true rfl) ⟨Nat.zero_le _, Nat.zero_le _⟩ dX7_sign_5 (fun hb1 => ?_)
  refine ww_if_eq (pc := 8) (tgt := 21) C dX7_sign_8 (by decide) (fun hc => ?_) (fun hc => ?_)
  · have hf := ifT hc hf
    refine ww_iconst (pc := 21) C dX7_sign_21 kI_m1 ?_
    obtain ⟨e0, e1, e2⟩ := ij3 hf
    exact hret _ _ 22 _ dX7_sign_22 rfl e0 (by rw [← e1, ← e2])
  · have hf := ifF hc hf
    refine ww_aload_n (pc := 11) C dX7_sign_11 rfl 0 rfl ?_
    refine gf7_0 (pc := 12) C kf_X7_12 0 rfl rfl dX7_sign_12 ?_
    refine gf6_1 (pc := 15) C kf_X7_59 1 rfl rfl dX7_sign_15 ?_
    refine ww_goto (pc := 18) (tgt := 22) C dX7_sign_18 (by decide) ?_
    obtain ⟨e0, e1, e2⟩ := ij3 hf
    exact hret _ _ 22 _ dX7_sign_22 rfl e0 (by rw [← e1, ← e2])
def fX7_end (c_text_length : Int32) (x1 : Int32) : Option (Int32 × Int32) := if x1 < 0 then some ((0 : Int32), c_text_length) else if x1 ≤ c_text_length then some ((1 : Int32), x1) else some ((0 : Int32), c_text_length)
set_option maxHeartbeats 4000000 in
set_option maxRecDepth 100000 in
theorem tX7_end (l : Launch) (D : va_G) (k : Nat → ClassId) (q_this q_text q_row q_now q_trial q_doors q_history q_kept q_text_signs : Nat) (c_text_length : Int32) (x1 : Int32) (r_ : Int32) (w_text_length : Int32) (hf : fX7_end c_text_length x1 = some (r_, w_text_length)) : MI l yX7_end cX7_end 2 .boolean (RM 0 0) D k [.ref q_this, .int x1] [oX7 q_this q_text q_row q_now q_trial q_doors q_history q_kept, oX6 q_text q_text_signs c_text_length] r_ [oX7 q_this q_text q_row q_now q_trial q_doors q_history q_kept, oX6 q_text q_text_signs w_text_length] := by
  refine mkMI' (own := "DoorWalk") (by decide) rfl (Nat.le_of_ble_eq_true rfl) ?_
  intro p e s m args below meth c Q A hret C
  refine ww_lv (lv' := [(0, .ref q_this), (1, .int x1)]) [0, 1] rfl ?_
  unfold fX7_end at hf
  refine ww_iload_n (pc := 0) C dX7_end_0 rfl 1 rfl ?_
  refine ww_if_lt (pc := 1) (tgt := 15) C dX7_end_1 (by decide) (fun hc => ?_) (fun hc => ?_)
  · have hf := ifT hc hf
    refine ww_iconst (pc := 15) C dX7_end_15 kI_0 ?_
    obtain ⟨e0, e1⟩ := ij2 hf
    exact hret _ _ 16 _ dX7_end_16 (by decide) e0 (by rw [← e1])
  · have hf := ifF hc hf
    refine ww_iload_n (pc := 4) C dX7_end_4 rfl 1 rfl ?_
    refine ww_aload_n (pc := 5) C dX7_end_5 rfl 0 rfl ?_
    refine gf7_0 (pc := 6) C kf_X7_12 0 rfl rfl dX7_end_6 ?_
    refine gf6_1 (pc := 9) C kf_X7_59 1 rfl rfl dX7_end_9 ?_
    refine ww_icmp_le (pc := 12) (tgt := 17) C dX7_end_12 (by decide) (fun hc => ?_) (fun hc => ?_)
    · have hf := ifT hc hf
      refine ww_aload_n (pc := 17) C dX7_end_17 rfl 0 rfl ?_
      refine gf7_0 (pc := 18) C kf_X7_12 0 rfl rfl dX7_end_18 ?_
      refine ww_iload_n (pc := 21) C dX7_end_21 rfl 1 rfl ?_
      refine pf6_1 (pc := 22) (ws' := [oX7 q_this q_text q_row q_now q_trial q_doors q_history q_kept, oX6 q_text q_text_signs x1]) C kf_X7_59 1 rfl (Nat.le_of_ble_eq_true rfl) rfl dX7_end_22 ?_
      refine ww_iconst (pc := 25) C dX7_end_25 kI_1 ?_
      obtain ⟨e0, e1⟩ := ij2 hf
      exact hret _ _ 26 _ dX7_end_26 (by decide) e0 (by rw [← e1])
    · have hf := ifF hc hf
      refine ww_iconst (pc := 15) C dX7_end_15 kI_0 ?_
      obtain ⟨e0, e1⟩ := ij2 hf
      exact hret _ _ 16 _ dX7_end_16 (by decide) e0 (by rw [← e1])
def fX7_readLabels_b85 (c_text_length : Int32) (c_text_signs : Nat → Int32) (rc72 : Int32 → (Nat → Int32) → Int32 → Int32 → Option (Int32 × Int32 × (Nat → Int32))) (rc85 : Int32 → (Nat → Int32) → Int32 → Int32 → Int32 → Option (Int32 × Int32 × (Nat → Int32))) (c_trial_size : Int32) (c_trial_marks : Nat → Int32) (n1 : Int32) (n2 : Int32) (n3 : Int32) : Option (Int32 × Int32 × (Nat → Int32)) := if (c_trial_size - n2) < n3 then (some (n2 + (1 : Int32))).bind fun v1 => rc72 c_trial_size c_trial_marks n1 v1 else (fX6_digit c_text_length c_text_signs n1).bind fun v2 => (fX1_canHave c_trial_size n2 n3 v2).bind fun v3 => if v3 = 0 then some (n1, c_trial_size, c_trial_marks) else (fX6_digit c_text_length c_text_signs n1).bind fun v4 => (fX1_put c_trial_size c_trial_marks n2 n3 v4).bind fun v5 => (some (n1 + (1 : Int32))).bind fun v6 => (some (n3 + (1 : Int32))).bind fun v7 => rc85 c_trial_size v5 v6 n2 v7
def fX7_readLabels_b72 (c_text_length : Int32) (c_text_signs : Nat → Int32) (rc72 : Int32 → (Nat → Int32) → Int32 → Int32 → Option (Int32 × Int32 × (Nat → Int32))) (c_trial_size : Int32) (c_trial_marks : Nat → Int32) (n1 : Int32) (n2 : Int32) : Option (Int32 × Int32 × (Nat → Int32)) := if c_trial_size < n2 then if c_text_length ≤ n1 then some ((-1 : Int32), c_trial_size, c_trial_marks) else some (n1, c_trial_size, c_trial_marks) else lfix (fX7_readLabels_b85 c_text_length c_text_signs rc72) (fun _ _ _ _ _ => none) FU c_trial_size c_trial_marks n1 n2 (0 : Int32)
def fX7_readLabels (c_text_length : Int32) (c_text_signs : Nat → Int32) (c_trial_size : Int32) (c_trial_marks : Nat → Int32) : Option (Int32 × Int32 × (Nat → Int32)) := (fX6_digit c_text_length c_text_signs (0 : Int32)).bind fun v1 => if v1 = (-1 : Int32) then some ((0 : Int32), c_trial_size, c_trial_marks) else (fX6_digit c_text_length c_text_signs (1 : Int32)).bind fun v2 => if v2 = (-1 : Int32) then some ((1 : Int32), c_trial_size, c_trial_marks) else (fX6_twoDigits c_text_length c_text_signs (0 : Int32)).bind fun v3 => if v3 < (1 : Int32) then some ((1 : Int32), c_trial_size, c_trial_marks) else (fX6_twoDigits c_text_length c_text_signs (0 : Int32)).bind fun v4 => if v4 ≤ (10 : Int32) then (fX6_twoDigits c_text_length c_text_signs (0 : Int32)).bind fun v5 => lfix (fX7_readLabels_b72 c_text_length c_text_signs) (fun _ _ _ _ => none) FU v5 c_trial_marks (2 : Int32) (0 : Int32) else some ((1 : Int32), c_trial_size, c_trial_marks)
set_option maxHeartbeats 4000000 in
set_option maxRecDepth 100000 in
theorem tX7_readLabels (l : Launch) (D : va_G) (k : Nat → ClassId) (q_this q_text q_row q_now q_trial q_doors q_history q_kept q_text_signs q_trial_marks : Nat) (c_text_length : Int32) (c_text_signs : Nat → Int32) (c_trial_size : Int32) (c_trial_full : Int32) (c_trial_turns : Int32) (c_trial_firstFull : Int32) (c_trial_lastFull : Int32) (c_trial_marks : Nat → Int32)  (r_ : Int32) (w_trial_size : Int32) (w_trial_marks : Nat → Int32) (hf : fX7_readLabels c_text_length c_text_signs c_trial_size c_trial_marks = some (r_, w_trial_size, w_trial_marks)) : MI l yX7_readLabels cX7_readLabels 4 .int (RM 3 64) D k [.ref q_this] [oX7 q_this q_text q_row q_now q_trial q_doors q_history q_kept, oX6 q_text q_text_signs c_text_length, aI k q_text_signs 80 c_text_signs, oX1 q_trial q_trial_marks c_trial_size c_trial_full c_trial_turns c_trial_firstFull c_trial_lastFull, aI k q_trial_marks 153 c_trial_marks] r_ [oX7 q_this q_text q_row q_now q_trial q_doors q_history q_kept, oX6 q_text q_text_signs c_text_length, aI k q_text_signs 80 c_text_signs, oX1 q_trial q_trial_marks w_trial_size c_trial_full c_trial_turns c_trial_firstFull c_trial_lastFull, aI k q_trial_marks 153 w_trial_marks] := by
  refine mkMI' (own := "DoorWalk") (by decide) rfl (Nat.le_of_ble_eq_true rfl) ?_
  intro p e s m args below meth c Q A hret C
  refine ww_lv (lv' := [(0, .ref q_this)]) [0] rfl ?_
  have hL72 : ∀ (n : Nat) (c_trial_size : Int32) (c_trial_marks : Nat → Int32) (n1 : Int32) (n2 : Int32), lfix (fX7_readLabels_b72 c_text_length c_text_signs) (fun _ _ _ _ => none) n c_trial_size c_trial_marks n1 n2 = some (r_, w_trial_size, w_trial_marks) → WW p l e (RM 3 64) s m args below meth c Q 4 D A 0 0 [oX7 q_this q_text q_row q_now q_trial q_doors q_history q_kept, oX6 q_text q_text_signs c_text_length, aI k q_text_signs 80 c_text_signs, oX1 q_trial q_trial_marks c_trial_size c_trial_full c_trial_turns c_trial_firstFull c_trial_lastFull, aI k q_trial_marks 153 c_trial_marks] [(0, .ref q_this), (1, .int n1), (2, .int n2)] 72 [] := by
    intro n
    induction n with
    | zero => intro c_trial_size c_trial_marks n1 n2 hf; cases hf
    | succ n ih72 =>
      obtain ⟨rc72, hrc72⟩ : ∃ f9, f9 = lfix (fX7_readLabels_b72 c_text_length c_text_signs) (fun _ _ _ _ => none) n := ⟨_, rfl⟩
      rw [← hrc72] at ih72
      have hL85 : ∀ (n : Nat) (c_trial_size : Int32) (c_trial_marks : Nat → Int32) (n1 : Int32) (n2 : Int32) (n3 : Int32), lfix (fX7_readLabels_b85 c_text_length c_text_signs rc72) (fun _ _ _ _ _ => none) n c_trial_size c_trial_marks n1 n2 n3 = some (r_, w_trial_size, w_trial_marks) → WW p l e (RM 3 64) s m args below meth c Q 4 D A 0 0 [oX7 q_this q_text q_row q_now q_trial q_doors q_history q_kept, oX6 q_text q_text_signs c_text_length, aI k q_text_signs 80 c_text_signs, oX1 q_trial q_trial_marks c_trial_size c_trial_full c_trial_turns c_trial_firstFull c_trial_lastFull, aI k q_trial_marks 153 c_trial_marks] [(0, .ref q_this), (1, .int n1), (2, .int n2), (3, .int n3)] 85 [] := by
        intro n
        induction n with
        | zero => intro c_trial_size c_trial_marks n1 n2 n3 hf; cases hf
        | succ n ih85 =>
          obtain ⟨rc85, hrc85⟩ : ∃ f9, f9 = lfix (fX7_readLabels_b85 c_text_length c_text_signs rc72) (fun _ _ _ _ _ => none) n := ⟨_, rfl⟩
          rw [← hrc85] at ih85
          intro c_trial_size c_trial_marks n1 n2 n3 hf
          have hf : fX7_readLabels_b85 c_text_length c_text_signs rc72 rc85 c_trial_size c_trial_marks n1 n2 n3 = some (r_, w_trial_size, w_trial_marks) := by rw [hrc85]; exact hf
          unfold fX7_readLabels_b85 at hf
          refine ww_iload_n (pc := 85) C dX7_readLabels_85 rfl 3 rfl ?_
          refine ww_aload_n (pc := 86) C dX7_readLabels_86 rfl 0 rfl ?_
          refine gf7_3 (pc := 87) C kf_X7_33 0 rfl rfl dX7_readLabels_87 ?_
          refine gf1_1 (pc := 90) C kf_X7_198 3 rfl rfl dX7_readLabels_90 ?_
          refine ww_iload_n (pc := 93) C dX7_readLabels_93 rfl 2 rfl ?_
          refine ww_isub (pc := 94) C dX7_readLabels_94  ?_
          refine ww_icmp_gt (pc := 95) (tgt := 146) C dX7_readLabels_95 (by decide) (fun hc => ?_) (fun hc => ?_)
          · have hf := ifT hc hf
            obtain ⟨v1, h1, hf⟩ := bsome hf
            refine ww_iincN (pc := 146) (lv' := [(2, .int v1), (0, .ref q_this), (1, .int n1), (3, .int n3)]) (j := 2) C dX7_readLabels_146 kI_1 rfl h1 (by decide) rfl ?_
            refine ww_goto (pc := 149) (tgt := 72) C dX7_readLabels_149 (by decide) ?_
            exact ww_lv [1, 2, 0] rfl (ih72 c_trial_size c_trial_marks n1 v1 hf)
          · have hf := ifF hc hf
            refine ww_aload_n (pc := 98) C dX7_readLabels_98 rfl 0 rfl ?_
            refine gf7_3 (pc := 99) C kf_X7_33 0 rfl rfl dX7_readLabels_99 ?_
            refine ww_iload_n (pc := 102) C dX7_readLabels_102 rfl 2 rfl ?_
            refine ww_iload_n (pc := 103) C dX7_readLabels_103 rfl 3 rfl ?_
            refine ww_aload_n (pc := 104) C dX7_readLabels_104 rfl 0 rfl ?_
            refine gf7_0 (pc := 105) C kf_X7_12 0 rfl rfl dX7_readLabels_105 ?_
            refine ww_iload_n (pc := 108) C dX7_readLabels_108 rfl 1 rfl ?_
            obtain ⟨v2, h2, hf⟩ := bsome hf
            refine ww_callVi0 (pc := 109) (As := [.int n1]) (rest := [.int n3, .int n2, .ref q_trial]) C (tX6_digit l D k q_text q_text_signs c_text_length c_text_signs n1 v2 h2) cv_X7_406 ⟨⟨by decide, by decide⟩, rfl, rfl⟩ 1 rfl rfl [1, 2] rfl rfl rfl rfl (Nat.le_of_ble_eq_true rfl) ⟨Nat.zero_le _, Nat.zero_le _⟩ dX7_readLabels_109 (fun hb2 => ?_)
            obtain ⟨v3, h3, hf⟩ := bsome hf
            refine ww_callVi0 (pc := 112) (As := [.int n2, .int n3, .int v2]) (rest := []) C (tX1_canHave l D k q_trial q_trial_marks c_trial_size c_trial_full c_trial_turns c_trial_firstFull c_trial_lastFull n2 n3 v2 v3 h3) cv_X7_331 ⟨⟨by decide, by decide⟩, rfl, rfl⟩ 3 rfl rfl [3] rfl rfl rfl rfl (Nat.le_of_ble_eq_true rfl) ⟨Nat.zero_le _, Nat.zero_le _⟩ dX7_readLabels_112 (fun hb3 => ?_)
            refine ww_if_ne (pc := 115) (tgt := 120) C dX7_readLabels_115 (by decide) (fun hc => ?_) (fun hc => ?_)
            · have hf := ifF hc hf
              refine ww_aload_n (pc := 120) C dX7_readLabels_120 rfl 0 rfl ?_
              refine gf7_3 (pc := 121) C kf_X7_33 0 rfl rfl dX7_readLabels_121 ?_
              refine ww_iload_n (pc := 124) C dX7_readLabels_124 rfl 2 rfl ?_
              refine ww_iload_n (pc := 125) C dX7_readLabels_125 rfl 3 rfl ?_
              refine ww_aload_n (pc := 126) C dX7_readLabels_126 rfl 0 rfl ?_
              refine gf7_0 (pc := 127) C kf_X7_12 0 rfl rfl dX7_readLabels_127 ?_
              refine ww_iload_n (pc := 130) C dX7_readLabels_130 rfl 1 rfl ?_
              obtain ⟨v4, h4, hf⟩ := bsome hf
              refine ww_callVi0 (pc := 131) (As := [.int n1]) (rest := [.int n3, .int n2, .ref q_trial]) C (tX6_digit l D k q_text q_text_signs c_text_length c_text_signs n1 v4 h4) cv_X7_406 ⟨⟨by decide, by decide⟩, rfl, rfl⟩ 1 rfl rfl [1, 2] rfl rfl rfl rfl (Nat.le_of_ble_eq_true rfl) ⟨Nat.zero_le _, Nat.zero_le _⟩ dX7_readLabels_131 (fun hb4 => ?_)
              obtain ⟨v5, h5, hf⟩ := bsome hf
              refine ww_callVv (pc := 134) (ws' := [oX7 q_this q_text q_row q_now q_trial q_doors q_history q_kept, oX6 q_text q_text_signs c_text_length, aI k q_text_signs 80 c_text_signs, oX1 q_trial q_trial_marks c_trial_size c_trial_full c_trial_turns c_trial_firstFull c_trial_lastFull, aI k q_trial_marks 153 v5]) (As := [.int n2, .int n3, .int v4]) (rest := []) C (tX1_put l D k q_trial q_trial_marks c_trial_size c_trial_full c_trial_turns c_trial_firstFull c_trial_lastFull c_trial_marks n2 n3 v4 v5 h5) cv_X7_335 ⟨⟨by decide, by decide⟩, rfl, rfl⟩ 3 rfl rfl [3, 4] rfl rfl rfl rfl rfl rfl (Nat.le_of_ble_eq_true rfl) ⟨Nat.zero_le _, Nat.zero_le _⟩ dX7_readLabels_134 ?_
              obtain ⟨v6, h6, hf⟩ := bsome hf
              refine ww_iincN (pc := 137) (lv' := [(1, .int v6), (0, .ref q_this), (2, .int n2), (3, .int n3)]) (j := 1) C dX7_readLabels_137 kI_1 rfl h6 (by decide) rfl ?_
              obtain ⟨v7, h7, hf⟩ := bsome hf
              refine ww_iincN (pc := 140) (lv' := [(3, .int v7), (1, .int v6), (0, .ref q_this), (2, .int n2)]) (j := 3) C dX7_readLabels_140 kI_1 rfl h7 (by decide) rfl ?_
              refine ww_goto (pc := 143) (tgt := 85) C dX7_readLabels_143 (by decide) ?_
              exact ww_lv [2, 1, 3, 0] rfl (ih85 c_trial_size v5 v6 n2 v7 hf)
            · have hf := ifT hc hf
              refine ww_iload_n (pc := 118) C dX7_readLabels_118 rfl 1 rfl ?_
              obtain ⟨e0, e1, e2⟩ := ij3 hf
              exact hret _ _ 119 _ dX7_readLabels_119 rfl e0 (by rw [← e1, ← e2])
      intro c_trial_size c_trial_marks n1 n2 hf
      have hf : fX7_readLabels_b72 c_text_length c_text_signs rc72 c_trial_size c_trial_marks n1 n2 = some (r_, w_trial_size, w_trial_marks) := by rw [hrc72]; exact hf
      unfold fX7_readLabels_b72 at hf
      refine ww_iload_n (pc := 72) C dX7_readLabels_72 rfl 2 rfl ?_
      refine ww_aload_n (pc := 73) C dX7_readLabels_73 rfl 0 rfl ?_
      refine gf7_3 (pc := 74) C kf_X7_33 0 rfl rfl dX7_readLabels_74 ?_
      refine gf1_1 (pc := 77) C kf_X7_198 3 rfl rfl dX7_readLabels_77 ?_
      refine ww_icmp_gt (pc := 80) (tgt := 152) C dX7_readLabels_80 (by decide) (fun hc => ?_) (fun hc => ?_)
      · have hf := ifT hc hf
        refine ww_iload_n (pc := 152) C dX7_readLabels_152 rfl 1 rfl ?_
        refine ww_aload_n (pc := 153) C dX7_readLabels_153 rfl 0 rfl ?_
        refine gf7_0 (pc := 154) C kf_X7_12 0 rfl rfl dX7_readLabels_154 ?_
        refine gf6_1 (pc := 157) C kf_X7_59 1 rfl rfl dX7_readLabels_157 ?_
        refine ww_icmp_ge (pc := 160) (tgt := 167) C dX7_readLabels_160 (by decide) (fun hc => ?_) (fun hc => ?_)
        · have hf := ifT hc hf
          refine ww_iconst (pc := 167) C dX7_readLabels_167 kI_m1 ?_
          obtain ⟨e0, e1, e2⟩ := ij3 hf
          exact hret _ _ 168 _ dX7_readLabels_168 rfl e0 (by rw [← e1, ← e2])
        · have hf := ifF hc hf
          refine ww_iload_n (pc := 163) C dX7_readLabels_163 rfl 1 rfl ?_
          refine ww_goto (pc := 164) (tgt := 168) C dX7_readLabels_164 (by decide) ?_
          obtain ⟨e0, e1, e2⟩ := ij3 hf
          exact hret _ _ 168 _ dX7_readLabels_168 rfl e0 (by rw [← e1, ← e2])
      · have hf := ifF hc hf
        refine ww_iconst (pc := 83) C dX7_readLabels_83 kI_0 ?_
        refine ww_istore_n (pc := 84) (lv' := [(3, .int (0 : Int32)), (0, .ref q_this), (1, .int n1), (2, .int n2)]) C dX7_readLabels_84 rfl (by decide) rfl ?_
        exact ww_lv [1, 2, 3, 0] rfl (hL85 FU c_trial_size c_trial_marks n1 n2 (0 : Int32) hf)
  unfold fX7_readLabels at hf
  refine ww_aload_n (pc := 0) C dX7_readLabels_0 rfl 0 rfl ?_
  refine gf7_0 (pc := 1) C kf_X7_12 0 rfl rfl dX7_readLabels_1 ?_
  refine ww_iconst (pc := 4) C dX7_readLabels_4 kI_0 ?_
  obtain ⟨v1, h1, hf⟩ := bsome hf
  refine ww_callVi0 (pc := 5) (As := [.int (0 : Int32)]) (rest := []) C (tX6_digit l D k q_text q_text_signs c_text_length c_text_signs (0 : Int32) v1 h1) cv_X7_406 ⟨⟨by decide, by decide⟩, rfl, rfl⟩ 1 rfl rfl [1, 2] rfl rfl rfl rfl (Nat.le_of_ble_eq_true rfl) ⟨Nat.zero_le _, Nat.zero_le _⟩ dX7_readLabels_5 (fun hb1 => ?_)
  refine ww_iconst (pc := 8) C dX7_readLabels_8 kI_m1 ?_
  refine ww_icmp_ne (pc := 9) (tgt := 14) C dX7_readLabels_9 (by decide) (fun hc => ?_) (fun hc => ?_)
  · have hf := ifF hc hf
    refine ww_aload_n (pc := 14) C dX7_readLabels_14 rfl 0 rfl ?_
    refine gf7_0 (pc := 15) C kf_X7_12 0 rfl rfl dX7_readLabels_15 ?_
    refine ww_iconst (pc := 18) C dX7_readLabels_18 kI_1 ?_
    obtain ⟨v2, h2, hf⟩ := bsome hf
    refine ww_callVi0 (pc := 19) (As := [.int (1 : Int32)]) (rest := []) C (tX6_digit l D k q_text q_text_signs c_text_length c_text_signs (1 : Int32) v2 h2) cv_X7_406 ⟨⟨by decide, by decide⟩, rfl, rfl⟩ 1 rfl rfl [1, 2] rfl rfl rfl rfl (Nat.le_of_ble_eq_true rfl) ⟨Nat.zero_le _, Nat.zero_le _⟩ dX7_readLabels_19 (fun hb2 => ?_)
    refine ww_iconst (pc := 22) C dX7_readLabels_22 kI_m1 ?_
    refine ww_icmp_eq (pc := 23) (tgt := 51) C dX7_readLabels_23 (by decide) (fun hc => ?_) (fun hc => ?_)
    · have hf := ifT hc hf
      refine ww_iconst (pc := 51) C dX7_readLabels_51 kI_1 ?_
      obtain ⟨e0, e1, e2⟩ := ij3 hf
      exact hret _ _ 52 _ dX7_readLabels_52 rfl e0 (by rw [← e1, ← e2])
    · have hf := ifF hc hf
      refine ww_aload_n (pc := 26) C dX7_readLabels_26 rfl 0 rfl ?_
      refine gf7_0 (pc := 27) C kf_X7_12 0 rfl rfl dX7_readLabels_27 ?_
      refine ww_iconst (pc := 30) C dX7_readLabels_30 kI_0 ?_
      obtain ⟨v3, h3, hf⟩ := bsome hf
      refine ww_callVi0 (pc := 31) (As := [.int (0 : Int32)]) (rest := []) C (tX6_twoDigits l D k q_text q_text_signs c_text_length c_text_signs (0 : Int32) v3 h3) cv_X7_409 ⟨⟨by decide, by decide⟩, rfl, rfl⟩ 1 rfl rfl [1, 2] rfl rfl rfl rfl (Nat.le_of_ble_eq_true rfl) ⟨Nat.zero_le _, Nat.zero_le _⟩ dX7_readLabels_31 (fun hb3 => ?_)
      refine ww_iconst (pc := 34) C dX7_readLabels_34 kI_1 ?_
      refine ww_icmp_lt (pc := 35) (tgt := 51) C dX7_readLabels_35 (by decide) (fun hc => ?_) (fun hc => ?_)
      · have hf := ifT hc hf
        refine ww_iconst (pc := 51) C dX7_readLabels_51 kI_1 ?_
        obtain ⟨e0, e1, e2⟩ := ij3 hf
        exact hret _ _ 52 _ dX7_readLabels_52 rfl e0 (by rw [← e1, ← e2])
      · have hf := ifF hc hf
        refine ww_aload_n (pc := 38) C dX7_readLabels_38 rfl 0 rfl ?_
        refine gf7_0 (pc := 39) C kf_X7_12 0 rfl rfl dX7_readLabels_39 ?_
        refine ww_iconst (pc := 42) C dX7_readLabels_42 kI_0 ?_
        obtain ⟨v4, h4, hf⟩ := bsome hf
        refine ww_callVi0 (pc := 43) (As := [.int (0 : Int32)]) (rest := []) C (tX6_twoDigits l D k q_text q_text_signs c_text_length c_text_signs (0 : Int32) v4 h4) cv_X7_409 ⟨⟨by decide, by decide⟩, rfl, rfl⟩ 1 rfl rfl [1, 2] rfl rfl rfl rfl (Nat.le_of_ble_eq_true rfl) ⟨Nat.zero_le _, Nat.zero_le _⟩ dX7_readLabels_43 (fun hb4 => ?_)
        refine ww_bipush (pc := 46) C dX7_readLabels_46 kB_10 ?_
        refine ww_icmp_le (pc := 48) (tgt := 53) C dX7_readLabels_48 (by decide) (fun hc => ?_) (fun hc => ?_)
        · have hf := ifT hc hf
          refine ww_aload_n (pc := 53) C dX7_readLabels_53 rfl 0 rfl ?_
          refine gf7_3 (pc := 54) C kf_X7_33 0 rfl rfl dX7_readLabels_54 ?_
          refine ww_aload_n (pc := 57) C dX7_readLabels_57 rfl 0 rfl ?_
          refine gf7_0 (pc := 58) C kf_X7_12 0 rfl rfl dX7_readLabels_58 ?_
          refine ww_iconst (pc := 61) C dX7_readLabels_61 kI_0 ?_
          obtain ⟨v5, h5, hf⟩ := bsome hf
          refine ww_callVi0 (pc := 62) (As := [.int (0 : Int32)]) (rest := [.ref q_trial]) C (tX6_twoDigits l D k q_text q_text_signs c_text_length c_text_signs (0 : Int32) v5 h5) cv_X7_409 ⟨⟨by decide, by decide⟩, rfl, rfl⟩ 1 rfl rfl [1, 2] rfl rfl rfl rfl (Nat.le_of_ble_eq_true rfl) ⟨Nat.zero_le _, Nat.zero_le _⟩ dX7_readLabels_62 (fun hb5 => ?_)
          refine pf1_1 (pc := 65) (ws' := [oX7 q_this q_text q_row q_now q_trial q_doors q_history q_kept, oX6 q_text q_text_signs c_text_length, aI k q_text_signs 80 c_text_signs, oX1 q_trial q_trial_marks v5 c_trial_full c_trial_turns c_trial_firstFull c_trial_lastFull, aI k q_trial_marks 153 c_trial_marks]) C kf_X7_198 3 rfl (Nat.le_of_ble_eq_true rfl) rfl dX7_readLabels_65 ?_
          refine ww_iconst (pc := 68) C dX7_readLabels_68 kI_2 ?_
          refine ww_istore_n (pc := 69) (lv' := [(1, .int (2 : Int32)), (0, .ref q_this)]) C dX7_readLabels_69 rfl (by decide) rfl ?_
          refine ww_iconst (pc := 70) C dX7_readLabels_70 kI_0 ?_
          refine ww_istore_n (pc := 71) (lv' := [(2, .int (0 : Int32)), (1, .int (2 : Int32)), (0, .ref q_this)]) C dX7_readLabels_71 rfl (by decide) rfl ?_
          exact ww_lv [2, 1, 0] rfl (hL72 FU v5 c_trial_marks (2 : Int32) (0 : Int32) hf)
        · have hf := ifF hc hf
          refine ww_iconst (pc := 51) C dX7_readLabels_51 kI_1 ?_
          obtain ⟨e0, e1, e2⟩ := ij3 hf
          exact hret _ _ 52 _ dX7_readLabels_52 rfl e0 (by rw [← e1, ← e2])
  · have hf := ifT hc hf
    refine ww_iconst (pc := 12) C dX7_readLabels_12 kI_0 ?_
    obtain ⟨e0, e1, e2⟩ := ij3 hf
    exact hret _ _ 13 _ dX7_readLabels_13 rfl e0 (by rw [← e1, ← e2])
def fX7_wrongInExchange_b41 (c_text_length : Int32) (c_text_signs : Nat → Int32) (rc2 : Int32 → Option Int32) (rc22 : Int32 → Int32 → Int32 → Int32 → Option Int32) (n1 : Int32) (n2 : Int32) (n3 : Int32) (n4 : Int32) (s0 : Int32) : Option Int32 := (fX6_digit c_text_length c_text_signs n4).bind fun v1 => if s0 ≤ v1 then (some (n4 + (1 : Int32))).bind fun v2 => rc22 n1 n2 n3 v2 else some (n4)
def fX7_wrongInExchange_b22 (c_text_length : Int32) (c_text_signs : Nat → Int32) (rc2 : Int32 → Option Int32) (rc22 : Int32 → Int32 → Int32 → Int32 → Option Int32) (n1 : Int32) (n2 : Int32) (n3 : Int32) (n4 : Int32) : Option Int32 := if n3 ≤ n4 then if n3 = c_text_length then some ((-1 : Int32)) else (fX6_at c_text_length c_text_signs n3).bind fun v1 => if v1 = (59 : Int32) then if n1 = (3 : Int32) then some (n3) else (some (n1 + (1 : Int32))).bind fun v2 => rc2 v2 else some (n3) else if (3 : Int32) ≤ (n4 - n2) then fX7_wrongInExchange_b41 c_text_length c_text_signs rc2 rc22 n1 n2 n3 n4 (1 : Int32) else fX7_wrongInExchange_b41 c_text_length c_text_signs rc2 rc22 n1 n2 n3 n4 (0 : Int32)
def fX7_wrongInExchange_b2 (c_text_length : Int32) (c_text_signs : Nat → Int32) (rc2 : Int32 → Option Int32) (n1 : Int32) : Option Int32 := if (4 : Int32) ≤ n1 then some ((-1 : Int32)) else (some ((7 : Int32) * n1)).bind fun v1 => (some ((v1 + (7 : Int32)) - (1 : Int32))).bind fun v2 => lfix (fX7_wrongInExchange_b22 c_text_length c_text_signs rc2) (fun _ _ _ _ => none) FU n1 v1 v2 v1
def fX7_wrongInExchange (c_text_length : Int32) (c_text_signs : Nat → Int32) : Option Int32 := lfix (fX7_wrongInExchange_b2 c_text_length c_text_signs) (fun _ => none) FU (0 : Int32)
set_option maxHeartbeats 4000000 in
set_option maxRecDepth 100000 in
theorem tX7_wrongInExchange (l : Launch) (D : va_G) (k : Nat → ClassId) (q_this q_text q_row q_now q_trial q_doors q_history q_kept q_text_signs : Nat) (c_text_length : Int32) (c_text_signs : Nat → Int32)  (r_ : Int32) (hf : fX7_wrongInExchange c_text_length c_text_signs = some (r_)) : MI l yX7_wrongInExchange cX7_wrongInExchange 6 .int (RM 2 43) D k [.ref q_this] [oX7 q_this q_text q_row q_now q_trial q_doors q_history q_kept, oX6 q_text q_text_signs c_text_length, aI k q_text_signs 80 c_text_signs] r_ [oX7 q_this q_text q_row q_now q_trial q_doors q_history q_kept, oX6 q_text q_text_signs c_text_length, aI k q_text_signs 80 c_text_signs] := by
  refine mkMI' (own := "DoorWalk") (by decide) rfl (Nat.le_of_ble_eq_true rfl) ?_
  intro p e s m args below meth c Q A hret C
  refine ww_lv (lv' := [(0, .ref q_this)]) [0] rfl ?_
  have hL2 : ∀ (n : Nat) (n1 : Int32), lfix (fX7_wrongInExchange_b2 c_text_length c_text_signs) (fun _ => none) n n1 = some (r_) → WW p l e (RM 2 43) s m args below meth c Q 6 D A 0 0 [oX7 q_this q_text q_row q_now q_trial q_doors q_history q_kept, oX6 q_text q_text_signs c_text_length, aI k q_text_signs 80 c_text_signs] [(0, .ref q_this), (1, .int n1)] 2 [] := by
    intro n
    induction n with
    | zero => intro n1 hf; cases hf
    | succ n ih2 =>
      obtain ⟨rc2, hrc2⟩ : ∃ f9, f9 = lfix (fX7_wrongInExchange_b2 c_text_length c_text_signs) (fun _ => none) n := ⟨_, rfl⟩
      rw [← hrc2] at ih2
      have hL22 : ∀ (n : Nat) (n1 : Int32) (n2 : Int32) (n3 : Int32) (n4 : Int32), lfix (fX7_wrongInExchange_b22 c_text_length c_text_signs rc2) (fun _ _ _ _ => none) n n1 n2 n3 n4 = some (r_) → WW p l e (RM 2 43) s m args below meth c Q 6 D A 0 0 [oX7 q_this q_text q_row q_now q_trial q_doors q_history q_kept, oX6 q_text q_text_signs c_text_length, aI k q_text_signs 80 c_text_signs] [(0, .ref q_this), (1, .int n1), (2, .int n2), (3, .int n3), (4, .int n4)] 22 [] := by
        intro n
        induction n with
        | zero => intro n1 n2 n3 n4 hf; cases hf
        | succ n ih22 =>
          obtain ⟨rc22, hrc22⟩ : ∃ f9, f9 = lfix (fX7_wrongInExchange_b22 c_text_length c_text_signs rc2) (fun _ _ _ _ => none) n := ⟨_, rfl⟩
          rw [← hrc22] at ih22
          have hJ41 : ∀ (n1 : Int32) (n2 : Int32) (n3 : Int32) (n4 : Int32) (s0 : Int32), fX7_wrongInExchange_b41 c_text_length c_text_signs rc2 rc22 n1 n2 n3 n4 s0 = some (r_) → WW p l e (RM 2 43) s m args below meth c Q 6 D A 0 0 [oX7 q_this q_text q_row q_now q_trial q_doors q_history q_kept, oX6 q_text q_text_signs c_text_length, aI k q_text_signs 80 c_text_signs] [(0, .ref q_this), (1, .int n1), (2, .int n2), (3, .int n3), (4, .int n4)] 41 [.int s0] := by
            intro n1 n2 n3 n4 s0
            intro hf
            unfold fX7_wrongInExchange_b41 at hf
            refine ww_istore (pc := 41) (lv' := [(5, .int s0), (0, .ref q_this), (1, .int n1), (2, .int n2), (3, .int n3), (4, .int n4)]) C dX7_wrongInExchange_41 (by decide) rfl ?_
            refine ww_aload_n (pc := 43) C dX7_wrongInExchange_43 rfl 1 rfl ?_
            refine gf7_0 (pc := 44) C kf_X7_12 0 rfl rfl dX7_wrongInExchange_44 ?_
            refine ww_iload (pc := 47) C dX7_wrongInExchange_47 5 rfl ?_
            obtain ⟨v1, h1, hf⟩ := bsome hf
            refine ww_callVi0 (pc := 49) (As := [.int n4]) (rest := []) C (tX6_digit l D k q_text q_text_signs c_text_length c_text_signs n4 v1 h1) cv_X7_406 ⟨⟨by decide, by decide⟩, rfl, rfl⟩ 1 rfl rfl [1, 2] rfl rfl rfl rfl (Nat.le_of_ble_eq_true rfl) ⟨Nat.zero_le _, Nat.zero_le _⟩ dX7_wrongInExchange_49 (fun hb1 => ?_)
            refine ww_iload (pc := 52) C dX7_wrongInExchange_52 0 rfl ?_
            refine ww_icmp_ge (pc := 54) (tgt := 60) C dX7_wrongInExchange_54 (by decide) (fun hc => ?_) (fun hc => ?_)
            · have hf := ifT hc hf
              obtain ⟨v2, h2, hf⟩ := bsome hf
              refine ww_iincN (pc := 60) (lv' := [(4, .int v2), (5, .int s0), (0, .ref q_this), (1, .int n1), (2, .int n2), (3, .int n3)]) (j := 5) C dX7_wrongInExchange_60 kI_1 rfl h2 (by decide) rfl ?_
              refine ww_goto (pc := 63) (tgt := 22) C dX7_wrongInExchange_63 (by decide) ?_
              exact ww_lv [2, 3, 4, 5, 0] rfl (ih22 n1 n2 n3 v2 hf)
            · have hf := ifF hc hf
              refine ww_iload (pc := 57) C dX7_wrongInExchange_57 5 rfl ?_
              obtain e0 := ij1 hf
              exact hret _ _ 59 _ dX7_wrongInExchange_59 rfl e0 rfl
          intro n1 n2 n3 n4 hf
          have hf : fX7_wrongInExchange_b22 c_text_length c_text_signs rc2 rc22 n1 n2 n3 n4 = some (r_) := by rw [hrc22]; exact hf
          unfold fX7_wrongInExchange_b22 at hf
          refine ww_iload (pc := 22) C dX7_wrongInExchange_22 4 rfl ?_
          refine ww_iload_n (pc := 24) C dX7_wrongInExchange_24 rfl 3 rfl ?_
          refine ww_icmp_ge (pc := 25) (tgt := 66) C dX7_wrongInExchange_25 (by decide) (fun hc => ?_) (fun hc => ?_)
          · have hf := ifT hc hf
            refine ww_iload_n (pc := 66) C dX7_wrongInExchange_66 rfl 3 rfl ?_
            refine ww_aload_n (pc := 67) C dX7_wrongInExchange_67 rfl 0 rfl ?_
            refine gf7_0 (pc := 68) C kf_X7_12 0 rfl rfl dX7_wrongInExchange_68 ?_
            refine gf6_1 (pc := 71) C kf_X7_59 1 rfl rfl dX7_wrongInExchange_71 ?_
            refine ww_icmp_ne (pc := 74) (tgt := 79) C dX7_wrongInExchange_74 (by decide) (fun hc => ?_) (fun hc => ?_)
            · have hf := ifF hc hf
              refine ww_aload_n (pc := 79) C dX7_wrongInExchange_79 rfl 0 rfl ?_
              refine gf7_0 (pc := 80) C kf_X7_12 0 rfl rfl dX7_wrongInExchange_80 ?_
              refine ww_iload_n (pc := 83) C dX7_wrongInExchange_83 rfl 3 rfl ?_
              obtain ⟨v1, h1, hf⟩ := bsome hf
              refine ww_callVi0 (pc := 84) (As := [.int n3]) (rest := []) C (tX6_at l D k q_text q_text_signs c_text_length c_text_signs n3 v1 h1) cv_X7_374 ⟨⟨by decide, by decide⟩, rfl, rfl⟩ 1 rfl rfl [1, 2] rfl rfl rfl rfl (Nat.le_of_ble_eq_true rfl) ⟨Nat.zero_le _, Nat.zero_le _⟩ dX7_wrongInExchange_84 (fun hb1 => ?_)
              refine ww_bipush (pc := 87) C dX7_wrongInExchange_87 kB_59 ?_
              refine ww_icmp_ne (pc := 89) (tgt := 97) C dX7_wrongInExchange_89 (by decide) (fun hc => ?_) (fun hc => ?_)
              · have hf := ifF hc hf
                refine ww_iload_n (pc := 97) C dX7_wrongInExchange_97 rfl 3 rfl ?_
                obtain e0 := ij1 hf
                exact hret _ _ 98 _ dX7_wrongInExchange_98 rfl e0 rfl
              · have hf := ifT hc hf
                refine ww_iload_n (pc := 92) C dX7_wrongInExchange_92 rfl 1 rfl ?_
                refine ww_iconst (pc := 93) C dX7_wrongInExchange_93 kI_3 ?_
                refine ww_icmp_ne (pc := 94) (tgt := 99) C dX7_wrongInExchange_94 (by decide) (fun hc => ?_) (fun hc => ?_)
                · have hf := ifF hc hf
                  obtain ⟨v2, h2, hf⟩ := bsome hf
                  refine ww_iincN (pc := 99) (lv' := [(1, .int v2), (0, .ref q_this), (2, .int n2), (3, .int n3), (4, .int n4)]) (j := 1) C dX7_wrongInExchange_99 kI_1 rfl h2 (by decide) rfl ?_
                  refine ww_goto (pc := 102) (tgt := 2) C dX7_wrongInExchange_102 (by decide) ?_
                  exact ww_lv [1, 0] rfl (ih2 v2 hf)
                · have hf := ifT hc hf
                  refine ww_iload_n (pc := 97) C dX7_wrongInExchange_97 rfl 3 rfl ?_
                  obtain e0 := ij1 hf
                  exact hret _ _ 98 _ dX7_wrongInExchange_98 rfl e0 rfl
            · have hf := ifT hc hf
              refine ww_iconst (pc := 77) C dX7_wrongInExchange_77 kI_m1 ?_
              obtain e0 := ij1 hf
              exact hret _ _ 78 _ dX7_wrongInExchange_78 rfl e0 rfl
          · have hf := ifF hc hf
            refine ww_iload (pc := 28) C dX7_wrongInExchange_28 4 rfl ?_
            refine ww_iload_n (pc := 30) C dX7_wrongInExchange_30 rfl 2 rfl ?_
            refine ww_isub (pc := 31) C dX7_wrongInExchange_31  ?_
            refine ww_iconst (pc := 32) C dX7_wrongInExchange_32 kI_3 ?_
            refine ww_icmp_ge (pc := 33) (tgt := 40) C dX7_wrongInExchange_33 (by decide) (fun hc => ?_) (fun hc => ?_)
            · have hf := ifT hc hf
              refine ww_iconst (pc := 40) C dX7_wrongInExchange_40 kI_1 ?_
              exact hJ41 n1 n2 n3 n4 (1 : Int32) hf
            · have hf := ifF hc hf
              refine ww_iconst (pc := 36) C dX7_wrongInExchange_36 kI_0 ?_
              refine ww_goto (pc := 37) (tgt := 41) C dX7_wrongInExchange_37 (by decide) ?_
              exact hJ41 n1 n2 n3 n4 (0 : Int32) hf
      intro n1 hf
      have hf : fX7_wrongInExchange_b2 c_text_length c_text_signs rc2 n1 = some (r_) := by rw [hrc2]; exact hf
      unfold fX7_wrongInExchange_b2 at hf
      refine ww_iload_n (pc := 2) C dX7_wrongInExchange_2 rfl 1 rfl ?_
      refine ww_iconst (pc := 3) C dX7_wrongInExchange_3 kI_4 ?_
      refine ww_icmp_ge (pc := 4) (tgt := 105) C dX7_wrongInExchange_4 (by decide) (fun hc => ?_) (fun hc => ?_)
      · have hf := ifT hc hf
        refine ww_iconst (pc := 105) C dX7_wrongInExchange_105 kI_m1 ?_
        obtain e0 := ij1 hf
        exact hret _ _ 106 _ dX7_wrongInExchange_106 rfl e0 rfl
      · have hf := ifF hc hf
        refine ww_bipush (pc := 7) C dX7_wrongInExchange_7 kB_7 ?_
        refine ww_iload_n (pc := 9) C dX7_wrongInExchange_9 rfl 1 rfl ?_
        refine ww_imul (pc := 10) C dX7_wrongInExchange_10  ?_
        obtain ⟨v1, h1, hf⟩ := bsome hf
        refine ww_nmi h1 ?_
        refine ww_istore_n (pc := 11) (lv' := [(2, .int v1), (0, .ref q_this), (1, .int n1)]) C dX7_wrongInExchange_11 rfl (by decide) rfl ?_
        refine ww_iload_n (pc := 12) C dX7_wrongInExchange_12 rfl 0 rfl ?_
        refine ww_bipush (pc := 13) C dX7_wrongInExchange_13 kB_7 ?_
        refine ww_iadd (pc := 15) C dX7_wrongInExchange_15  ?_
        refine ww_iconst (pc := 16) C dX7_wrongInExchange_16 kI_1 ?_
        refine ww_isub (pc := 17) C dX7_wrongInExchange_17  ?_
        obtain ⟨v2, h2, hf⟩ := bsome hf
        refine ww_nmi h2 ?_
        refine ww_istore_n (pc := 18) (lv' := [(3, .int v2), (2, .int v1), (0, .ref q_this), (1, .int n1)]) C dX7_wrongInExchange_18 rfl (by decide) rfl ?_
        refine ww_iload_n (pc := 19) C dX7_wrongInExchange_19 rfl 1 rfl ?_
        refine ww_istore (pc := 20) (lv' := [(4, .int v1), (3, .int v2), (2, .int v1), (0, .ref q_this), (1, .int n1)]) C dX7_wrongInExchange_20 (by decide) rfl ?_
        exact ww_lv [3, 4, 2, 1, 0] rfl (hL22 FU n1 v1 v2 v1 hf)
  unfold fX7_wrongInExchange at hf
  refine ww_iconst (pc := 0) C dX7_wrongInExchange_0 kI_0 ?_
  refine ww_istore_n (pc := 1) (lv' := [(1, .int (0 : Int32)), (0, .ref q_this)]) C dX7_wrongInExchange_1 rfl (by decide) rfl ?_
  exact ww_lv [1, 0] rfl (hL2 FU (0 : Int32) hf)
def fX7_wrongInMap_b2 (c_text_length : Int32) (c_text_signs : Nat → Int32) (rc2 : Int32 → Option Int32) (n1 : Int32) : Option Int32 := if (9 : Int32) ≤ n1 then if c_text_length ≤ (9 : Int32) then some ((-1 : Int32)) else some ((9 : Int32)) else (fX6_digit c_text_length c_text_signs n1).bind fun v1 => if v1 = (-1 : Int32) then some (n1) else (some (n1 + (1 : Int32))).bind fun v2 => rc2 v2
def fX7_wrongInMap (c_text_length : Int32) (c_text_signs : Nat → Int32) : Option Int32 := lfix (fX7_wrongInMap_b2 c_text_length c_text_signs) (fun _ => none) FU (0 : Int32)
set_option maxHeartbeats 4000000 in
set_option maxRecDepth 100000 in
theorem tX7_wrongInMap (l : Launch) (D : va_G) (k : Nat → ClassId) (q_this q_text q_row q_now q_trial q_doors q_history q_kept q_text_signs : Nat) (c_text_length : Int32) (c_text_signs : Nat → Int32)  (r_ : Int32) (hf : fX7_wrongInMap c_text_length c_text_signs = some (r_)) : MI l yX7_wrongInMap cX7_wrongInMap 2 .int (RM 2 43) D k [.ref q_this] [oX7 q_this q_text q_row q_now q_trial q_doors q_history q_kept, oX6 q_text q_text_signs c_text_length, aI k q_text_signs 80 c_text_signs] r_ [oX7 q_this q_text q_row q_now q_trial q_doors q_history q_kept, oX6 q_text q_text_signs c_text_length, aI k q_text_signs 80 c_text_signs] := by
  refine mkMI' (own := "DoorWalk") (by decide) rfl (Nat.le_of_ble_eq_true rfl) ?_
  intro p e s m args below meth c Q A hret C
  refine ww_lv (lv' := [(0, .ref q_this)]) [0] rfl ?_
  have hL2 : ∀ (n : Nat) (n1 : Int32), lfix (fX7_wrongInMap_b2 c_text_length c_text_signs) (fun _ => none) n n1 = some (r_) → WW p l e (RM 2 43) s m args below meth c Q 2 D A 0 0 [oX7 q_this q_text q_row q_now q_trial q_doors q_history q_kept, oX6 q_text q_text_signs c_text_length, aI k q_text_signs 80 c_text_signs] [(0, .ref q_this), (1, .int n1)] 2 [] := by
    intro n
    induction n with
    | zero => intro n1 hf; cases hf
    | succ n ih2 =>
      obtain ⟨rc2, hrc2⟩ : ∃ f9, f9 = lfix (fX7_wrongInMap_b2 c_text_length c_text_signs) (fun _ => none) n := ⟨_, rfl⟩
      rw [← hrc2] at ih2
      intro n1 hf
      have hf : fX7_wrongInMap_b2 c_text_length c_text_signs rc2 n1 = some (r_) := by rw [hrc2]; exact hf
      unfold fX7_wrongInMap_b2 at hf
      refine ww_iload_n (pc := 2) C dX7_wrongInMap_2 rfl 1 rfl ?_
      refine ww_bipush (pc := 3) C dX7_wrongInMap_3 kB_9 ?_
      refine ww_icmp_ge (pc := 5) (tgt := 28) C dX7_wrongInMap_5 (by decide) (fun hc => ?_) (fun hc => ?_)
      · have hf := ifT hc hf
        refine ww_aload_n (pc := 28) C dX7_wrongInMap_28 rfl 0 rfl ?_
        refine gf7_0 (pc := 29) C kf_X7_12 0 rfl rfl dX7_wrongInMap_29 ?_
        refine gf6_1 (pc := 32) C kf_X7_59 1 rfl rfl dX7_wrongInMap_32 ?_
        refine ww_bipush (pc := 35) C dX7_wrongInMap_35 kB_9 ?_
        refine ww_icmp_le (pc := 37) (tgt := 45) C dX7_wrongInMap_37 (by decide) (fun hc => ?_) (fun hc => ?_)
        · have hf := ifT hc hf
          refine ww_iconst (pc := 45) C dX7_wrongInMap_45 kI_m1 ?_
          obtain e0 := ij1 hf
          exact hret _ _ 46 _ dX7_wrongInMap_46 rfl e0 rfl
        · have hf := ifF hc hf
          refine ww_bipush (pc := 40) C dX7_wrongInMap_40 kB_9 ?_
          refine ww_goto (pc := 42) (tgt := 46) C dX7_wrongInMap_42 (by decide) ?_
          obtain e0 := ij1 hf
          exact hret _ _ 46 _ dX7_wrongInMap_46 rfl e0 rfl
      · have hf := ifF hc hf
        refine ww_aload_n (pc := 8) C dX7_wrongInMap_8 rfl 0 rfl ?_
        refine gf7_0 (pc := 9) C kf_X7_12 0 rfl rfl dX7_wrongInMap_9 ?_
        refine ww_iload_n (pc := 12) C dX7_wrongInMap_12 rfl 1 rfl ?_
        obtain ⟨v1, h1, hf⟩ := bsome hf
        refine ww_callVi0 (pc := 13) (As := [.int n1]) (rest := []) C (tX6_digit l D k q_text q_text_signs c_text_length c_text_signs n1 v1 h1) cv_X7_406 ⟨⟨by decide, by decide⟩, rfl, rfl⟩ 1 rfl rfl [1, 2] rfl rfl rfl rfl (Nat.le_of_ble_eq_true rfl) ⟨Nat.zero_le _, Nat.zero_le _⟩ dX7_wrongInMap_13 (fun hb1 => ?_)
        refine ww_iconst (pc := 16) C dX7_wrongInMap_16 kI_m1 ?_
        refine ww_icmp_ne (pc := 17) (tgt := 22) C dX7_wrongInMap_17 (by decide) (fun hc => ?_) (fun hc => ?_)
        · have hf := ifF hc hf
          obtain ⟨v2, h2, hf⟩ := bsome hf
          refine ww_iincN (pc := 22) (lv' := [(1, .int v2), (0, .ref q_this)]) (j := 1) C dX7_wrongInMap_22 kI_1 rfl h2 (by decide) rfl ?_
          refine ww_goto (pc := 25) (tgt := 2) C dX7_wrongInMap_25 (by decide) ?_
          exact ww_lv [1, 0] rfl (ih2 v2 hf)
        · have hf := ifT hc hf
          refine ww_iload_n (pc := 20) C dX7_wrongInMap_20 rfl 1 rfl ?_
          obtain e0 := ij1 hf
          exact hret _ _ 21 _ dX7_wrongInMap_21 rfl e0 rfl
  unfold fX7_wrongInMap at hf
  refine ww_iconst (pc := 0) C dX7_wrongInMap_0 kI_0 ?_
  refine ww_istore_n (pc := 1) (lv' := [(1, .int (0 : Int32)), (0, .ref q_this)]) C dX7_wrongInMap_1 rfl (by decide) rfl ?_
  exact ww_lv [1, 0] rfl (hL2 FU (0 : Int32) hf)
def fX7_sumOfMap_b30 (c_text_length : Int32) (c_text_signs : Nat → Int32) (rc30 : Int32 → Int32 → Option Int32) (n1 : Int32) (n2 : Int32) : Option Int32 := if (3 : Int32) ≤ n2 then some (n1) else (fX6_digit c_text_length c_text_signs n2).bind fun v1 => (fX6_digit c_text_length c_text_signs (n2 + (3 : Int32))).bind fun v2 => (fX6_digit c_text_length c_text_signs (n2 + (6 : Int32))).bind fun v3 => if ((v1 + v2) + v3) = n1 then (some (n2 + (1 : Int32))).bind fun v4 => rc30 n1 v4 else some ((-1 : Int32))
def fX7_sumOfMap (c_text_length : Int32) (c_text_signs : Nat → Int32) : Option Int32 := (fX6_digit c_text_length c_text_signs (0 : Int32)).bind fun v1 => (fX6_digit c_text_length c_text_signs (3 : Int32)).bind fun v2 => (fX6_digit c_text_length c_text_signs (6 : Int32)).bind fun v3 => (some ((v1 + v2) + v3)).bind fun v4 => lfix (fX7_sumOfMap_b30 c_text_length c_text_signs) (fun _ _ => none) FU v4 (1 : Int32)
set_option maxHeartbeats 4000000 in
set_option maxRecDepth 100000 in
theorem tX7_sumOfMap (l : Launch) (D : va_G) (k : Nat → ClassId) (q_this q_text q_row q_now q_trial q_doors q_history q_kept q_text_signs : Nat) (c_text_length : Int32) (c_text_signs : Nat → Int32)  (r_ : Int32) (hf : fX7_sumOfMap c_text_length c_text_signs = some (r_)) : MI l yX7_sumOfMap cX7_sumOfMap 3 .int (RM 2 43) D k [.ref q_this] [oX7 q_this q_text q_row q_now q_trial q_doors q_history q_kept, oX6 q_text q_text_signs c_text_length, aI k q_text_signs 80 c_text_signs] r_ [oX7 q_this q_text q_row q_now q_trial q_doors q_history q_kept, oX6 q_text q_text_signs c_text_length, aI k q_text_signs 80 c_text_signs] := by
  refine mkMI' (own := "DoorWalk") (by decide) rfl (Nat.le_of_ble_eq_true rfl) ?_
  intro p e s m args below meth c Q A hret C
  refine ww_lv (lv' := [(0, .ref q_this)]) [0] rfl ?_
  have hL30 : ∀ (n : Nat) (n1 : Int32) (n2 : Int32), lfix (fX7_sumOfMap_b30 c_text_length c_text_signs) (fun _ _ => none) n n1 n2 = some (r_) → WW p l e (RM 2 43) s m args below meth c Q 3 D A 0 0 [oX7 q_this q_text q_row q_now q_trial q_doors q_history q_kept, oX6 q_text q_text_signs c_text_length, aI k q_text_signs 80 c_text_signs] [(0, .ref q_this), (1, .int n1), (2, .int n2)] 30 [] := by
    intro n
    induction n with
    | zero => intro n1 n2 hf; cases hf
    | succ n ih30 =>
      obtain ⟨rc30, hrc30⟩ : ∃ f9, f9 = lfix (fX7_sumOfMap_b30 c_text_length c_text_signs) (fun _ _ => none) n := ⟨_, rfl⟩
      rw [← hrc30] at ih30
      intro n1 n2 hf
      have hf : fX7_sumOfMap_b30 c_text_length c_text_signs rc30 n1 n2 = some (r_) := by rw [hrc30]; exact hf
      unfold fX7_sumOfMap_b30 at hf
      refine ww_iload_n (pc := 30) C dX7_sumOfMap_30 rfl 2 rfl ?_
      refine ww_iconst (pc := 31) C dX7_sumOfMap_31 kI_3 ?_
      refine ww_icmp_ge (pc := 32) (tgt := 78) C dX7_sumOfMap_32 (by decide) (fun hc => ?_) (fun hc => ?_)
      · have hf := ifT hc hf
        refine ww_iload_n (pc := 78) C dX7_sumOfMap_78 rfl 1 rfl ?_
        obtain e0 := ij1 hf
        exact hret _ _ 79 _ dX7_sumOfMap_79 rfl e0 rfl
      · have hf := ifF hc hf
        refine ww_aload_n (pc := 35) C dX7_sumOfMap_35 rfl 0 rfl ?_
        refine gf7_0 (pc := 36) C kf_X7_12 0 rfl rfl dX7_sumOfMap_36 ?_
        refine ww_iload_n (pc := 39) C dX7_sumOfMap_39 rfl 2 rfl ?_
        obtain ⟨v1, h1, hf⟩ := bsome hf
        refine ww_callVi0 (pc := 40) (As := [.int n2]) (rest := []) C (tX6_digit l D k q_text q_text_signs c_text_length c_text_signs n2 v1 h1) cv_X7_406 ⟨⟨by decide, by decide⟩, rfl, rfl⟩ 1 rfl rfl [1, 2] rfl rfl rfl rfl (Nat.le_of_ble_eq_true rfl) ⟨Nat.zero_le _, Nat.zero_le _⟩ dX7_sumOfMap_40 (fun hb1 => ?_)
        refine ww_aload_n (pc := 43) C dX7_sumOfMap_43 rfl 0 rfl ?_
        refine gf7_0 (pc := 44) C kf_X7_12 0 rfl rfl dX7_sumOfMap_44 ?_
        refine ww_iload_n (pc := 47) C dX7_sumOfMap_47 rfl 2 rfl ?_
        refine ww_iconst (pc := 48) C dX7_sumOfMap_48 kI_3 ?_
        refine ww_iadd (pc := 49) C dX7_sumOfMap_49  ?_
        obtain ⟨v2, h2, hf⟩ := bsome hf
        refine ww_callVi0 (pc := 50) (As := [.int (n2 + (3 : Int32))]) (rest := [.int v1]) C (tX6_digit l D k q_text q_text_signs c_text_length c_text_signs (n2 + (3 : Int32)) v2 h2) cv_X7_406 ⟨⟨by decide, by decide⟩, rfl, rfl⟩ 1 rfl rfl [1, 2] rfl rfl rfl rfl (Nat.le_of_ble_eq_true rfl) ⟨Nat.zero_le _, Nat.zero_le _⟩ dX7_sumOfMap_50 (fun hb2 => ?_)
        refine ww_iadd (pc := 53) C dX7_sumOfMap_53  ?_
        refine ww_aload_n (pc := 54) C dX7_sumOfMap_54 rfl 0 rfl ?_
        refine gf7_0 (pc := 55) C kf_X7_12 0 rfl rfl dX7_sumOfMap_55 ?_
        refine ww_iload_n (pc := 58) C dX7_sumOfMap_58 rfl 2 rfl ?_
        refine ww_bipush (pc := 59) C dX7_sumOfMap_59 kB_6 ?_
        refine ww_iadd (pc := 61) C dX7_sumOfMap_61  ?_
        obtain ⟨v3, h3, hf⟩ := bsome hf
        refine ww_callVi0 (pc := 62) (As := [.int (n2 + (6 : Int32))]) (rest := [.int (v1 + v2)]) C (tX6_digit l D k q_text q_text_signs c_text_length c_text_signs (n2 + (6 : Int32)) v3 h3) cv_X7_406 ⟨⟨by decide, by decide⟩, rfl, rfl⟩ 1 rfl rfl [1, 2] rfl rfl rfl rfl (Nat.le_of_ble_eq_true rfl) ⟨Nat.zero_le _, Nat.zero_le _⟩ dX7_sumOfMap_62 (fun hb3 => ?_)
        refine ww_iadd (pc := 65) C dX7_sumOfMap_65  ?_
        refine ww_iload_n (pc := 66) C dX7_sumOfMap_66 rfl 1 rfl ?_
        refine ww_icmp_eq (pc := 67) (tgt := 72) C dX7_sumOfMap_67 (by decide) (fun hc => ?_) (fun hc => ?_)
        · have hf := ifT hc hf
          obtain ⟨v4, h4, hf⟩ := bsome hf
          refine ww_iincN (pc := 72) (lv' := [(2, .int v4), (0, .ref q_this), (1, .int n1)]) (j := 2) C dX7_sumOfMap_72 kI_1 rfl h4 (by decide) rfl ?_
          refine ww_goto (pc := 75) (tgt := 30) C dX7_sumOfMap_75 (by decide) ?_
          exact ww_lv [1, 2, 0] rfl (ih30 n1 v4 hf)
        · have hf := ifF hc hf
          refine ww_iconst (pc := 70) C dX7_sumOfMap_70 kI_m1 ?_
          obtain e0 := ij1 hf
          exact hret _ _ 71 _ dX7_sumOfMap_71 rfl e0 rfl
  unfold fX7_sumOfMap at hf
  refine ww_aload_n (pc := 0) C dX7_sumOfMap_0 rfl 0 rfl ?_
  refine gf7_0 (pc := 1) C kf_X7_12 0 rfl rfl dX7_sumOfMap_1 ?_
  refine ww_iconst (pc := 4) C dX7_sumOfMap_4 kI_0 ?_
  obtain ⟨v1, h1, hf⟩ := bsome hf
  refine ww_callVi0 (pc := 5) (As := [.int (0 : Int32)]) (rest := []) C (tX6_digit l D k q_text q_text_signs c_text_length c_text_signs (0 : Int32) v1 h1) cv_X7_406 ⟨⟨by decide, by decide⟩, rfl, rfl⟩ 1 rfl rfl [1, 2] rfl rfl rfl rfl (Nat.le_of_ble_eq_true rfl) ⟨Nat.zero_le _, Nat.zero_le _⟩ dX7_sumOfMap_5 (fun hb1 => ?_)
  refine ww_aload_n (pc := 8) C dX7_sumOfMap_8 rfl 0 rfl ?_
  refine gf7_0 (pc := 9) C kf_X7_12 0 rfl rfl dX7_sumOfMap_9 ?_
  refine ww_iconst (pc := 12) C dX7_sumOfMap_12 kI_3 ?_
  obtain ⟨v2, h2, hf⟩ := bsome hf
  refine ww_callVi0 (pc := 13) (As := [.int (3 : Int32)]) (rest := [.int v1]) C (tX6_digit l D k q_text q_text_signs c_text_length c_text_signs (3 : Int32) v2 h2) cv_X7_406 ⟨⟨by decide, by decide⟩, rfl, rfl⟩ 1 rfl rfl [1, 2] rfl rfl rfl rfl (Nat.le_of_ble_eq_true rfl) ⟨Nat.zero_le _, Nat.zero_le _⟩ dX7_sumOfMap_13 (fun hb2 => ?_)
  refine ww_iadd (pc := 16) C dX7_sumOfMap_16  ?_
  refine ww_aload_n (pc := 17) C dX7_sumOfMap_17 rfl 0 rfl ?_
  refine gf7_0 (pc := 18) C kf_X7_12 0 rfl rfl dX7_sumOfMap_18 ?_
  refine ww_bipush (pc := 21) C dX7_sumOfMap_21 kB_6 ?_
  obtain ⟨v3, h3, hf⟩ := bsome hf
  refine ww_callVi0 (pc := 23) (As := [.int (6 : Int32)]) (rest := [.int (v1 + v2)]) C (tX6_digit l D k q_text q_text_signs c_text_length c_text_signs (6 : Int32) v3 h3) cv_X7_406 ⟨⟨by decide, by decide⟩, rfl, rfl⟩ 1 rfl rfl [1, 2] rfl rfl rfl rfl (Nat.le_of_ble_eq_true rfl) ⟨Nat.zero_le _, Nat.zero_le _⟩ dX7_sumOfMap_23 (fun hb3 => ?_)
  refine ww_iadd (pc := 26) C dX7_sumOfMap_26  ?_
  obtain ⟨v4, h4, hf⟩ := bsome hf
  refine ww_nmi h4 ?_
  refine ww_istore_n (pc := 27) (lv' := [(1, .int v4), (0, .ref q_this)]) C dX7_sumOfMap_27 rfl (by decide) rfl ?_
  refine ww_iconst (pc := 28) C dX7_sumOfMap_28 kI_1 ?_
  refine ww_istore_n (pc := 29) (lv' := [(2, .int (1 : Int32)), (1, .int v4), (0, .ref q_this)]) C dX7_sumOfMap_29 rfl (by decide) rfl ?_
  exact ww_lv [2, 1, 0] rfl (hL30 FU v4 (1 : Int32) hf)
def fX7_entryAt (x1 : Int32) (x2 : Int32) (x3 : Int32) (x4 : Int32) : Option Int32 := (some (x2 + (x3 * x4))).bind fun v1 => if x1 = 0 then some (((v1).toInt8.toInt32)) else if x1 = (1 : Int32) then some (((v1).toInt16.toInt32)) else some (v1)
set_option maxHeartbeats 4000000 in
set_option maxRecDepth 100000 in
theorem tX7_entryAt (l : Launch) (D : va_G) (k : Nat → ClassId)   (x1 : Int32) (x2 : Int32) (x3 : Int32) (x4 : Int32) (r_ : Int32) (hf : fX7_entryAt x1 x2 x3 x4 = some (r_)) : MI l yX7_entryAt cX7_entryAt 5 .int (RM 0 0) D k [.int x1, .int x2, .int x3, .int x4] [] r_ [] := by
  refine mkMI' (own := "DoorWalk") (by decide) rfl (Nat.le_of_ble_eq_true rfl) ?_
  intro p e s m args below meth c Q A hret C
  refine ww_lv (lv' := [(0, .int x1), (1, .int x2), (2, .int x3), (3, .int x4)]) [0, 1, 2, 3] rfl ?_
  unfold fX7_entryAt at hf
  refine ww_iload_n (pc := 0) C dX7_entryAt_0 rfl 1 rfl ?_
  refine ww_iload_n (pc := 1) C dX7_entryAt_1 rfl 2 rfl ?_
  refine ww_iload_n (pc := 2) C dX7_entryAt_2 rfl 3 rfl ?_
  refine ww_imul (pc := 3) C dX7_entryAt_3  ?_
  refine ww_iadd (pc := 4) C dX7_entryAt_4  ?_
  obtain ⟨v1, h1, hf⟩ := bsome hf
  refine ww_nmi h1 ?_
  refine ww_istore (pc := 5) (lv' := [(4, .int v1), (0, .int x1), (1, .int x2), (2, .int x3), (3, .int x4)]) C dX7_entryAt_5 (by decide) rfl ?_
  refine ww_iload_n (pc := 7) C dX7_entryAt_7 rfl 1 rfl ?_
  refine ww_if_ne (pc := 8) (tgt := 15) C dX7_entryAt_8 (by decide) (fun hc => ?_) (fun hc => ?_)
  · have hf := ifF hc hf
    refine ww_iload_n (pc := 15) C dX7_entryAt_15 rfl 1 rfl ?_
    refine ww_iconst (pc := 16) C dX7_entryAt_16 kI_1 ?_
    refine ww_icmp_ne (pc := 17) (tgt := 26) C dX7_entryAt_17 (by decide) (fun hc => ?_) (fun hc => ?_)
    · have hf := ifF hc hf
      refine ww_iload (pc := 26) C dX7_entryAt_26 0 rfl ?_
      obtain e0 := ij1 hf
      exact hret _ _ 28 _ dX7_entryAt_28 rfl e0 rfl
    · have hf := ifT hc hf
      refine ww_iload (pc := 20) C dX7_entryAt_20 0 rfl ?_
      refine ww_i2s (pc := 22) C dX7_entryAt_22  ?_
      refine ww_goto (pc := 23) (tgt := 28) C dX7_entryAt_23 (by decide) ?_
      obtain e0 := ij1 hf
      exact hret _ _ 28 _ dX7_entryAt_28 rfl e0 rfl
  · have hf := ifT hc hf
    refine ww_iload (pc := 11) C dX7_entryAt_11 0 rfl ?_
    refine ww_i2b (pc := 13) C dX7_entryAt_13  ?_
    obtain e0 := ij1 hf
    exact hret _ _ 14 _ dX7_entryAt_14 rfl e0 rfl
def fX7_faultOfEntry (c_now_grid_size : Int32) (x1 : Int32) (x2 : Int32) (x3 : Int32) : Option Int32 := (some (x1 + x2)).bind fun v1 => if x1 < 0 then some ((1 : Int32)) else if v1 < 0 then some ((1 : Int32)) else (fX1_points c_now_grid_size).bind fun v2 => if v1 < v2 then (fX1_pointI c_now_grid_size v1).bind fun v3 => (fX1_pointJ c_now_grid_size v1).bind fun v4 => (fX1_canHave c_now_grid_size v3 v4 x3).bind fun v5 => if v5 = 0 then some ((2 : Int32)) else some ((0 : Int32)) else some ((1 : Int32))
set_option maxHeartbeats 4000000 in
set_option maxRecDepth 100000 in
theorem tX7_faultOfEntry (l : Launch) (D : va_G) (k : Nat → ClassId) (q_this q_text q_row q_now q_trial q_doors q_history q_kept q_now_grid q_now_rule q_now_grid_marks : Nat) (c_now_grid_size : Int32) (c_now_grid_full : Int32) (c_now_grid_turns : Int32) (c_now_grid_firstFull : Int32) (c_now_grid_lastFull : Int32) (x1 : Int32) (x2 : Int32) (x3 : Int32) (r_ : Int32) (hf : fX7_faultOfEntry c_now_grid_size x1 x2 x3 = some (r_)) : MI l yX7_faultOfEntry cX7_faultOfEntry 6 .int (RM 2 46) D k [.ref q_this, .int x1, .int x2, .int x3] [oX7 q_this q_text q_row q_now q_trial q_doors q_history q_kept, oX5 q_now q_now_grid q_now_rule, oX1 q_now_grid q_now_grid_marks c_now_grid_size c_now_grid_full c_now_grid_turns c_now_grid_firstFull c_now_grid_lastFull] r_ [oX7 q_this q_text q_row q_now q_trial q_doors q_history q_kept, oX5 q_now q_now_grid q_now_rule, oX1 q_now_grid q_now_grid_marks c_now_grid_size c_now_grid_full c_now_grid_turns c_now_grid_firstFull c_now_grid_lastFull] := by
  refine mkMI' (own := "DoorWalk") (by decide) rfl (Nat.le_of_ble_eq_true rfl) ?_
  intro p e s m args below meth c Q A hret C
  refine ww_lv (lv' := [(0, .ref q_this), (1, .int x1), (2, .int x2), (3, .int x3)]) [0, 1, 2, 3] rfl ?_
  unfold fX7_faultOfEntry at hf
  refine ww_aload_n (pc := 0) C dX7_faultOfEntry_0 rfl 0 rfl ?_
  refine gf7_2 (pc := 1) C kf_X7_26 0 rfl rfl dX7_faultOfEntry_1 ?_
  refine gf5_0 (pc := 4) C kf_X7_74 1 rfl rfl dX7_faultOfEntry_4 ?_
  refine ww_astore (pc := 7) (lv' := [(4, .ref q_now_grid), (0, .ref q_this), (1, .int x1), (2, .int x2), (3, .int x3)]) C dX7_faultOfEntry_7 (by decide) rfl ?_
  refine ww_iload_n (pc := 9) C dX7_faultOfEntry_9 rfl 2 rfl ?_
  refine ww_iload_n (pc := 10) C dX7_faultOfEntry_10 rfl 3 rfl ?_
  refine ww_iadd (pc := 11) C dX7_faultOfEntry_11  ?_
  obtain ⟨v1, h1, hf⟩ := bsome hf
  refine ww_nmi h1 ?_
  refine ww_istore (pc := 12) (lv' := [(5, .int v1), (4, .ref q_now_grid), (0, .ref q_this), (1, .int x1), (2, .int x2), (3, .int x3)]) C dX7_faultOfEntry_12 (by decide) rfl ?_
  refine ww_iload_n (pc := 14) C dX7_faultOfEntry_14 rfl 3 rfl ?_
  refine ww_if_lt (pc := 15) (tgt := 33) C dX7_faultOfEntry_15 (by decide) (fun hc => ?_) (fun hc => ?_)
  · have hf := ifT hc hf
    refine ww_iconst (pc := 33) C dX7_faultOfEntry_33 kI_1 ?_
    obtain e0 := ij1 hf
    exact hret _ _ 34 _ dX7_faultOfEntry_34 rfl e0 rfl
  · have hf := ifF hc hf
    refine ww_iload (pc := 18) C dX7_faultOfEntry_18 0 rfl ?_
    refine ww_if_lt (pc := 20) (tgt := 33) C dX7_faultOfEntry_20 (by decide) (fun hc => ?_) (fun hc => ?_)
    · have hf := ifT hc hf
      refine ww_iconst (pc := 33) C dX7_faultOfEntry_33 kI_1 ?_
      obtain e0 := ij1 hf
      exact hret _ _ 34 _ dX7_faultOfEntry_34 rfl e0 rfl
    · have hf := ifF hc hf
      refine ww_iload (pc := 23) C dX7_faultOfEntry_23 0 rfl ?_
      refine ww_aload (pc := 25) C dX7_faultOfEntry_25 1 rfl ?_
      obtain ⟨v2, h2, hf⟩ := bsome hf
      refine ww_callVi0 (pc := 27) (As := []) (rest := [.int v1]) C (tX1_points l D k q_now_grid q_now_grid_marks c_now_grid_size c_now_grid_full c_now_grid_turns c_now_grid_firstFull c_now_grid_lastFull v2 h2) cv_X7_90 ⟨⟨by decide, by decide⟩, rfl, rfl⟩ 2 rfl rfl [2] rfl rfl rfl rfl (Nat.le_of_ble_eq_true rfl) ⟨Nat.zero_le _, Nat.zero_le _⟩ dX7_faultOfEntry_27 (fun hb2 => ?_)
      refine ww_icmp_lt (pc := 30) (tgt := 35) C dX7_faultOfEntry_30 (by decide) (fun hc => ?_) (fun hc => ?_)
      · have hf := ifT hc hf
        refine ww_aload (pc := 35) C dX7_faultOfEntry_35 1 rfl ?_
        refine ww_aload (pc := 37) C dX7_faultOfEntry_37 1 rfl ?_
        refine ww_iload (pc := 39) C dX7_faultOfEntry_39 0 rfl ?_
        obtain ⟨v3, h3, hf⟩ := bsome hf
        refine ww_callVi0 (pc := 41) (As := [.int v1]) (rest := [.ref q_now_grid]) C (tX1_pointI l D k q_now_grid q_now_grid_marks c_now_grid_size c_now_grid_full c_now_grid_turns c_now_grid_firstFull c_now_grid_lastFull v1 v3 h3) cv_X7_390 ⟨⟨by decide, by decide⟩, rfl, rfl⟩ 2 rfl rfl [2] rfl rfl rfl rfl (Nat.le_of_ble_eq_true rfl) ⟨Nat.zero_le _, Nat.zero_le _⟩ dX7_faultOfEntry_41 (fun hb3 => ?_)
        refine ww_aload (pc := 44) C dX7_faultOfEntry_44 1 rfl ?_
        refine ww_iload (pc := 46) C dX7_faultOfEntry_46 0 rfl ?_
        obtain ⟨v4, h4, hf⟩ := bsome hf
        refine ww_callVi0 (pc := 48) (As := [.int v1]) (rest := [.int v3, .ref q_now_grid]) C (tX1_pointJ l D k q_now_grid q_now_grid_marks c_now_grid_size c_now_grid_full c_now_grid_turns c_now_grid_firstFull c_now_grid_lastFull v1 v4 h4) cv_X7_393 ⟨⟨by decide, by decide⟩, rfl, rfl⟩ 2 rfl rfl [2] rfl rfl rfl rfl (Nat.le_of_ble_eq_true rfl) ⟨Nat.zero_le _, Nat.zero_le _⟩ dX7_faultOfEntry_48 (fun hb4 => ?_)
        refine ww_iload_n (pc := 51) C dX7_faultOfEntry_51 rfl 5 rfl ?_
        obtain ⟨v5, h5, hf⟩ := bsome hf
        refine ww_callVi0 (pc := 52) (As := [.int v3, .int v4, .int x3]) (rest := []) C (tX1_canHave l D k q_now_grid q_now_grid_marks c_now_grid_size c_now_grid_full c_now_grid_turns c_now_grid_firstFull c_now_grid_lastFull v3 v4 x3 v5 h5) cv_X7_331 ⟨⟨by decide, by decide⟩, rfl, rfl⟩ 2 rfl rfl [2] rfl rfl rfl rfl (Nat.le_of_ble_eq_true rfl) ⟨Nat.zero_le _, Nat.zero_le _⟩ dX7_faultOfEntry_52 (fun hb5 => ?_)
        refine ww_if_eq (pc := 55) (tgt := 62) C dX7_faultOfEntry_55 (by decide) (fun hc => ?_) (fun hc => ?_)
        · have hf := ifT hc hf
          refine ww_iconst (pc := 62) C dX7_faultOfEntry_62 kI_2 ?_
          obtain e0 := ij1 hf
          exact hret _ _ 63 _ dX7_faultOfEntry_63 rfl e0 rfl
        · have hf := ifF hc hf
          refine ww_iconst (pc := 58) C dX7_faultOfEntry_58 kI_0 ?_
          refine ww_goto (pc := 59) (tgt := 63) C dX7_faultOfEntry_59 (by decide) ?_
          obtain e0 := ij1 hf
          exact hret _ _ 63 _ dX7_faultOfEntry_63 rfl e0 rfl
      · have hf := ifF hc hf
        refine ww_iconst (pc := 33) C dX7_faultOfEntry_33 kI_1 ?_
        obtain e0 := ij1 hf
        exact hret _ _ 34 _ dX7_faultOfEntry_34 rfl e0 rfl
def fX7_sheet_b134 (c_now_grid_size : Int32) (rc94 : (Nat → Int32) → Int32 → Int32 → (Nat → Int64) → Int32 → Int32 → Int32 → Int32 → Int32 → Int32 → Int32 → Option (Int32 × (Nat → Int32) × Int32 × Int32 × (Nat → Int64))) (c_now_grid_marks : Nat → Int32) (c_now_rule_kind : Int32) (c_row_length : Int32) (c_row_numbers : Nat → Int64) (n1 : Int32) (n2 : Int32) (n3 : Int32) (n4 : Int32) (n5 : Int32) (n6 : Int32) (n7 : Int32) (n8 : Int32) : Option (Int32 × (Nat → Int32) × Int32 × Int32 × (Nat → Int64)) := (fX1_putNumber c_now_grid_marks (n1 + n7) n8).bind fun v1 => (some (n7 + (1 : Int32))).bind fun v2 => rc94 v1 c_now_rule_kind c_row_length c_row_numbers n1 n2 n3 n4 n5 n6 v2
def fX7_sheet_b94 (c_now_grid_size : Int32) (rc94 : (Nat → Int32) → Int32 → Int32 → (Nat → Int64) → Int32 → Int32 → Int32 → Int32 → Int32 → Int32 → Int32 → Option (Int32 × (Nat → Int32) × Int32 × Int32 × (Nat → Int64))) (c_now_grid_marks : Nat → Int32) (c_now_rule_kind : Int32) (c_row_length : Int32) (c_row_numbers : Nat → Int64) (n1 : Int32) (n2 : Int32) (n3 : Int32) (n4 : Int32) (n5 : Int32) (n6 : Int32) (n7 : Int32) : Option (Int32 × (Nat → Int32) × Int32 × Int32 × (Nat → Int64)) := if n3 ≤ n7 then some (n6, c_now_grid_marks, (0 : Int32), c_row_length, c_row_numbers) else (fX7_entryAt n2 n4 n5 n7).bind fun v1 => (fX1_labelOfNumber c_now_grid_marks (n1 + n7)).bind fun v2 => if v2 = v1 then fX7_sheet_b134 c_now_grid_size rc94 c_now_grid_marks c_now_rule_kind c_row_length c_row_numbers n1 n2 n3 n4 n5 n6 n7 v1 else (some (n6 + (1 : Int32))).bind fun v3 => fX7_sheet_b134 c_now_grid_size rc94 c_now_grid_marks c_now_rule_kind c_row_length c_row_numbers n1 n2 n3 n4 n5 v3 n7 v1
def fX7_sheet_b36 (c_now_grid_size : Int32) (rc36 : (Nat → Int32) → Int32 → Int32 → (Nat → Int64) → Int32 → Int32 → Int32 → Int32 → Int32 → Int32 → Option (Int32 × (Nat → Int32) × Int32 × Int32 × (Nat → Int64))) (c_now_grid_marks : Nat → Int32) (c_now_rule_kind : Int32) (c_row_length : Int32) (c_row_numbers : Nat → Int64) (n1 : Int32) (n2 : Int32) (n3 : Int32) (n4 : Int32) (n5 : Int32) (n6 : Int32) : Option (Int32 × (Nat → Int32) × Int32 × Int32 × (Nat → Int64)) := if n3 ≤ n6 then lfix (fX7_sheet_b94 c_now_grid_size) (fun _ _ _ _ _ _ _ _ _ _ _ => none) FU c_now_grid_marks c_now_rule_kind c_row_length c_row_numbers n1 n2 n3 n4 n5 (0 : Int32) (0 : Int32) else (fX7_entryAt n2 n4 n5 n6).bind fun v1 => (fX7_faultOfEntry c_now_grid_size n1 n6 v1).bind fun v2 => if v2 = 0 then (some (n6 + (1 : Int32))).bind fun v3 => rc36 c_now_grid_marks c_now_rule_kind c_row_length c_row_numbers n1 n2 n3 n4 n5 v3 else bd2 (fX3_tell_ c_row_length c_row_numbers ((n6).toInt64) ((v2).toInt64)) fun v4 v5 => some ((-4 : Int32), c_now_grid_marks, c_now_rule_kind, v4, v5)
def fX7_sheet (c_now_grid_size : Int32) (c_now_grid_marks : Nat → Int32) (c_now_rule_kind : Int32) (c_row_length : Int32) (c_row_numbers : Nat → Int64) (x1 : Int32) (x2 : Int32) (x3 : Int32) (x4 : Int32) (x5 : Int32) : Option (Int32 × (Nat → Int32) × Int32 × Int32 × (Nat → Int64)) := if x2 < 0 then some ((-1 : Int32), c_now_grid_marks, c_now_rule_kind, c_row_length, c_row_numbers) else if (3 : Int32) < x2 then some ((-1 : Int32), c_now_grid_marks, c_now_rule_kind, c_row_length, c_row_numbers) else if x3 ≤ (160 : Int32) then if x2 = (3 : Int32) then some ((-3 : Int32), c_now_grid_marks, c_now_rule_kind, c_row_length, c_row_numbers) else if 0 ≤ x3 then lfix (fX7_sheet_b36 c_now_grid_size) (fun _ _ _ _ _ _ _ _ _ _ => none) FU c_now_grid_marks c_now_rule_kind c_row_length c_row_numbers x1 x2 x3 x4 x5 (0 : Int32) else some ((-2 : Int32), c_now_grid_marks, c_now_rule_kind, c_row_length, c_row_numbers) else some ((-1 : Int32), c_now_grid_marks, c_now_rule_kind, c_row_length, c_row_numbers)
set_option maxHeartbeats 4000000 in
set_option maxRecDepth 100000 in
theorem tX7_sheet (l : Launch) (D : va_G) (k : Nat → ClassId) (q_this q_text q_row q_now q_trial q_doors q_history q_kept q_now_grid q_now_rule q_now_grid_marks q_now_rule_owned q_now_rule_wished q_now_rule_pulls q_row_numbers : Nat) (c_now_grid_size : Int32) (c_now_grid_full : Int32) (c_now_grid_turns : Int32) (c_now_grid_firstFull : Int32) (c_now_grid_lastFull : Int32) (c_now_grid_marks : Nat → Int32) (c_now_rule_kind : Int32) (c_now_rule_traders : Int32) (c_row_length : Int32) (c_row_numbers : Nat → Int64) (x1 : Int32) (x2 : Int32) (x3 : Int32) (x4 : Int32) (x5 : Int32) (r_ : Int32) (w_now_grid_marks : Nat → Int32) (w_now_rule_kind : Int32) (w_row_length : Int32) (w_row_numbers : Nat → Int64) (hf : fX7_sheet c_now_grid_size c_now_grid_marks c_now_rule_kind c_row_length c_row_numbers x1 x2 x3 x4 x5 = some (r_, w_now_grid_marks, w_now_rule_kind, w_row_length, w_row_numbers)) : MI l yX7_sheet cX7_sheet 9 .int (RM 3 71) D k [.ref q_this, .int x1, .int x2, .int x3, .int x4, .int x5] [oX7 q_this q_text q_row q_now q_trial q_doors q_history q_kept, oX5 q_now q_now_grid q_now_rule, oX1 q_now_grid q_now_grid_marks c_now_grid_size c_now_grid_full c_now_grid_turns c_now_grid_firstFull c_now_grid_lastFull, aI k q_now_grid_marks 153 c_now_grid_marks, oX4 q_now_rule q_now_rule_owned q_now_rule_wished q_now_rule_pulls c_now_rule_kind c_now_rule_traders, oX3 q_row q_row_numbers c_row_length, aJ k q_row_numbers 16 c_row_numbers] r_ [oX7 q_this q_text q_row q_now q_trial q_doors q_history q_kept, oX5 q_now q_now_grid q_now_rule, oX1 q_now_grid q_now_grid_marks c_now_grid_size c_now_grid_full c_now_grid_turns c_now_grid_firstFull c_now_grid_lastFull, aI k q_now_grid_marks 153 w_now_grid_marks, oX4 q_now_rule q_now_rule_owned q_now_rule_wished q_now_rule_pulls w_now_rule_kind c_now_rule_traders, oX3 q_row q_row_numbers w_row_length, aJ k q_row_numbers 16 w_row_numbers] := by
  refine mkMI' (own := "DoorWalk") (by decide) rfl (Nat.le_of_ble_eq_true rfl) ?_
  intro p e s m args below meth c Q A hret C
  refine ww_lv (lv' := [(0, .ref q_this), (1, .int x1), (2, .int x2), (3, .int x3), (4, .int x4), (5, .int x5)]) [0, 1, 2, 3, 4, 5] rfl ?_
  have hL94 : ∀ (n : Nat) (c_now_grid_marks : Nat → Int32) (c_now_rule_kind : Int32) (c_row_length : Int32) (c_row_numbers : Nat → Int64) (n1 : Int32) (n2 : Int32) (n3 : Int32) (n4 : Int32) (n5 : Int32) (n6 : Int32) (n7 : Int32), lfix (fX7_sheet_b94 c_now_grid_size) (fun _ _ _ _ _ _ _ _ _ _ _ => none) n c_now_grid_marks c_now_rule_kind c_row_length c_row_numbers n1 n2 n3 n4 n5 n6 n7 = some (r_, w_now_grid_marks, w_now_rule_kind, w_row_length, w_row_numbers) → WW p l e (RM 3 71) s m args below meth c Q 9 D A 0 0 [oX7 q_this q_text q_row q_now q_trial q_doors q_history q_kept, oX5 q_now q_now_grid q_now_rule, oX1 q_now_grid q_now_grid_marks c_now_grid_size c_now_grid_full c_now_grid_turns c_now_grid_firstFull c_now_grid_lastFull, aI k q_now_grid_marks 153 c_now_grid_marks, oX4 q_now_rule q_now_rule_owned q_now_rule_wished q_now_rule_pulls c_now_rule_kind c_now_rule_traders, oX3 q_row q_row_numbers c_row_length, aJ k q_row_numbers 16 c_row_numbers] [(0, .ref q_this), (1, .int n1), (2, .int n2), (3, .int n3), (4, .int n4), (5, .int n5), (6, .int n6), (7, .int n7)] 94 [] := by
    intro n
    induction n with
    | zero => intro c_now_grid_marks c_now_rule_kind c_row_length c_row_numbers n1 n2 n3 n4 n5 n6 n7 hf; cases hf
    | succ n ih94 =>
      obtain ⟨rc94, hrc94⟩ : ∃ f9, f9 = lfix (fX7_sheet_b94 c_now_grid_size) (fun _ _ _ _ _ _ _ _ _ _ _ => none) n := ⟨_, rfl⟩
      rw [← hrc94] at ih94
      have hJ134 : ∀ (c_now_grid_marks : Nat → Int32) (c_now_rule_kind : Int32) (c_row_length : Int32) (c_row_numbers : Nat → Int64) (n1 : Int32) (n2 : Int32) (n3 : Int32) (n4 : Int32) (n5 : Int32) (n6 : Int32) (n7 : Int32) (n8 : Int32), fX7_sheet_b134 c_now_grid_size rc94 c_now_grid_marks c_now_rule_kind c_row_length c_row_numbers n1 n2 n3 n4 n5 n6 n7 n8 = some (r_, w_now_grid_marks, w_now_rule_kind, w_row_length, w_row_numbers) → WW p l e (RM 3 71) s m args below meth c Q 9 D A 0 0 [oX7 q_this q_text q_row q_now q_trial q_doors q_history q_kept, oX5 q_now q_now_grid q_now_rule, oX1 q_now_grid q_now_grid_marks c_now_grid_size c_now_grid_full c_now_grid_turns c_now_grid_firstFull c_now_grid_lastFull, aI k q_now_grid_marks 153 c_now_grid_marks, oX4 q_now_rule q_now_rule_owned q_now_rule_wished q_now_rule_pulls c_now_rule_kind c_now_rule_traders, oX3 q_row q_row_numbers c_row_length, aJ k q_row_numbers 16 c_row_numbers] [(0, .ref q_this), (1, .int n1), (2, .int n2), (3, .int n3), (4, .int n4), (5, .int n5), (6, .int n6), (7, .int n7), (8, .int n8)] 134 [] := by
        intro c_now_grid_marks c_now_rule_kind c_row_length c_row_numbers n1 n2 n3 n4 n5 n6 n7 n8
        intro hf
        unfold fX7_sheet_b134 at hf
        refine ww_aload_n (pc := 134) C dX7_sheet_134 rfl 0 rfl ?_
        refine gf7_2 (pc := 135) C kf_X7_26 0 rfl rfl dX7_sheet_135 ?_
        refine gf5_0 (pc := 138) C kf_X7_74 1 rfl rfl dX7_sheet_138 ?_
        refine ww_iload_n (pc := 141) C dX7_sheet_141 rfl 1 rfl ?_
        refine ww_iload (pc := 142) C dX7_sheet_142 7 rfl ?_
        refine ww_iadd (pc := 144) C dX7_sheet_144  ?_
        refine ww_iload (pc := 145) C dX7_sheet_145 8 rfl ?_
        obtain ⟨v1, h1, hf⟩ := bsome hf
        refine ww_callVv (pc := 147) (ws' := [oX7 q_this q_text q_row q_now q_trial q_doors q_history q_kept, oX5 q_now q_now_grid q_now_rule, oX1 q_now_grid q_now_grid_marks c_now_grid_size c_now_grid_full c_now_grid_turns c_now_grid_firstFull c_now_grid_lastFull, aI k q_now_grid_marks 153 v1, oX4 q_now_rule q_now_rule_owned q_now_rule_wished q_now_rule_pulls c_now_rule_kind c_now_rule_traders, oX3 q_row q_row_numbers c_row_length, aJ k q_row_numbers 16 c_row_numbers]) (As := [.int (n1 + n7), .int n8]) (rest := []) C (tX1_putNumber l D k q_now_grid q_now_grid_marks c_now_grid_size c_now_grid_full c_now_grid_turns c_now_grid_firstFull c_now_grid_lastFull c_now_grid_marks (n1 + n7) n8 v1 h1) cv_X7_128 ⟨⟨by decide, by decide⟩, rfl, rfl⟩ 2 rfl rfl [2, 3] rfl rfl rfl rfl rfl rfl (Nat.le_of_ble_eq_true rfl) ⟨Nat.zero_le _, Nat.zero_le _⟩ dX7_sheet_147 ?_
        obtain ⟨v2, h2, hf⟩ := bsome hf
        refine ww_iincN (pc := 150) (lv' := [(7, .int v2), (0, .ref q_this), (1, .int n1), (2, .int n2), (3, .int n3), (4, .int n4), (5, .int n5), (6, .int n6), (8, .int n8)]) (j := 7) C dX7_sheet_150 kI_1 rfl h2 (by decide) rfl ?_
        refine ww_goto (pc := 153) (tgt := 94) C dX7_sheet_153 (by decide) ?_
        exact ww_lv [1, 2, 3, 4, 5, 6, 7, 0] rfl (ih94 v1 c_now_rule_kind c_row_length c_row_numbers n1 n2 n3 n4 n5 n6 v2 hf)
      intro c_now_grid_marks c_now_rule_kind c_row_length c_row_numbers n1 n2 n3 n4 n5 n6 n7 hf
      have hf : fX7_sheet_b94 c_now_grid_size rc94 c_now_grid_marks c_now_rule_kind c_row_length c_row_numbers n1 n2 n3 n4 n5 n6 n7 = some (r_, w_now_grid_marks, w_now_rule_kind, w_row_length, w_row_numbers) := by rw [hrc94]; exact hf
      unfold fX7_sheet_b94 at hf
      refine ww_iload (pc := 94) C dX7_sheet_94 7 rfl ?_
      refine ww_iload_n (pc := 96) C dX7_sheet_96 rfl 3 rfl ?_
      refine ww_icmp_ge (pc := 97) (tgt := 156) C dX7_sheet_97 (by decide) (fun hc => ?_) (fun hc => ?_)
      · have hf := ifT hc hf
        refine ww_aload_n (pc := 156) C dX7_sheet_156 rfl 0 rfl ?_
        refine gf7_2 (pc := 157) C kf_X7_26 0 rfl rfl dX7_sheet_157 ?_
        refine gf5_1 (pc := 160) C kf_X7_81 1 rfl rfl dX7_sheet_160 ?_
        refine ww_iconst (pc := 163) C dX7_sheet_163 kI_0 ?_
        refine pf4_3 (pc := 164) (ws' := [oX7 q_this q_text q_row q_now q_trial q_doors q_history q_kept, oX5 q_now q_now_grid q_now_rule, oX1 q_now_grid q_now_grid_marks c_now_grid_size c_now_grid_full c_now_grid_turns c_now_grid_firstFull c_now_grid_lastFull, aI k q_now_grid_marks 153 c_now_grid_marks, oX4 q_now_rule q_now_rule_owned q_now_rule_wished q_now_rule_pulls (0 : Int32) c_now_rule_traders, oX3 q_row q_row_numbers c_row_length, aJ k q_row_numbers 16 c_row_numbers]) C kf_X7_85 4 rfl (Nat.le_of_ble_eq_true rfl) rfl dX7_sheet_164 ?_
        refine ww_iload (pc := 167) C dX7_sheet_167 6 rfl ?_
        obtain ⟨e0, e1, e2, e3, e4⟩ := ij5 hf
        exact hret _ _ 169 _ dX7_sheet_169 rfl e0 (by rw [← e1, ← e2, ← e3, ← e4])
      · have hf := ifF hc hf
        refine ww_iload_n (pc := 100) C dX7_sheet_100 rfl 2 rfl ?_
        refine ww_iload (pc := 101) C dX7_sheet_101 4 rfl ?_
        refine ww_iload (pc := 103) C dX7_sheet_103 5 rfl ?_
        refine ww_iload (pc := 105) C dX7_sheet_105 7 rfl ?_
        obtain ⟨v1, h1, hf⟩ := bsome hf
        refine ww_callSi0 (pc := 107) (As := [.int n2, .int n4, .int n5, .int n7]) (rest := []) C (tX7_entryAt l D k n2 n4 n5 n7 v1 h1) cs_X7_112 ⟨⟨by decide, by decide⟩, rfl, rfl⟩ [] rfl rfl rfl rfl (Nat.le_of_ble_eq_true rfl) ⟨Nat.zero_le _, Nat.zero_le _⟩ dX7_sheet_107 (fun hb1 => ?_)
        refine ww_istore (pc := 110) (lv' := [(8, .int v1), (0, .ref q_this), (1, .int n1), (2, .int n2), (3, .int n3), (4, .int n4), (5, .int n5), (6, .int n6), (7, .int n7)]) C dX7_sheet_110 (by decide) rfl ?_
        refine ww_aload_n (pc := 112) C dX7_sheet_112 rfl 1 rfl ?_
        refine gf7_2 (pc := 113) C kf_X7_26 0 rfl rfl dX7_sheet_113 ?_
        refine gf5_0 (pc := 116) C kf_X7_74 1 rfl rfl dX7_sheet_116 ?_
        refine ww_iload_n (pc := 119) C dX7_sheet_119 rfl 2 rfl ?_
        refine ww_iload (pc := 120) C dX7_sheet_120 8 rfl ?_
        refine ww_iadd (pc := 122) C dX7_sheet_122  ?_
        obtain ⟨v2, h2, hf⟩ := bsome hf
        refine ww_callVi0 (pc := 123) (As := [.int (n1 + n7)]) (rest := []) C (tX1_labelOfNumber l D k q_now_grid q_now_grid_marks c_now_grid_size c_now_grid_full c_now_grid_turns c_now_grid_firstFull c_now_grid_lastFull c_now_grid_marks (n1 + n7) v2 h2) cv_X7_124 ⟨⟨by decide, by decide⟩, rfl, rfl⟩ 2 rfl rfl [2, 3] rfl rfl rfl rfl (Nat.le_of_ble_eq_true rfl) ⟨Nat.zero_le _, Nat.zero_le _⟩ dX7_sheet_123 (fun hb2 => ?_)
        refine ww_iload (pc := 126) C dX7_sheet_126 0 rfl ?_
        refine ww_icmp_eq (pc := 128) (tgt := 134) C dX7_sheet_128 (by decide) (fun hc => ?_) (fun hc => ?_)
        · have hf := ifT hc hf
          exact ww_lv [1, 2, 3, 4, 5, 6, 7, 8, 0] rfl (hJ134 c_now_grid_marks c_now_rule_kind c_row_length c_row_numbers n1 n2 n3 n4 n5 n6 n7 v1 hf)
        · have hf := ifF hc hf
          obtain ⟨v3, h3, hf⟩ := bsome hf
          refine ww_iincN (pc := 131) (lv' := [(6, .int v3), (8, .int v1), (0, .ref q_this), (1, .int n1), (2, .int n2), (3, .int n3), (4, .int n4), (5, .int n5), (7, .int n7)]) (j := 7) C dX7_sheet_131 kI_1 rfl h3 (by decide) rfl ?_
          exact ww_lv [2, 3, 4, 5, 6, 7, 0, 8, 1] rfl (hJ134 c_now_grid_marks c_now_rule_kind c_row_length c_row_numbers n1 n2 n3 n4 n5 v3 n7 v1 hf)
  have hL36 : ∀ (n : Nat) (c_now_grid_marks : Nat → Int32) (c_now_rule_kind : Int32) (c_row_length : Int32) (c_row_numbers : Nat → Int64) (n1 : Int32) (n2 : Int32) (n3 : Int32) (n4 : Int32) (n5 : Int32) (n6 : Int32), lfix (fX7_sheet_b36 c_now_grid_size) (fun _ _ _ _ _ _ _ _ _ _ => none) n c_now_grid_marks c_now_rule_kind c_row_length c_row_numbers n1 n2 n3 n4 n5 n6 = some (r_, w_now_grid_marks, w_now_rule_kind, w_row_length, w_row_numbers) → WW p l e (RM 3 71) s m args below meth c Q 9 D A 0 0 [oX7 q_this q_text q_row q_now q_trial q_doors q_history q_kept, oX5 q_now q_now_grid q_now_rule, oX1 q_now_grid q_now_grid_marks c_now_grid_size c_now_grid_full c_now_grid_turns c_now_grid_firstFull c_now_grid_lastFull, aI k q_now_grid_marks 153 c_now_grid_marks, oX4 q_now_rule q_now_rule_owned q_now_rule_wished q_now_rule_pulls c_now_rule_kind c_now_rule_traders, oX3 q_row q_row_numbers c_row_length, aJ k q_row_numbers 16 c_row_numbers] [(0, .ref q_this), (1, .int n1), (2, .int n2), (3, .int n3), (4, .int n4), (5, .int n5), (6, .int n6)] 36 [] := by
    intro n
    induction n with
    | zero => intro c_now_grid_marks c_now_rule_kind c_row_length c_row_numbers n1 n2 n3 n4 n5 n6 hf; cases hf
    | succ n ih36 =>
      obtain ⟨rc36, hrc36⟩ : ∃ f9, f9 = lfix (fX7_sheet_b36 c_now_grid_size) (fun _ _ _ _ _ _ _ _ _ _ => none) n := ⟨_, rfl⟩
      rw [← hrc36] at ih36
      intro c_now_grid_marks c_now_rule_kind c_row_length c_row_numbers n1 n2 n3 n4 n5 n6 hf
      have hf : fX7_sheet_b36 c_now_grid_size rc36 c_now_grid_marks c_now_rule_kind c_row_length c_row_numbers n1 n2 n3 n4 n5 n6 = some (r_, w_now_grid_marks, w_now_rule_kind, w_row_length, w_row_numbers) := by rw [hrc36]; exact hf
      unfold fX7_sheet_b36 at hf
      refine ww_iload (pc := 36) C dX7_sheet_36 6 rfl ?_
      refine ww_iload_n (pc := 38) C dX7_sheet_38 rfl 3 rfl ?_
      refine ww_icmp_ge (pc := 39) (tgt := 88) C dX7_sheet_39 (by decide) (fun hc => ?_) (fun hc => ?_)
      · have hf := ifT hc hf
        refine ww_iconst (pc := 88) C dX7_sheet_88 kI_0 ?_
        refine ww_istore (pc := 89) (lv' := [(6, .int (0 : Int32)), (0, .ref q_this), (1, .int n1), (2, .int n2), (3, .int n3), (4, .int n4), (5, .int n5)]) C dX7_sheet_89 (by decide) rfl ?_
        refine ww_iconst (pc := 91) C dX7_sheet_91 kI_0 ?_
        refine ww_istore (pc := 92) (lv' := [(7, .int (0 : Int32)), (6, .int (0 : Int32)), (0, .ref q_this), (1, .int n1), (2, .int n2), (3, .int n3), (4, .int n4), (5, .int n5)]) C dX7_sheet_92 (by decide) rfl ?_
        exact ww_lv [2, 3, 4, 5, 6, 7, 1, 0] rfl (hL94 FU c_now_grid_marks c_now_rule_kind c_row_length c_row_numbers n1 n2 n3 n4 n5 (0 : Int32) (0 : Int32) hf)
      · have hf := ifF hc hf
        refine ww_aload_n (pc := 42) C dX7_sheet_42 rfl 0 rfl ?_
        refine ww_iload_n (pc := 43) C dX7_sheet_43 rfl 1 rfl ?_
        refine ww_iload (pc := 44) C dX7_sheet_44 6 rfl ?_
        refine ww_iload_n (pc := 46) C dX7_sheet_46 rfl 2 rfl ?_
        refine ww_iload (pc := 47) C dX7_sheet_47 4 rfl ?_
        refine ww_iload (pc := 49) C dX7_sheet_49 5 rfl ?_
        refine ww_iload (pc := 51) C dX7_sheet_51 6 rfl ?_
        obtain ⟨v1, h1, hf⟩ := bsome hf
        refine ww_callSi0 (pc := 53) (As := [.int n2, .int n4, .int n5, .int n6]) (rest := [.int n6, .int n1, .ref q_this]) C (tX7_entryAt l D k n2 n4 n5 n6 v1 h1) cs_X7_112 ⟨⟨by decide, by decide⟩, rfl, rfl⟩ [] rfl rfl rfl rfl (Nat.le_of_ble_eq_true rfl) ⟨Nat.zero_le _, Nat.zero_le _⟩ dX7_sheet_53 (fun hb1 => ?_)
        obtain ⟨v2, h2, hf⟩ := bsome hf
        refine ww_callVi0 (pc := 56) (As := [.int n1, .int n6, .int v1]) (rest := []) C (tX7_faultOfEntry l D k q_this q_text q_row q_now q_trial q_doors q_history q_kept q_now_grid q_now_rule q_now_grid_marks c_now_grid_size c_now_grid_full c_now_grid_turns c_now_grid_firstFull c_now_grid_lastFull n1 n6 v1 v2 h2) cv_X7_116 ⟨⟨by decide, by decide⟩, rfl, rfl⟩ 0 rfl rfl [0, 1, 2] rfl rfl rfl rfl (Nat.le_of_ble_eq_true rfl) ⟨Nat.zero_le _, Nat.zero_le _⟩ dX7_sheet_56 (fun hb2 => ?_)
        refine ww_istore (pc := 59) (lv' := [(7, .int v2), (0, .ref q_this), (1, .int n1), (2, .int n2), (3, .int n3), (4, .int n4), (5, .int n5), (6, .int n6)]) C dX7_sheet_59 (by decide) rfl ?_
        refine ww_iload (pc := 61) C dX7_sheet_61 0 rfl ?_
        refine ww_if_eq (pc := 63) (tgt := 82) C dX7_sheet_63 (by decide) (fun hc => ?_) (fun hc => ?_)
        · have hf := ifT hc hf
          obtain ⟨v3, h3, hf⟩ := bsome hf
          refine ww_iincN (pc := 82) (lv' := [(6, .int v3), (7, .int v2), (0, .ref q_this), (1, .int n1), (2, .int n2), (3, .int n3), (4, .int n4), (5, .int n5)]) (j := 7) C dX7_sheet_82 kI_1 rfl h3 (by decide) rfl ?_
          refine ww_goto (pc := 85) (tgt := 36) C dX7_sheet_85 (by decide) ?_
          exact ww_lv [2, 3, 4, 5, 6, 7, 0] rfl (ih36 c_now_grid_marks c_now_rule_kind c_row_length c_row_numbers n1 n2 n3 n4 n5 v3 hf)
        · have hf := ifF hc hf
          refine ww_aload_n (pc := 66) C dX7_sheet_66 rfl 1 rfl ?_
          refine gf7_1 (pc := 67) C kf_X7_19 0 rfl rfl dX7_sheet_67 ?_
          refine ww_iload (pc := 70) C dX7_sheet_70 7 rfl ?_
          refine ww_i2l (pc := 72) C dX7_sheet_72  ?_
          refine ww_iload (pc := 73) C dX7_sheet_73 0 rfl ?_
          refine ww_i2l (pc := 75) C dX7_sheet_75  ?_
          obtain ⟨v4, v5, h4, hf⟩ := bd2_some hf
          refine ww_callVv (pc := 76) (ws' := [oX7 q_this q_text q_row q_now q_trial q_doors q_history q_kept, oX5 q_now q_now_grid q_now_rule, oX1 q_now_grid q_now_grid_marks c_now_grid_size c_now_grid_full c_now_grid_turns c_now_grid_firstFull c_now_grid_lastFull, aI k q_now_grid_marks 153 c_now_grid_marks, oX4 q_now_rule q_now_rule_owned q_now_rule_wished q_now_rule_pulls c_now_rule_kind c_now_rule_traders, oX3 q_row q_row_numbers v4, aJ k q_row_numbers 16 v5]) (As := [.long ((n6).toInt64), .long ((v2).toInt64)]) (rest := []) C (tX3_tell_ l D k q_row q_row_numbers c_row_length c_row_numbers ((n6).toInt64) ((v2).toInt64) v4 v5 h4) cv_X7_120 ⟨⟨by decide, by decide⟩, rfl, rfl⟩ 5 rfl rfl [5, 6] rfl rfl rfl rfl rfl rfl (Nat.le_of_ble_eq_true rfl) ⟨Nat.zero_le _, Nat.zero_le _⟩ dX7_sheet_76 ?_
          refine ww_bipush (pc := 79) C dX7_sheet_79 kB_m4 ?_
          obtain ⟨e0, e1, e2, e3, e4⟩ := ij5 hf
          exact hret _ _ 81 _ dX7_sheet_81 rfl e0 (by rw [← e1, ← e2, ← e3, ← e4])
  unfold fX7_sheet at hf
  refine ww_iload_n (pc := 0) C dX7_sheet_0 rfl 2 rfl ?_
  refine ww_if_lt (pc := 1) (tgt := 16) C dX7_sheet_1 (by decide) (fun hc => ?_) (fun hc => ?_)
  · have hf := ifT hc hf
    refine ww_iconst (pc := 16) C dX7_sheet_16 kI_m1 ?_
    obtain ⟨e0, e1, e2, e3, e4⟩ := ij5 hf
    exact hret _ _ 17 _ dX7_sheet_17 rfl e0 (by rw [← e1, ← e2, ← e3, ← e4])
  · have hf := ifF hc hf
    refine ww_iload_n (pc := 4) C dX7_sheet_4 rfl 2 rfl ?_
    refine ww_iconst (pc := 5) C dX7_sheet_5 kI_3 ?_
    refine ww_icmp_gt (pc := 6) (tgt := 16) C dX7_sheet_6 (by decide) (fun hc => ?_) (fun hc => ?_)
    · have hf := ifT hc hf
      refine ww_iconst (pc := 16) C dX7_sheet_16 kI_m1 ?_
      obtain ⟨e0, e1, e2, e3, e4⟩ := ij5 hf
      exact hret _ _ 17 _ dX7_sheet_17 rfl e0 (by rw [← e1, ← e2, ← e3, ← e4])
    · have hf := ifF hc hf
      refine ww_iload_n (pc := 9) C dX7_sheet_9 rfl 3 rfl ?_
      refine ww_sipush (pc := 10) C dX7_sheet_10 kS_160 ?_
      refine ww_icmp_le (pc := 13) (tgt := 18) C dX7_sheet_13 (by decide) (fun hc => ?_) (fun hc => ?_)
      · have hf := ifT hc hf
        refine ww_iload_n (pc := 18) C dX7_sheet_18 rfl 2 rfl ?_
        refine ww_iconst (pc := 19) C dX7_sheet_19 kI_3 ?_
        refine ww_icmp_ne (pc := 20) (tgt := 26) C dX7_sheet_20 (by decide) (fun hc => ?_) (fun hc => ?_)
        · have hf := ifF hc hf
          refine ww_iload_n (pc := 26) C dX7_sheet_26 rfl 3 rfl ?_
          refine ww_if_ge (pc := 27) (tgt := 33) C dX7_sheet_27 (by decide) (fun hc => ?_) (fun hc => ?_)
          · have hf := ifT hc hf
            refine ww_iconst (pc := 33) C dX7_sheet_33 kI_0 ?_
            refine ww_istore (pc := 34) (lv' := [(6, .int (0 : Int32)), (0, .ref q_this), (1, .int x1), (2, .int x2), (3, .int x3), (4, .int x4), (5, .int x5)]) C dX7_sheet_34 (by decide) rfl ?_
            exact ww_lv [1, 2, 3, 4, 5, 6, 0] rfl (hL36 FU c_now_grid_marks c_now_rule_kind c_row_length c_row_numbers x1 x2 x3 x4 x5 (0 : Int32) hf)
          · have hf := ifF hc hf
            refine ww_bipush (pc := 30) C dX7_sheet_30 kB_m2 ?_
            obtain ⟨e0, e1, e2, e3, e4⟩ := ij5 hf
            exact hret _ _ 32 _ dX7_sheet_32 rfl e0 (by rw [← e1, ← e2, ← e3, ← e4])
        · have hf := ifT hc hf
          refine ww_bipush (pc := 23) C dX7_sheet_23 kB_m3 ?_
          obtain ⟨e0, e1, e2, e3, e4⟩ := ij5 hf
          exact hret _ _ 25 _ dX7_sheet_25 rfl e0 (by rw [← e1, ← e2, ← e3, ← e4])
      · have hf := ifF hc hf
        refine ww_iconst (pc := 16) C dX7_sheet_16 kI_m1 ?_
        obtain ⟨e0, e1, e2, e3, e4⟩ := ij5 hf
        exact hret _ _ 17 _ dX7_sheet_17 rfl e0 (by rw [← e1, ← e2, ← e3, ← e4])
def fX7_point (c_now_grid_size : Int32) (c_row_length : Int32) (c_row_numbers : Nat → Int64) (x1 : Int32) (x2 : Int32) : Option (Int32 × Int32 × (Nat → Int64)) := (fX1_has c_now_grid_size x1 x2).bind fun v1 => if v1 = 0 then some ((-1 : Int32), c_row_length, c_row_numbers) else (fX1_price c_now_grid_size x1 x2 (0 : Int32)).bind fun v2 => (fX1_price c_now_grid_size x1 x2 (1 : Int32)).bind fun v3 => (fX1_price c_now_grid_size x1 x2 (2 : Int32)).bind fun v4 => bd2 (fX3_tell__ c_row_length c_row_numbers ((v2).toInt64) ((v3).toInt64) ((v4).toInt64)) fun v5 v6 => (fX1_numberOf c_now_grid_size x1 x2).bind fun v7 => some (v7, v5, v6)
set_option maxHeartbeats 4000000 in
set_option maxRecDepth 100000 in
theorem tX7_point (l : Launch) (D : va_G) (k : Nat → ClassId) (q_this q_text q_row q_now q_trial q_doors q_history q_kept q_now_grid q_now_rule q_now_grid_marks q_row_numbers : Nat) (c_now_grid_size : Int32) (c_now_grid_full : Int32) (c_now_grid_turns : Int32) (c_now_grid_firstFull : Int32) (c_now_grid_lastFull : Int32) (c_row_length : Int32) (c_row_numbers : Nat → Int64) (x1 : Int32) (x2 : Int32) (r_ : Int32) (w_row_length : Int32) (w_row_numbers : Nat → Int64) (hf : fX7_point c_now_grid_size c_row_length c_row_numbers x1 x2 = some (r_, w_row_length, w_row_numbers)) : MI l yX7_point cX7_point 4 .int (RM 4 94) D k [.ref q_this, .int x1, .int x2] [oX7 q_this q_text q_row q_now q_trial q_doors q_history q_kept, oX5 q_now q_now_grid q_now_rule, oX1 q_now_grid q_now_grid_marks c_now_grid_size c_now_grid_full c_now_grid_turns c_now_grid_firstFull c_now_grid_lastFull, oX3 q_row q_row_numbers c_row_length, aJ k q_row_numbers 16 c_row_numbers] r_ [oX7 q_this q_text q_row q_now q_trial q_doors q_history q_kept, oX5 q_now q_now_grid q_now_rule, oX1 q_now_grid q_now_grid_marks c_now_grid_size c_now_grid_full c_now_grid_turns c_now_grid_firstFull c_now_grid_lastFull, oX3 q_row q_row_numbers w_row_length, aJ k q_row_numbers 16 w_row_numbers] := by
  refine mkMI' (own := "DoorWalk") (by decide) rfl (Nat.le_of_ble_eq_true rfl) ?_
  intro p e s m args below meth c Q A hret C
  refine ww_lv (lv' := [(0, .ref q_this), (1, .int x1), (2, .int x2)]) [0, 1, 2] rfl ?_
  unfold fX7_point at hf
  refine ww_aload_n (pc := 0) C dX7_point_0 rfl 0 rfl ?_
  refine gf7_2 (pc := 1) C kf_X7_26 0 rfl rfl dX7_point_1 ?_
  refine gf5_0 (pc := 4) C kf_X7_74 1 rfl rfl dX7_point_4 ?_
  refine ww_astore_n (pc := 7) (lv' := [(3, .ref q_now_grid), (0, .ref q_this), (1, .int x1), (2, .int x2)]) C dX7_point_7 rfl (by decide) rfl ?_
  refine ww_aload_n (pc := 8) C dX7_point_8 rfl 0 rfl ?_
  refine ww_iload_n (pc := 9) C dX7_point_9 rfl 2 rfl ?_
  refine ww_iload_n (pc := 10) C dX7_point_10 rfl 3 rfl ?_
  obtain ⟨v1, h1, hf⟩ := bsome hf
  refine ww_callVi0 (pc := 11) (As := [.int x1, .int x2]) (rest := []) C (tX1_has l D k q_now_grid q_now_grid_marks c_now_grid_size c_now_grid_full c_now_grid_turns c_now_grid_firstFull c_now_grid_lastFull x1 x2 v1 h1) cv_X7_132 ⟨⟨by decide, by decide⟩, rfl, rfl⟩ 2 rfl rfl [2] rfl rfl rfl rfl (Nat.le_of_ble_eq_true rfl) ⟨Nat.zero_le _, Nat.zero_le _⟩ dX7_point_11 (fun hb1 => ?_)
  refine ww_if_ne (pc := 14) (tgt := 19) C dX7_point_14 (by decide) (fun hc => ?_) (fun hc => ?_)
  · have hf := ifF hc hf
    refine ww_aload_n (pc := 19) C dX7_point_19 rfl 1 rfl ?_
    refine gf7_1 (pc := 20) C kf_X7_19 0 rfl rfl dX7_point_20 ?_
    refine ww_aload_n (pc := 23) C dX7_point_23 rfl 0 rfl ?_
    refine ww_iload_n (pc := 24) C dX7_point_24 rfl 2 rfl ?_
    refine ww_iload_n (pc := 25) C dX7_point_25 rfl 3 rfl ?_
    refine ww_iconst (pc := 26) C dX7_point_26 kI_0 ?_
    obtain ⟨v2, h2, hf⟩ := bsome hf
    refine ww_callVi0 (pc := 27) (As := [.int x1, .int x2, .int (0 : Int32)]) (rest := [.ref q_row]) C (tX1_price l D k q_now_grid q_now_grid_marks c_now_grid_size c_now_grid_full c_now_grid_turns c_now_grid_firstFull c_now_grid_lastFull x1 x2 (0 : Int32) v2 h2) cv_X7_147 ⟨⟨by decide, by decide⟩, rfl, rfl⟩ 2 rfl rfl [2] rfl rfl rfl rfl (Nat.le_of_ble_eq_true rfl) ⟨Nat.zero_le _, Nat.zero_le _⟩ dX7_point_27 (fun hb2 => ?_)
    refine ww_i2l (pc := 30) C dX7_point_30  ?_
    refine ww_aload_n (pc := 31) C dX7_point_31 rfl 0 rfl ?_
    refine ww_iload_n (pc := 32) C dX7_point_32 rfl 2 rfl ?_
    refine ww_iload_n (pc := 33) C dX7_point_33 rfl 3 rfl ?_
    refine ww_iconst (pc := 34) C dX7_point_34 kI_1 ?_
    obtain ⟨v3, h3, hf⟩ := bsome hf
    refine ww_callVi0 (pc := 35) (As := [.int x1, .int x2, .int (1 : Int32)]) (rest := [.long ((v2).toInt64), .ref q_row]) C (tX1_price l D k q_now_grid q_now_grid_marks c_now_grid_size c_now_grid_full c_now_grid_turns c_now_grid_firstFull c_now_grid_lastFull x1 x2 (1 : Int32) v3 h3) cv_X7_147 ⟨⟨by decide, by decide⟩, rfl, rfl⟩ 2 rfl rfl [2] rfl rfl rfl rfl (Nat.le_of_ble_eq_true rfl) ⟨Nat.zero_le _, Nat.zero_le _⟩ dX7_point_35 (fun hb3 => ?_)
    refine ww_i2l (pc := 38) C dX7_point_38  ?_
    refine ww_aload_n (pc := 39) C dX7_point_39 rfl 0 rfl ?_
    refine ww_iload_n (pc := 40) C dX7_point_40 rfl 2 rfl ?_
    refine ww_iload_n (pc := 41) C dX7_point_41 rfl 3 rfl ?_
    refine ww_iconst (pc := 42) C dX7_point_42 kI_2 ?_
    obtain ⟨v4, h4, hf⟩ := bsome hf
    refine ww_callVi0 (pc := 43) (As := [.int x1, .int x2, .int (2 : Int32)]) (rest := [.long ((v3).toInt64), .long ((v2).toInt64), .ref q_row]) C (tX1_price l D k q_now_grid q_now_grid_marks c_now_grid_size c_now_grid_full c_now_grid_turns c_now_grid_firstFull c_now_grid_lastFull x1 x2 (2 : Int32) v4 h4) cv_X7_147 ⟨⟨by decide, by decide⟩, rfl, rfl⟩ 2 rfl rfl [2] rfl rfl rfl rfl (Nat.le_of_ble_eq_true rfl) ⟨Nat.zero_le _, Nat.zero_le _⟩ dX7_point_43 (fun hb4 => ?_)
    refine ww_i2l (pc := 46) C dX7_point_46  ?_
    obtain ⟨v5, v6, h5, hf⟩ := bd2_some hf
    refine ww_callVv (pc := 47) (ws' := [oX7 q_this q_text q_row q_now q_trial q_doors q_history q_kept, oX5 q_now q_now_grid q_now_rule, oX1 q_now_grid q_now_grid_marks c_now_grid_size c_now_grid_full c_now_grid_turns c_now_grid_firstFull c_now_grid_lastFull, oX3 q_row q_row_numbers v5, aJ k q_row_numbers 16 v6]) (As := [.long ((v2).toInt64), .long ((v3).toInt64), .long ((v4).toInt64)]) (rest := []) C (tX3_tell__ l D k q_row q_row_numbers c_row_length c_row_numbers ((v2).toInt64) ((v3).toInt64) ((v4).toInt64) v5 v6 h5) cv_X7_150 ⟨⟨by decide, by decide⟩, rfl, rfl⟩ 3 rfl rfl [3, 4] rfl rfl rfl rfl rfl rfl (Nat.le_of_ble_eq_true rfl) ⟨Nat.zero_le _, Nat.zero_le _⟩ dX7_point_47 ?_
    refine ww_aload_n (pc := 50) C dX7_point_50 rfl 0 rfl ?_
    refine ww_iload_n (pc := 51) C dX7_point_51 rfl 2 rfl ?_
    refine ww_iload_n (pc := 52) C dX7_point_52 rfl 3 rfl ?_
    obtain ⟨v7, h7, hf⟩ := bsome hf
    refine ww_callVi0 (pc := 53) (As := [.int x1, .int x2]) (rest := []) C (tX1_numberOf l D k q_now_grid q_now_grid_marks c_now_grid_size c_now_grid_full c_now_grid_turns c_now_grid_firstFull c_now_grid_lastFull x1 x2 v7 h7) cv_X7_153 ⟨⟨by decide, by decide⟩, rfl, rfl⟩ 2 rfl rfl [2] rfl rfl rfl rfl (Nat.le_of_ble_eq_true rfl) ⟨Nat.zero_le _, Nat.zero_le _⟩ dX7_point_53 (fun hb7 => ?_)
    obtain ⟨e0, e1, e2⟩ := ij3 hf
    exact hret _ _ 56 _ dX7_point_56 rfl e0 (by rw [← e1, ← e2])
  · have hf := ifT hc hf
    refine ww_iconst (pc := 17) C dX7_point_17 kI_m1 ?_
    obtain ⟨e0, e1, e2⟩ := ij3 hf
    exact hret _ _ 18 _ dX7_point_18 rfl e0 (by rw [← e1, ← e2])
def fX7_cell (c_now_grid_size : Int32) (c_now_grid_marks : Nat → Int32) (c_row_length : Int32) (c_row_numbers : Nat → Int64) (x1 : Int32) : Option (Int32 × Int32 × (Nat → Int64)) := (fX1_isCell c_now_grid_size x1).bind fun v1 => if v1 = 0 then some ((-1 : Int32), c_row_length, c_row_numbers) else (fX1_turn c_now_grid_size c_now_grid_marks x1).bind fun v2 => (fX1_cornerLabel c_now_grid_size c_now_grid_marks x1 (0 : Int32)).bind fun v3 => (fX1_cornerLabel c_now_grid_size c_now_grid_marks x1 (1 : Int32)).bind fun v4 => (fX1_cornerLabel c_now_grid_size c_now_grid_marks x1 (2 : Int32)).bind fun v5 => bd2 (fX3_tell___ c_row_length c_row_numbers ((v3).toInt64) ((v4).toInt64) ((v5).toInt64) ((v2).toInt64)) fun v6 v7 => if v2 = 0 then some ((0 : Int32), v6, v7) else some ((1 : Int32), v6, v7)
set_option maxHeartbeats 4000000 in
set_option maxRecDepth 100000 in
theorem tX7_cell (l : Launch) (D : va_G) (k : Nat → ClassId) (q_this q_text q_row q_now q_trial q_doors q_history q_kept q_now_grid q_now_rule q_now_grid_marks q_row_numbers : Nat) (c_now_grid_size : Int32) (c_now_grid_full : Int32) (c_now_grid_turns : Int32) (c_now_grid_firstFull : Int32) (c_now_grid_lastFull : Int32) (c_now_grid_marks : Nat → Int32) (c_row_length : Int32) (c_row_numbers : Nat → Int64) (x1 : Int32) (r_ : Int32) (w_row_length : Int32) (w_row_numbers : Nat → Int64) (hf : fX7_cell c_now_grid_size c_now_grid_marks c_row_length c_row_numbers x1 = some (r_, w_row_length, w_row_numbers)) : MI l yX7_cell cX7_cell 4 .int (RM 5 122) D k [.ref q_this, .int x1] [oX7 q_this q_text q_row q_now q_trial q_doors q_history q_kept, oX5 q_now q_now_grid q_now_rule, oX1 q_now_grid q_now_grid_marks c_now_grid_size c_now_grid_full c_now_grid_turns c_now_grid_firstFull c_now_grid_lastFull, aI k q_now_grid_marks 153 c_now_grid_marks, oX3 q_row q_row_numbers c_row_length, aJ k q_row_numbers 16 c_row_numbers] r_ [oX7 q_this q_text q_row q_now q_trial q_doors q_history q_kept, oX5 q_now q_now_grid q_now_rule, oX1 q_now_grid q_now_grid_marks c_now_grid_size c_now_grid_full c_now_grid_turns c_now_grid_firstFull c_now_grid_lastFull, aI k q_now_grid_marks 153 c_now_grid_marks, oX3 q_row q_row_numbers w_row_length, aJ k q_row_numbers 16 w_row_numbers] := by
  refine mkMI' (own := "DoorWalk") (by decide) rfl (Nat.le_of_ble_eq_true rfl) ?_
  intro p e s m args below meth c Q A hret C
  refine ww_lv (lv' := [(0, .ref q_this), (1, .int x1)]) [0, 1] rfl ?_
  unfold fX7_cell at hf
  refine ww_aload_n (pc := 0) C dX7_cell_0 rfl 0 rfl ?_
  refine gf7_2 (pc := 1) C kf_X7_26 0 rfl rfl dX7_cell_1 ?_
  refine gf5_0 (pc := 4) C kf_X7_74 1 rfl rfl dX7_cell_4 ?_
  refine ww_astore_n (pc := 7) (lv' := [(2, .ref q_now_grid), (0, .ref q_this), (1, .int x1)]) C dX7_cell_7 rfl (by decide) rfl ?_
  refine ww_aload_n (pc := 8) C dX7_cell_8 rfl 0 rfl ?_
  refine ww_iload_n (pc := 9) C dX7_cell_9 rfl 2 rfl ?_
  obtain ⟨v1, h1, hf⟩ := bsome hf
  refine ww_callVi0 (pc := 10) (As := [.int x1]) (rest := []) C (tX1_isCell l D k q_now_grid q_now_grid_marks c_now_grid_size c_now_grid_full c_now_grid_turns c_now_grid_firstFull c_now_grid_lastFull x1 v1 h1) cv_X7_156 ⟨⟨by decide, by decide⟩, rfl, rfl⟩ 2 rfl rfl [2] rfl rfl rfl rfl (Nat.le_of_ble_eq_true rfl) ⟨Nat.zero_le _, Nat.zero_le _⟩ dX7_cell_10 (fun hb1 => ?_)
  refine ww_if_ne (pc := 13) (tgt := 18) C dX7_cell_13 (by decide) (fun hc => ?_) (fun hc => ?_)
  · have hf := ifF hc hf
    refine ww_aload_n (pc := 18) C dX7_cell_18 rfl 0 rfl ?_
    refine ww_iload_n (pc := 19) C dX7_cell_19 rfl 2 rfl ?_
    obtain ⟨v2, h2, hf⟩ := bsome hf
    refine ww_callVi0 (pc := 20) (As := [.int x1]) (rest := []) C (tX1_turn l D k q_now_grid q_now_grid_marks c_now_grid_size c_now_grid_full c_now_grid_turns c_now_grid_firstFull c_now_grid_lastFull c_now_grid_marks x1 v2 h2) cv_X7_159 ⟨⟨by decide, by decide⟩, rfl, rfl⟩ 2 rfl rfl [2, 3] rfl rfl rfl rfl (Nat.le_of_ble_eq_true rfl) ⟨Nat.zero_le _, Nat.zero_le _⟩ dX7_cell_20 (fun hb2 => ?_)
    refine ww_istore_n (pc := 23) (lv' := [(3, .int v2), (2, .ref q_now_grid), (0, .ref q_this), (1, .int x1)]) C dX7_cell_23 rfl (by decide) rfl ?_
    refine ww_aload_n (pc := 24) C dX7_cell_24 rfl 2 rfl ?_
    refine gf7_1 (pc := 25) C kf_X7_19 0 rfl rfl dX7_cell_25 ?_
    refine ww_aload_n (pc := 28) C dX7_cell_28 rfl 1 rfl ?_
    refine ww_iload_n (pc := 29) C dX7_cell_29 rfl 3 rfl ?_
    refine ww_iconst (pc := 30) C dX7_cell_30 kI_0 ?_
    obtain ⟨v3, h3, hf⟩ := bsome hf
    refine ww_callVi0 (pc := 31) (As := [.int x1, .int (0 : Int32)]) (rest := [.ref q_row]) C (tX1_cornerLabel l D k q_now_grid q_now_grid_marks c_now_grid_size c_now_grid_full c_now_grid_turns c_now_grid_firstFull c_now_grid_lastFull c_now_grid_marks x1 (0 : Int32) v3 h3) cv_X7_162 ⟨⟨by decide, by decide⟩, rfl, rfl⟩ 2 rfl rfl [2, 3] rfl rfl rfl rfl (Nat.le_of_ble_eq_true rfl) ⟨Nat.zero_le _, Nat.zero_le _⟩ dX7_cell_31 (fun hb3 => ?_)
    refine ww_i2l (pc := 34) C dX7_cell_34  ?_
    refine ww_aload_n (pc := 35) C dX7_cell_35 rfl 1 rfl ?_
    refine ww_iload_n (pc := 36) C dX7_cell_36 rfl 3 rfl ?_
    refine ww_iconst (pc := 37) C dX7_cell_37 kI_1 ?_
    obtain ⟨v4, h4, hf⟩ := bsome hf
    refine ww_callVi0 (pc := 38) (As := [.int x1, .int (1 : Int32)]) (rest := [.long ((v3).toInt64), .ref q_row]) C (tX1_cornerLabel l D k q_now_grid q_now_grid_marks c_now_grid_size c_now_grid_full c_now_grid_turns c_now_grid_firstFull c_now_grid_lastFull c_now_grid_marks x1 (1 : Int32) v4 h4) cv_X7_162 ⟨⟨by decide, by decide⟩, rfl, rfl⟩ 2 rfl rfl [2, 3] rfl rfl rfl rfl (Nat.le_of_ble_eq_true rfl) ⟨Nat.zero_le _, Nat.zero_le _⟩ dX7_cell_38 (fun hb4 => ?_)
    refine ww_i2l (pc := 41) C dX7_cell_41  ?_
    refine ww_aload_n (pc := 42) C dX7_cell_42 rfl 1 rfl ?_
    refine ww_iload_n (pc := 43) C dX7_cell_43 rfl 3 rfl ?_
    refine ww_iconst (pc := 44) C dX7_cell_44 kI_2 ?_
    obtain ⟨v5, h5, hf⟩ := bsome hf
    refine ww_callVi0 (pc := 45) (As := [.int x1, .int (2 : Int32)]) (rest := [.long ((v4).toInt64), .long ((v3).toInt64), .ref q_row]) C (tX1_cornerLabel l D k q_now_grid q_now_grid_marks c_now_grid_size c_now_grid_full c_now_grid_turns c_now_grid_firstFull c_now_grid_lastFull c_now_grid_marks x1 (2 : Int32) v5 h5) cv_X7_162 ⟨⟨by decide, by decide⟩, rfl, rfl⟩ 2 rfl rfl [2, 3] rfl rfl rfl rfl (Nat.le_of_ble_eq_true rfl) ⟨Nat.zero_le _, Nat.zero_le _⟩ dX7_cell_45 (fun hb5 => ?_)
    refine ww_i2l (pc := 48) C dX7_cell_48  ?_
    refine ww_iload_n (pc := 49) C dX7_cell_49 rfl 0 rfl ?_
    refine ww_i2l (pc := 50) C dX7_cell_50  ?_
    obtain ⟨v6, v7, h6, hf⟩ := bd2_some hf
    refine ww_callVv (pc := 51) (ws' := [oX7 q_this q_text q_row q_now q_trial q_doors q_history q_kept, oX5 q_now q_now_grid q_now_rule, oX1 q_now_grid q_now_grid_marks c_now_grid_size c_now_grid_full c_now_grid_turns c_now_grid_firstFull c_now_grid_lastFull, aI k q_now_grid_marks 153 c_now_grid_marks, oX3 q_row q_row_numbers v6, aJ k q_row_numbers 16 v7]) (As := [.long ((v3).toInt64), .long ((v4).toInt64), .long ((v5).toInt64), .long ((v2).toInt64)]) (rest := []) C (tX3_tell___ l D k q_row q_row_numbers c_row_length c_row_numbers ((v3).toInt64) ((v4).toInt64) ((v5).toInt64) ((v2).toInt64) v6 v7 h6) cv_X7_165 ⟨⟨by decide, by decide⟩, rfl, rfl⟩ 4 rfl rfl [4, 5] rfl rfl rfl rfl rfl rfl (Nat.le_of_ble_eq_true rfl) ⟨Nat.zero_le _, Nat.zero_le _⟩ dX7_cell_51 ?_
    refine ww_iload_n (pc := 54) C dX7_cell_54 rfl 0 rfl ?_
    refine ww_if_ne (pc := 55) (tgt := 62) C dX7_cell_55 (by decide) (fun hc => ?_) (fun hc => ?_)
    · have hf := ifF hc hf
      refine ww_iconst (pc := 62) C dX7_cell_62 kI_1 ?_
      obtain ⟨e0, e1, e2⟩ := ij3 hf
      exact hret _ _ 63 _ dX7_cell_63 rfl e0 (by rw [← e1, ← e2])
    · have hf := ifT hc hf
      refine ww_iconst (pc := 58) C dX7_cell_58 kI_0 ?_
      refine ww_goto (pc := 59) (tgt := 63) C dX7_cell_59 (by decide) ?_
      obtain ⟨e0, e1, e2⟩ := ij3 hf
      exact hret _ _ 63 _ dX7_cell_63 rfl e0 (by rw [← e1, ← e2])
  · have hf := ifT hc hf
    refine ww_iconst (pc := 16) C dX7_cell_16 kI_m1 ?_
    obtain ⟨e0, e1, e2⟩ := ij3 hf
    exact hret _ _ 17 _ dX7_cell_17 rfl e0 (by rw [← e1, ← e2])
def fX7_full (c_now_grid_size : Int32) (c_now_grid_marks : Nat → Int32) (c_now_grid_firstFull : Int32) (c_now_grid_full : Int32) (c_now_grid_lastFull : Int32) (c_now_grid_turns : Int32) (c_row_length : Int32) (c_row_numbers : Nat → Int64) : Option (Int32 × Int32 × Int32 × Int32 × Int32 × Int32 × (Nat → Int64)) := bd4 (fX1_survey c_now_grid_size c_now_grid_marks c_now_grid_firstFull c_now_grid_full c_now_grid_lastFull c_now_grid_turns) fun v1 v2 v3 v4 => bd2 (fX3_tell__ c_row_length c_row_numbers ((v4).toInt64) ((v1).toInt64) ((v3).toInt64)) fun v5 v6 => some (v2, v1, v2, v3, v4, v5, v6)
set_option maxHeartbeats 4000000 in
set_option maxRecDepth 100000 in
theorem tX7_full (l : Launch) (D : va_G) (k : Nat → ClassId) (q_this q_text q_row q_now q_trial q_doors q_history q_kept q_now_grid q_now_rule q_now_grid_marks q_row_numbers : Nat) (c_now_grid_size : Int32) (c_now_grid_full : Int32) (c_now_grid_turns : Int32) (c_now_grid_firstFull : Int32) (c_now_grid_lastFull : Int32) (c_now_grid_marks : Nat → Int32) (c_row_length : Int32) (c_row_numbers : Nat → Int64)  (r_ : Int32) (w_now_grid_firstFull : Int32) (w_now_grid_full : Int32) (w_now_grid_lastFull : Int32) (w_now_grid_turns : Int32) (w_row_length : Int32) (w_row_numbers : Nat → Int64) (hf : fX7_full c_now_grid_size c_now_grid_marks c_now_grid_firstFull c_now_grid_full c_now_grid_lastFull c_now_grid_turns c_row_length c_row_numbers = some (r_, w_now_grid_firstFull, w_now_grid_full, w_now_grid_lastFull, w_now_grid_turns, w_row_length, w_row_numbers)) : MI l yX7_full cX7_full 2 .int (RM 4 94) D k [.ref q_this] [oX7 q_this q_text q_row q_now q_trial q_doors q_history q_kept, oX5 q_now q_now_grid q_now_rule, oX1 q_now_grid q_now_grid_marks c_now_grid_size c_now_grid_full c_now_grid_turns c_now_grid_firstFull c_now_grid_lastFull, aI k q_now_grid_marks 153 c_now_grid_marks, oX3 q_row q_row_numbers c_row_length, aJ k q_row_numbers 16 c_row_numbers] r_ [oX7 q_this q_text q_row q_now q_trial q_doors q_history q_kept, oX5 q_now q_now_grid q_now_rule, oX1 q_now_grid q_now_grid_marks c_now_grid_size w_now_grid_full w_now_grid_turns w_now_grid_firstFull w_now_grid_lastFull, aI k q_now_grid_marks 153 c_now_grid_marks, oX3 q_row q_row_numbers w_row_length, aJ k q_row_numbers 16 w_row_numbers] := by
  refine mkMI' (own := "DoorWalk") (by decide) rfl (Nat.le_of_ble_eq_true rfl) ?_
  intro p e s m args below meth c Q A hret C
  refine ww_lv (lv' := [(0, .ref q_this)]) [0] rfl ?_
  unfold fX7_full at hf
  refine ww_aload_n (pc := 0) C dX7_full_0 rfl 0 rfl ?_
  refine gf7_2 (pc := 1) C kf_X7_26 0 rfl rfl dX7_full_1 ?_
  refine gf5_0 (pc := 4) C kf_X7_74 1 rfl rfl dX7_full_4 ?_
  refine ww_astore_n (pc := 7) (lv' := [(1, .ref q_now_grid), (0, .ref q_this)]) C dX7_full_7 rfl (by decide) rfl ?_
  refine ww_aload_n (pc := 8) C dX7_full_8 rfl 0 rfl ?_
  obtain ⟨v1, v2, v3, v4, h1, hf⟩ := bd4_some hf
  refine ww_callVv (pc := 9) (ws' := [oX7 q_this q_text q_row q_now q_trial q_doors q_history q_kept, oX5 q_now q_now_grid q_now_rule, oX1 q_now_grid q_now_grid_marks c_now_grid_size v2 v4 v1 v3, aI k q_now_grid_marks 153 c_now_grid_marks, oX3 q_row q_row_numbers c_row_length, aJ k q_row_numbers 16 c_row_numbers]) (As := []) (rest := []) C (tX1_survey l D k q_now_grid q_now_grid_marks c_now_grid_size c_now_grid_full c_now_grid_turns c_now_grid_firstFull c_now_grid_lastFull c_now_grid_marks v1 v2 v3 v4 h1) cv_X7_168 ⟨⟨by decide, by decide⟩, rfl, rfl⟩ 2 rfl rfl [2, 3] rfl rfl rfl rfl rfl rfl (Nat.le_of_ble_eq_true rfl) ⟨Nat.zero_le _, Nat.zero_le _⟩ dX7_full_9 ?_
  refine ww_aload_n (pc := 12) C dX7_full_12 rfl 1 rfl ?_
  refine gf7_1 (pc := 13) C kf_X7_19 0 rfl rfl dX7_full_13 ?_
  refine ww_aload_n (pc := 16) C dX7_full_16 rfl 0 rfl ?_
  refine gf1_3 (pc := 17) C kf_X7_171 2 rfl rfl dX7_full_17 ?_
  refine ww_i2l (pc := 20) C dX7_full_20  ?_
  refine ww_aload_n (pc := 21) C dX7_full_21 rfl 0 rfl ?_
  refine gf1_4 (pc := 22) C kf_X7_174 2 rfl rfl dX7_full_22 ?_
  refine ww_i2l (pc := 25) C dX7_full_25  ?_
  refine ww_aload_n (pc := 26) C dX7_full_26 rfl 0 rfl ?_
  refine gf1_5 (pc := 27) C kf_X7_177 2 rfl rfl dX7_full_27 ?_
  refine ww_i2l (pc := 30) C dX7_full_30  ?_
  obtain ⟨v5, v6, h5, hf⟩ := bd2_some hf
  refine ww_callVv (pc := 31) (ws' := [oX7 q_this q_text q_row q_now q_trial q_doors q_history q_kept, oX5 q_now q_now_grid q_now_rule, oX1 q_now_grid q_now_grid_marks c_now_grid_size v2 v4 v1 v3, aI k q_now_grid_marks 153 c_now_grid_marks, oX3 q_row q_row_numbers v5, aJ k q_row_numbers 16 v6]) (As := [.long ((v4).toInt64), .long ((v1).toInt64), .long ((v3).toInt64)]) (rest := []) C (tX3_tell__ l D k q_row q_row_numbers c_row_length c_row_numbers ((v4).toInt64) ((v1).toInt64) ((v3).toInt64) v5 v6 h5) cv_X7_150 ⟨⟨by decide, by decide⟩, rfl, rfl⟩ 4 rfl rfl [4, 5] rfl rfl rfl rfl rfl rfl (Nat.le_of_ble_eq_true rfl) ⟨Nat.zero_le _, Nat.zero_le _⟩ dX7_full_31 ?_
  refine ww_aload_n (pc := 34) C dX7_full_34 rfl 0 rfl ?_
  refine gf1_2 (pc := 35) C kf_X7_180 2 rfl rfl dX7_full_35 ?_
  obtain ⟨e0, e1, e2, e3, e4, e5, e6⟩ := ij7 hf
  exact hret _ _ 38 _ dX7_full_38 rfl e0 (by rw [← e1, ← e2, ← e3, ← e4, ← e5, ← e6])
def fX7_nth (c_now_grid_size : Int32) (c_now_grid_marks : Nat → Int32) (c_row_length : Int32) (c_row_numbers : Nat → Int64) (x1 : Int32) : Option (Int32 × Int32 × (Nat → Int64)) := (fX1_nthFull c_now_grid_size c_now_grid_marks x1).bind fun v1 => if v1 = (-1 : Int32) then some (v1, c_row_length, c_row_numbers) else (fX1_turn c_now_grid_size c_now_grid_marks v1).bind fun v2 => bd2 (fX3_tell c_row_length c_row_numbers ((v2).toInt64)) fun v3 v4 => some (v1, v3, v4)
set_option maxHeartbeats 4000000 in
set_option maxRecDepth 100000 in
theorem tX7_nth (l : Launch) (D : va_G) (k : Nat → ClassId) (q_this q_text q_row q_now q_trial q_doors q_history q_kept q_now_grid q_now_rule q_now_grid_marks q_row_numbers : Nat) (c_now_grid_size : Int32) (c_now_grid_full : Int32) (c_now_grid_turns : Int32) (c_now_grid_firstFull : Int32) (c_now_grid_lastFull : Int32) (c_now_grid_marks : Nat → Int32) (c_row_length : Int32) (c_row_numbers : Nat → Int64) (x1 : Int32) (r_ : Int32) (w_row_length : Int32) (w_row_numbers : Nat → Int64) (hf : fX7_nth c_now_grid_size c_now_grid_marks c_row_length c_row_numbers x1 = some (r_, w_row_length, w_row_numbers)) : MI l yX7_nth cX7_nth 3 .int (RM 4 91) D k [.ref q_this, .int x1] [oX7 q_this q_text q_row q_now q_trial q_doors q_history q_kept, oX5 q_now q_now_grid q_now_rule, oX1 q_now_grid q_now_grid_marks c_now_grid_size c_now_grid_full c_now_grid_turns c_now_grid_firstFull c_now_grid_lastFull, aI k q_now_grid_marks 153 c_now_grid_marks, oX3 q_row q_row_numbers c_row_length, aJ k q_row_numbers 16 c_row_numbers] r_ [oX7 q_this q_text q_row q_now q_trial q_doors q_history q_kept, oX5 q_now q_now_grid q_now_rule, oX1 q_now_grid q_now_grid_marks c_now_grid_size c_now_grid_full c_now_grid_turns c_now_grid_firstFull c_now_grid_lastFull, aI k q_now_grid_marks 153 c_now_grid_marks, oX3 q_row q_row_numbers w_row_length, aJ k q_row_numbers 16 w_row_numbers] := by
  refine mkMI' (own := "DoorWalk") (by decide) rfl (Nat.le_of_ble_eq_true rfl) ?_
  intro p e s m args below meth c Q A hret C
  refine ww_lv (lv' := [(0, .ref q_this), (1, .int x1)]) [0, 1] rfl ?_
  unfold fX7_nth at hf
  refine ww_aload_n (pc := 0) C dX7_nth_0 rfl 0 rfl ?_
  refine gf7_2 (pc := 1) C kf_X7_26 0 rfl rfl dX7_nth_1 ?_
  refine gf5_0 (pc := 4) C kf_X7_74 1 rfl rfl dX7_nth_4 ?_
  refine ww_iload_n (pc := 7) C dX7_nth_7 rfl 1 rfl ?_
  obtain ⟨v1, h1, hf⟩ := bsome hf
  refine ww_callVi0 (pc := 8) (As := [.int x1]) (rest := []) C (tX1_nthFull l D k q_now_grid q_now_grid_marks c_now_grid_size c_now_grid_full c_now_grid_turns c_now_grid_firstFull c_now_grid_lastFull c_now_grid_marks x1 v1 h1) cv_X7_183 ⟨⟨by decide, by decide⟩, rfl, rfl⟩ 2 rfl rfl [2, 3] rfl rfl rfl rfl (Nat.le_of_ble_eq_true rfl) ⟨Nat.zero_le _, Nat.zero_le _⟩ dX7_nth_8 (fun hb1 => ?_)
  refine ww_istore_n (pc := 11) (lv' := [(2, .int v1), (0, .ref q_this), (1, .int x1)]) C dX7_nth_11 rfl (by decide) rfl ?_
  refine ww_iload_n (pc := 12) C dX7_nth_12 rfl 0 rfl ?_
  refine ww_iconst (pc := 13) C dX7_nth_13 kI_m1 ?_
  refine ww_icmp_eq (pc := 14) (tgt := 36) C dX7_nth_14 (by decide) (fun hc => ?_) (fun hc => ?_)
  · have hf := ifT hc hf
    refine ww_iload_n (pc := 36) C dX7_nth_36 rfl 0 rfl ?_
    obtain ⟨e0, e1, e2⟩ := ij3 hf
    exact hret _ _ 37 _ dX7_nth_37 rfl e0 (by rw [← e1, ← e2])
  · have hf := ifF hc hf
    refine ww_aload_n (pc := 17) C dX7_nth_17 rfl 1 rfl ?_
    refine gf7_1 (pc := 18) C kf_X7_19 0 rfl rfl dX7_nth_18 ?_
    refine ww_aload_n (pc := 21) C dX7_nth_21 rfl 1 rfl ?_
    refine gf7_2 (pc := 22) C kf_X7_26 0 rfl rfl dX7_nth_22 ?_
    refine gf5_0 (pc := 25) C kf_X7_74 1 rfl rfl dX7_nth_25 ?_
    refine ww_iload_n (pc := 28) C dX7_nth_28 rfl 0 rfl ?_
    obtain ⟨v2, h2, hf⟩ := bsome hf
    refine ww_callVi0 (pc := 29) (As := [.int v1]) (rest := [.ref q_row]) C (tX1_turn l D k q_now_grid q_now_grid_marks c_now_grid_size c_now_grid_full c_now_grid_turns c_now_grid_firstFull c_now_grid_lastFull c_now_grid_marks v1 v2 h2) cv_X7_159 ⟨⟨by decide, by decide⟩, rfl, rfl⟩ 2 rfl rfl [2, 3] rfl rfl rfl rfl (Nat.le_of_ble_eq_true rfl) ⟨Nat.zero_le _, Nat.zero_le _⟩ dX7_nth_29 (fun hb2 => ?_)
    refine ww_i2l (pc := 32) C dX7_nth_32  ?_
    obtain ⟨v3, v4, h3, hf⟩ := bd2_some hf
    refine ww_callVv (pc := 33) (ws' := [oX7 q_this q_text q_row q_now q_trial q_doors q_history q_kept, oX5 q_now q_now_grid q_now_rule, oX1 q_now_grid q_now_grid_marks c_now_grid_size c_now_grid_full c_now_grid_turns c_now_grid_firstFull c_now_grid_lastFull, aI k q_now_grid_marks 153 c_now_grid_marks, oX3 q_row q_row_numbers v3, aJ k q_row_numbers 16 v4]) (As := [.long ((v2).toInt64)]) (rest := []) C (tX3_tell l D k q_row q_row_numbers c_row_length c_row_numbers ((v2).toInt64) v3 v4 h3) cv_X7_186 ⟨⟨by decide, by decide⟩, rfl, rfl⟩ 4 rfl rfl [4, 5] rfl rfl rfl rfl rfl rfl (Nat.le_of_ble_eq_true rfl) ⟨Nat.zero_le _, Nat.zero_le _⟩ dX7_nth_33 ?_
    refine ww_iload_n (pc := 36) C dX7_nth_36 rfl 0 rfl ?_
    obtain ⟨e0, e1, e2⟩ := ij3 hf
    exact hret _ _ 37 _ dX7_nth_37 rfl e0 (by rw [← e1, ← e2])
def fX7_with_b80 (c_now_grid_size : Int32) (c_now_grid_marks : Nat → Int32) (rc20 : Int32 → (Nat → Int64) → Int32 → Int32 → Int32 → Int32 → Option (Int32 × Int32 × (Nat → Int64))) (c_row_length : Int32) (c_row_numbers : Nat → Int64) (n1 : Int32) (n2 : Int32) (n4 : Int32) (s0 : Int32) : Option (Int32 × Int32 × (Nat → Int64)) := (some (n4 + (1 : Int32))).bind fun v1 => rc20 c_row_length c_row_numbers n1 n2 s0 v1
def fX7_with_b20 (c_now_grid_size : Int32) (c_now_grid_marks : Nat → Int32) (rc20 : Int32 → (Nat → Int64) → Int32 → Int32 → Int32 → Int32 → Option (Int32 × Int32 × (Nat → Int64))) (c_row_length : Int32) (c_row_numbers : Nat → Int64) (n1 : Int32) (n2 : Int32) (n3 : Int32) (n4 : Int32) : Option (Int32 × Int32 × (Nat → Int64)) := (fX1_numbers c_now_grid_size).bind fun v1 => if v1 ≤ n4 then bd2 (fX3_tell c_row_length c_row_numbers ((n3).toInt64)) fun v2 v3 => some (n2, v2, v3) else (fX1_isCell c_now_grid_size n4).bind fun v4 => if v4 = 0 then (some (n4 + (1 : Int32))).bind fun v5 => rc20 c_row_length c_row_numbers n1 n2 n3 v5 else (fX1_labelSet c_now_grid_size c_now_grid_marks n4).bind fun v6 => if v6 = n1 then (some (n2 + (1 : Int32))).bind fun v8 => if n3 = (-1 : Int32) then fX7_with_b80 c_now_grid_size c_now_grid_marks rc20 c_row_length c_row_numbers n1 v8 n4 n4 else fX7_with_b80 c_now_grid_size c_now_grid_marks rc20 c_row_length c_row_numbers n1 v8 n4 n3 else (some (n4 + (1 : Int32))).bind fun v7 => rc20 c_row_length c_row_numbers n1 n2 n3 v7
def fX7_with (c_now_grid_size : Int32) (c_now_grid_marks : Nat → Int32) (c_row_length : Int32) (c_row_numbers : Nat → Int64) (x1 : Int32) : Option (Int32 × Int32 × (Nat → Int64)) := if x1 < (1 : Int32) then some ((-1 : Int32), c_row_length, c_row_numbers) else if x1 ≤ (7 : Int32) then lfix (fX7_with_b20 c_now_grid_size c_now_grid_marks) (fun _ _ _ _ _ _ => none) FU c_row_length c_row_numbers x1 (0 : Int32) (-1 : Int32) (0 : Int32) else some ((-1 : Int32), c_row_length, c_row_numbers)
set_option maxHeartbeats 4000000 in
set_option maxRecDepth 100000 in
theorem tX7_with (l : Launch) (D : va_G) (k : Nat → ClassId) (q_this q_text q_row q_now q_trial q_doors q_history q_kept q_now_grid q_now_rule q_now_grid_marks q_row_numbers : Nat) (c_now_grid_size : Int32) (c_now_grid_full : Int32) (c_now_grid_turns : Int32) (c_now_grid_firstFull : Int32) (c_now_grid_lastFull : Int32) (c_now_grid_marks : Nat → Int32) (c_row_length : Int32) (c_row_numbers : Nat → Int64) (x1 : Int32) (r_ : Int32) (w_row_length : Int32) (w_row_numbers : Nat → Int64) (hf : fX7_with c_now_grid_size c_now_grid_marks c_row_length c_row_numbers x1 = some (r_, w_row_length, w_row_numbers)) : MI l yX7_with cX7_with 5 .int (RM 3 69) D k [.ref q_this, .int x1] [oX7 q_this q_text q_row q_now q_trial q_doors q_history q_kept, oX5 q_now q_now_grid q_now_rule, oX1 q_now_grid q_now_grid_marks c_now_grid_size c_now_grid_full c_now_grid_turns c_now_grid_firstFull c_now_grid_lastFull, aI k q_now_grid_marks 153 c_now_grid_marks, oX3 q_row q_row_numbers c_row_length, aJ k q_row_numbers 16 c_row_numbers] r_ [oX7 q_this q_text q_row q_now q_trial q_doors q_history q_kept, oX5 q_now q_now_grid q_now_rule, oX1 q_now_grid q_now_grid_marks c_now_grid_size c_now_grid_full c_now_grid_turns c_now_grid_firstFull c_now_grid_lastFull, aI k q_now_grid_marks 153 c_now_grid_marks, oX3 q_row q_row_numbers w_row_length, aJ k q_row_numbers 16 w_row_numbers] := by
  refine mkMI' (own := "DoorWalk") (by decide) rfl (Nat.le_of_ble_eq_true rfl) ?_
  intro p e s m args below meth c Q A hret C
  refine ww_lv (lv' := [(0, .ref q_this), (1, .int x1)]) [0, 1] rfl ?_
  have hL20 : ∀ (n : Nat) (c_row_length : Int32) (c_row_numbers : Nat → Int64) (n1 : Int32) (n2 : Int32) (n3 : Int32) (n4 : Int32), lfix (fX7_with_b20 c_now_grid_size c_now_grid_marks) (fun _ _ _ _ _ _ => none) n c_row_length c_row_numbers n1 n2 n3 n4 = some (r_, w_row_length, w_row_numbers) → WW p l e (RM 3 69) s m args below meth c Q 5 D A 0 0 [oX7 q_this q_text q_row q_now q_trial q_doors q_history q_kept, oX5 q_now q_now_grid q_now_rule, oX1 q_now_grid q_now_grid_marks c_now_grid_size c_now_grid_full c_now_grid_turns c_now_grid_firstFull c_now_grid_lastFull, aI k q_now_grid_marks 153 c_now_grid_marks, oX3 q_row q_row_numbers c_row_length, aJ k q_row_numbers 16 c_row_numbers] [(0, .ref q_this), (1, .int n1), (2, .int n2), (3, .int n3), (4, .int n4)] 20 [] := by
    intro n
    induction n with
    | zero => intro c_row_length c_row_numbers n1 n2 n3 n4 hf; cases hf
    | succ n ih20 =>
      obtain ⟨rc20, hrc20⟩ : ∃ f9, f9 = lfix (fX7_with_b20 c_now_grid_size c_now_grid_marks) (fun _ _ _ _ _ _ => none) n := ⟨_, rfl⟩
      rw [← hrc20] at ih20
      have hJ80 : ∀ (c_row_length : Int32) (c_row_numbers : Nat → Int64) (n1 : Int32) (n2 : Int32) (n4 : Int32) (s0 : Int32), fX7_with_b80 c_now_grid_size c_now_grid_marks rc20 c_row_length c_row_numbers n1 n2 n4 s0 = some (r_, w_row_length, w_row_numbers) → WW p l e (RM 3 69) s m args below meth c Q 5 D A 0 0 [oX7 q_this q_text q_row q_now q_trial q_doors q_history q_kept, oX5 q_now q_now_grid q_now_rule, oX1 q_now_grid q_now_grid_marks c_now_grid_size c_now_grid_full c_now_grid_turns c_now_grid_firstFull c_now_grid_lastFull, aI k q_now_grid_marks 153 c_now_grid_marks, oX3 q_row q_row_numbers c_row_length, aJ k q_row_numbers 16 c_row_numbers] [(0, .ref q_this), (1, .int n1), (2, .int n2), (4, .int n4)] 80 [.int s0] := by
        intro c_row_length c_row_numbers n1 n2 n4 s0
        intro hf
        unfold fX7_with_b80 at hf
        refine ww_istore_n (pc := 80) (lv' := [(3, .int s0), (0, .ref q_this), (1, .int n1), (2, .int n2), (4, .int n4)]) C dX7_with_80 rfl (by decide) rfl ?_
        obtain ⟨v1, h1, hf⟩ := bsome hf
        refine ww_iincN (pc := 81) (lv' := [(4, .int v1), (3, .int s0), (0, .ref q_this), (1, .int n1), (2, .int n2)]) (j := 4) C dX7_with_81 kI_1 rfl h1 (by decide) rfl ?_
        refine ww_goto (pc := 84) (tgt := 20) C dX7_with_84 (by decide) ?_
        exact ww_lv [2, 3, 4, 1, 0] rfl (ih20 c_row_length c_row_numbers n1 n2 s0 v1 hf)
      intro c_row_length c_row_numbers n1 n2 n3 n4 hf
      have hf : fX7_with_b20 c_now_grid_size c_now_grid_marks rc20 c_row_length c_row_numbers n1 n2 n3 n4 = some (r_, w_row_length, w_row_numbers) := by rw [hrc20]; exact hf
      unfold fX7_with_b20 at hf
      refine ww_iload (pc := 20) C dX7_with_20 4 rfl ?_
      refine ww_aload_n (pc := 22) C dX7_with_22 rfl 0 rfl ?_
      refine gf7_2 (pc := 23) C kf_X7_26 0 rfl rfl dX7_with_23 ?_
      refine gf5_0 (pc := 26) C kf_X7_74 1 rfl rfl dX7_with_26 ?_
      obtain ⟨v1, h1, hf⟩ := bsome hf
      refine ww_callVi0 (pc := 29) (As := []) (rest := [.int n4]) C (tX1_numbers l D k q_now_grid q_now_grid_marks c_now_grid_size c_now_grid_full c_now_grid_turns c_now_grid_firstFull c_now_grid_lastFull v1 h1) cv_X7_189 ⟨⟨by decide, by decide⟩, rfl, rfl⟩ 2 rfl rfl [2] rfl rfl rfl rfl (Nat.le_of_ble_eq_true rfl) ⟨Nat.zero_le _, Nat.zero_le _⟩ dX7_with_29 (fun hb1 => ?_)
      refine ww_icmp_ge (pc := 32) (tgt := 87) C dX7_with_32 (by decide) (fun hc => ?_) (fun hc => ?_)
      · have hf := ifT hc hf
        refine ww_aload_n (pc := 87) C dX7_with_87 rfl 0 rfl ?_
        refine gf7_1 (pc := 88) C kf_X7_19 0 rfl rfl dX7_with_88 ?_
        refine ww_iload_n (pc := 91) C dX7_with_91 rfl 3 rfl ?_
        refine ww_i2l (pc := 92) C dX7_with_92  ?_
        obtain ⟨v2, v3, h2, hf⟩ := bd2_some hf
        refine ww_callVv (pc := 93) (ws' := [oX7 q_this q_text q_row q_now q_trial q_doors q_history q_kept, oX5 q_now q_now_grid q_now_rule, oX1 q_now_grid q_now_grid_marks c_now_grid_size c_now_grid_full c_now_grid_turns c_now_grid_firstFull c_now_grid_lastFull, aI k q_now_grid_marks 153 c_now_grid_marks, oX3 q_row q_row_numbers v2, aJ k q_row_numbers 16 v3]) (As := [.long ((n3).toInt64)]) (rest := []) C (tX3_tell l D k q_row q_row_numbers c_row_length c_row_numbers ((n3).toInt64) v2 v3 h2) cv_X7_186 ⟨⟨by decide, by decide⟩, rfl, rfl⟩ 4 rfl rfl [4, 5] rfl rfl rfl rfl rfl rfl (Nat.le_of_ble_eq_true rfl) ⟨Nat.zero_le _, Nat.zero_le _⟩ dX7_with_93 ?_
        refine ww_iload_n (pc := 96) C dX7_with_96 rfl 2 rfl ?_
        obtain ⟨e0, e1, e2⟩ := ij3 hf
        exact hret _ _ 97 _ dX7_with_97 rfl e0 (by rw [← e1, ← e2])
      · have hf := ifF hc hf
        refine ww_aload_n (pc := 35) C dX7_with_35 rfl 0 rfl ?_
        refine gf7_2 (pc := 36) C kf_X7_26 0 rfl rfl dX7_with_36 ?_
        refine gf5_0 (pc := 39) C kf_X7_74 1 rfl rfl dX7_with_39 ?_
        refine ww_iload (pc := 42) C dX7_with_42 4 rfl ?_
        obtain ⟨v4, h4, hf⟩ := bsome hf
        refine ww_callVi0 (pc := 44) (As := [.int n4]) (rest := []) C (tX1_isCell l D k q_now_grid q_now_grid_marks c_now_grid_size c_now_grid_full c_now_grid_turns c_now_grid_firstFull c_now_grid_lastFull n4 v4 h4) cv_X7_156 ⟨⟨by decide, by decide⟩, rfl, rfl⟩ 2 rfl rfl [2] rfl rfl rfl rfl (Nat.le_of_ble_eq_true rfl) ⟨Nat.zero_le _, Nat.zero_le _⟩ dX7_with_44 (fun hb4 => ?_)
        refine ww_if_eq (pc := 47) (tgt := 81) C dX7_with_47 (by decide) (fun hc => ?_) (fun hc => ?_)
        · have hf := ifT hc hf
          obtain ⟨v5, h5, hf⟩ := bsome hf
          refine ww_iincN (pc := 81) (lv' := [(4, .int v5), (0, .ref q_this), (1, .int n1), (2, .int n2), (3, .int n3)]) (j := 4) C dX7_with_81 kI_1 rfl h5 (by decide) rfl ?_
          refine ww_goto (pc := 84) (tgt := 20) C dX7_with_84 (by decide) ?_
          exact ww_lv [1, 2, 3, 4, 0] rfl (ih20 c_row_length c_row_numbers n1 n2 n3 v5 hf)
        · have hf := ifF hc hf
          refine ww_aload_n (pc := 50) C dX7_with_50 rfl 0 rfl ?_
          refine gf7_2 (pc := 51) C kf_X7_26 0 rfl rfl dX7_with_51 ?_
          refine gf5_0 (pc := 54) C kf_X7_74 1 rfl rfl dX7_with_54 ?_
          refine ww_iload (pc := 57) C dX7_with_57 4 rfl ?_
          obtain ⟨v6, h6, hf⟩ := bsome hf
          refine ww_callVi0 (pc := 59) (As := [.int n4]) (rest := []) C (tX1_labelSet l D k q_now_grid q_now_grid_marks c_now_grid_size c_now_grid_full c_now_grid_turns c_now_grid_firstFull c_now_grid_lastFull c_now_grid_marks n4 v6 h6) cv_X7_192 ⟨⟨by decide, by decide⟩, rfl, rfl⟩ 2 rfl rfl [2, 3] rfl rfl rfl rfl (Nat.le_of_ble_eq_true rfl) ⟨Nat.zero_le _, Nat.zero_le _⟩ dX7_with_59 (fun hb6 => ?_)
          refine ww_iload_n (pc := 62) C dX7_with_62 rfl 1 rfl ?_
          refine ww_icmp_ne (pc := 63) (tgt := 81) C dX7_with_63 (by decide) (fun hc => ?_) (fun hc => ?_)
          · have hf := ifF hc hf
            obtain ⟨v7, h7, hf⟩ := bsome hf
            refine ww_iincN (pc := 81) (lv' := [(4, .int v7), (0, .ref q_this), (1, .int n1), (2, .int n2), (3, .int n3)]) (j := 4) C dX7_with_81 kI_1 rfl h7 (by decide) rfl ?_
            refine ww_goto (pc := 84) (tgt := 20) C dX7_with_84 (by decide) ?_
            exact ww_lv [1, 2, 3, 4, 0] rfl (ih20 c_row_length c_row_numbers n1 n2 n3 v7 hf)
          · have hf := ifT hc hf
            obtain ⟨v8, h8, hf⟩ := bsome hf
            refine ww_iincN (pc := 66) (lv' := [(2, .int v8), (0, .ref q_this), (1, .int n1), (3, .int n3), (4, .int n4)]) (j := 2) C dX7_with_66 kI_1 rfl h8 (by decide) rfl ?_
            refine ww_iload_n (pc := 69) C dX7_with_69 rfl 3 rfl ?_
            refine ww_iconst (pc := 70) C dX7_with_70 kI_m1 ?_
            refine ww_icmp_ne (pc := 71) (tgt := 79) C dX7_with_71 (by decide) (fun hc => ?_) (fun hc => ?_)
            · have hf := ifF hc hf
              refine ww_iload_n (pc := 79) C dX7_with_79 rfl 3 rfl ?_
              exact ww_lv [1, 2, 0, 4] rfl (hJ80 c_row_length c_row_numbers n1 v8 n4 n3 hf)
            · have hf := ifT hc hf
              refine ww_iload (pc := 74) C dX7_with_74 4 rfl ?_
              refine ww_goto (pc := 76) (tgt := 80) C dX7_with_76 (by decide) ?_
              exact ww_lv [1, 2, 0, 4] rfl (hJ80 c_row_length c_row_numbers n1 v8 n4 n4 hf)
  unfold fX7_with at hf
  refine ww_iload_n (pc := 0) C dX7_with_0 rfl 1 rfl ?_
  refine ww_iconst (pc := 1) C dX7_with_1 kI_1 ?_
  refine ww_icmp_lt (pc := 2) (tgt := 11) C dX7_with_2 (by decide) (fun hc => ?_) (fun hc => ?_)
  · have hf := ifT hc hf
    refine ww_iconst (pc := 11) C dX7_with_11 kI_m1 ?_
    obtain ⟨e0, e1, e2⟩ := ij3 hf
    exact hret _ _ 12 _ dX7_with_12 rfl e0 (by rw [← e1, ← e2])
  · have hf := ifF hc hf
    refine ww_iload_n (pc := 5) C dX7_with_5 rfl 1 rfl ?_
    refine ww_bipush (pc := 6) C dX7_with_6 kB_7 ?_
    refine ww_icmp_le (pc := 8) (tgt := 13) C dX7_with_8 (by decide) (fun hc => ?_) (fun hc => ?_)
    · have hf := ifT hc hf
      refine ww_iconst (pc := 13) C dX7_with_13 kI_0 ?_
      refine ww_istore_n (pc := 14) (lv' := [(2, .int (0 : Int32)), (0, .ref q_this), (1, .int x1)]) C dX7_with_14 rfl (by decide) rfl ?_
      refine ww_iconst (pc := 15) C dX7_with_15 kI_m1 ?_
      refine ww_istore_n (pc := 16) (lv' := [(3, .int (-1 : Int32)), (2, .int (0 : Int32)), (0, .ref q_this), (1, .int x1)]) C dX7_with_16 rfl (by decide) rfl ?_
      refine ww_iconst (pc := 17) C dX7_with_17 kI_0 ?_
      refine ww_istore (pc := 18) (lv' := [(4, .int (0 : Int32)), (3, .int (-1 : Int32)), (2, .int (0 : Int32)), (0, .ref q_this), (1, .int x1)]) C dX7_with_18 (by decide) rfl ?_
      exact ww_lv [3, 4, 2, 1, 0] rfl (hL20 FU c_row_length c_row_numbers x1 (0 : Int32) (-1 : Int32) (0 : Int32) hf)
    · have hf := ifF hc hf
      refine ww_iconst (pc := 11) C dX7_with_11 kI_m1 ?_
      obtain ⟨e0, e1, e2⟩ := ij3 hf
      exact hret _ _ 12 _ dX7_with_12 rfl e0 (by rw [← e1, ← e2])
def fX7_many_b82 (c_now_grid_size : Int32) (c_now_grid_marks : Nat → Int32) (rc25 : Int32 → (Nat → Int64) → Int32 → Int32 → Int32 → Int32 → Option (Int32 × Int32 × (Nat → Int64))) (rc37 : Int32 → (Nat → Int64) → Int32 → Int32 → Int32 → Int32 → Int32 → Option (Int32 × Int32 × (Nat → Int64))) (c_row_length : Int32) (c_row_numbers : Nat → Int64) (n1 : Int32) (n3 : Int32) (n5 : Int32) (n6 : Int32) (s0 : Int32) (s1 : Int32) : Option (Int32 × Int32 × (Nat → Int64)) := (some (s0 + s1)).bind fun v1 => (some (n6 + (1 : Int32))).bind fun v2 => rc37 c_row_length c_row_numbers n1 n3 v1 n5 v2
def fX7_many_b37 (c_now_grid_size : Int32) (c_now_grid_marks : Nat → Int32) (rc25 : Int32 → (Nat → Int64) → Int32 → Int32 → Int32 → Int32 → Option (Int32 × Int32 × (Nat → Int64))) (rc37 : Int32 → (Nat → Int64) → Int32 → Int32 → Int32 → Int32 → Int32 → Option (Int32 × Int32 × (Nat → Int64))) (c_row_length : Int32) (c_row_numbers : Nat → Int64) (n1 : Int32) (n3 : Int32) (n4 : Int32) (n5 : Int32) (n6 : Int32) : Option (Int32 × Int32 × (Nat → Int64)) := if (c_now_grid_size - n5) < n6 then (some (n5 + (1 : Int32))).bind fun v1 => rc25 c_row_length c_row_numbers n1 n3 n4 v1 else (fX1_labelAt c_now_grid_size c_now_grid_marks n5 n6).bind fun v2 => if v2 = n1 then (some (n3 + (1 : Int32))).bind fun v4 => (fX1_onRim c_now_grid_size n5 n6).bind fun v5 => if v5 = 0 then fX7_many_b82 c_now_grid_size c_now_grid_marks rc25 rc37 c_row_length c_row_numbers n1 v4 n5 n6 n4 (0 : Int32) else fX7_many_b82 c_now_grid_size c_now_grid_marks rc25 rc37 c_row_length c_row_numbers n1 v4 n5 n6 n4 (1 : Int32) else (some (n6 + (1 : Int32))).bind fun v3 => rc37 c_row_length c_row_numbers n1 n3 n4 n5 v3
def fX7_many_b25 (c_now_grid_size : Int32) (c_now_grid_marks : Nat → Int32) (rc25 : Int32 → (Nat → Int64) → Int32 → Int32 → Int32 → Int32 → Option (Int32 × Int32 × (Nat → Int64))) (c_row_length : Int32) (c_row_numbers : Nat → Int64) (n1 : Int32) (n3 : Int32) (n4 : Int32) (n5 : Int32) : Option (Int32 × Int32 × (Nat → Int64)) := if c_now_grid_size < n5 then bd2 (fX3_tell c_row_length c_row_numbers ((n4).toInt64)) fun v1 v2 => some (n3, v1, v2) else lfix (fX7_many_b37 c_now_grid_size c_now_grid_marks rc25) (fun _ _ _ _ _ _ _ => none) FU c_row_length c_row_numbers n1 n3 n4 n5 (0 : Int32)
def fX7_many (c_now_grid_size : Int32) (c_now_grid_marks : Nat → Int32) (c_row_length : Int32) (c_row_numbers : Nat → Int64) (x1 : Int32) : Option (Int32 × Int32 × (Nat → Int64)) := (fX7_isGood x1).bind fun v1 => if v1 = 0 then some ((-1 : Int32), c_row_length, c_row_numbers) else lfix (fX7_many_b25 c_now_grid_size c_now_grid_marks) (fun _ _ _ _ _ _ => none) FU c_row_length c_row_numbers x1 (0 : Int32) (0 : Int32) (0 : Int32)
set_option maxHeartbeats 4000000 in
set_option maxRecDepth 100000 in
theorem tX7_many (l : Launch) (D : va_G) (k : Nat → ClassId) (q_this q_text q_row q_now q_trial q_doors q_history q_kept q_now_grid q_now_rule q_now_grid_marks q_row_numbers : Nat) (c_now_grid_size : Int32) (c_now_grid_full : Int32) (c_now_grid_turns : Int32) (c_now_grid_firstFull : Int32) (c_now_grid_lastFull : Int32) (c_now_grid_marks : Nat → Int32) (c_row_length : Int32) (c_row_numbers : Nat → Int64) (x1 : Int32) (r_ : Int32) (w_row_length : Int32) (w_row_numbers : Nat → Int64) (hf : fX7_many c_now_grid_size c_now_grid_marks c_row_length c_row_numbers x1 = some (r_, w_row_length, w_row_numbers)) : MI l yX7_many cX7_many 7 .int (RM 2 44) D k [.ref q_this, .int x1] [oX7 q_this q_text q_row q_now q_trial q_doors q_history q_kept, oX5 q_now q_now_grid q_now_rule, oX1 q_now_grid q_now_grid_marks c_now_grid_size c_now_grid_full c_now_grid_turns c_now_grid_firstFull c_now_grid_lastFull, aI k q_now_grid_marks 153 c_now_grid_marks, oX3 q_row q_row_numbers c_row_length, aJ k q_row_numbers 16 c_row_numbers] r_ [oX7 q_this q_text q_row q_now q_trial q_doors q_history q_kept, oX5 q_now q_now_grid q_now_rule, oX1 q_now_grid q_now_grid_marks c_now_grid_size c_now_grid_full c_now_grid_turns c_now_grid_firstFull c_now_grid_lastFull, aI k q_now_grid_marks 153 c_now_grid_marks, oX3 q_row q_row_numbers w_row_length, aJ k q_row_numbers 16 w_row_numbers] := by
  refine mkMI' (own := "DoorWalk") (by decide) rfl (Nat.le_of_ble_eq_true rfl) ?_
  intro p e s m args below meth c Q A hret C
  refine ww_lv (lv' := [(0, .ref q_this), (1, .int x1)]) [0, 1] rfl ?_
  have hL25 : ∀ (n : Nat) (c_row_length : Int32) (c_row_numbers : Nat → Int64) (n1 : Int32) (n3 : Int32) (n4 : Int32) (n5 : Int32), lfix (fX7_many_b25 c_now_grid_size c_now_grid_marks) (fun _ _ _ _ _ _ => none) n c_row_length c_row_numbers n1 n3 n4 n5 = some (r_, w_row_length, w_row_numbers) → WW p l e (RM 2 44) s m args below meth c Q 7 D A 0 0 [oX7 q_this q_text q_row q_now q_trial q_doors q_history q_kept, oX5 q_now q_now_grid q_now_rule, oX1 q_now_grid q_now_grid_marks c_now_grid_size c_now_grid_full c_now_grid_turns c_now_grid_firstFull c_now_grid_lastFull, aI k q_now_grid_marks 153 c_now_grid_marks, oX3 q_row q_row_numbers c_row_length, aJ k q_row_numbers 16 c_row_numbers] [(0, .ref q_this), (1, .int n1), (2, .ref q_now_grid), (3, .int n3), (4, .int n4), (5, .int n5)] 25 [] := by
    intro n
    induction n with
    | zero => intro c_row_length c_row_numbers n1 n3 n4 n5 hf; cases hf
    | succ n ih25 =>
      obtain ⟨rc25, hrc25⟩ : ∃ f9, f9 = lfix (fX7_many_b25 c_now_grid_size c_now_grid_marks) (fun _ _ _ _ _ _ => none) n := ⟨_, rfl⟩
      rw [← hrc25] at ih25
      have hL37 : ∀ (n : Nat) (c_row_length : Int32) (c_row_numbers : Nat → Int64) (n1 : Int32) (n3 : Int32) (n4 : Int32) (n5 : Int32) (n6 : Int32), lfix (fX7_many_b37 c_now_grid_size c_now_grid_marks rc25) (fun _ _ _ _ _ _ _ => none) n c_row_length c_row_numbers n1 n3 n4 n5 n6 = some (r_, w_row_length, w_row_numbers) → WW p l e (RM 2 44) s m args below meth c Q 7 D A 0 0 [oX7 q_this q_text q_row q_now q_trial q_doors q_history q_kept, oX5 q_now q_now_grid q_now_rule, oX1 q_now_grid q_now_grid_marks c_now_grid_size c_now_grid_full c_now_grid_turns c_now_grid_firstFull c_now_grid_lastFull, aI k q_now_grid_marks 153 c_now_grid_marks, oX3 q_row q_row_numbers c_row_length, aJ k q_row_numbers 16 c_row_numbers] [(0, .ref q_this), (1, .int n1), (2, .ref q_now_grid), (3, .int n3), (4, .int n4), (5, .int n5), (6, .int n6)] 37 [] := by
        intro n
        induction n with
        | zero => intro c_row_length c_row_numbers n1 n3 n4 n5 n6 hf; cases hf
        | succ n ih37 =>
          obtain ⟨rc37, hrc37⟩ : ∃ f9, f9 = lfix (fX7_many_b37 c_now_grid_size c_now_grid_marks rc25) (fun _ _ _ _ _ _ _ => none) n := ⟨_, rfl⟩
          rw [← hrc37] at ih37
          have hJ82 : ∀ (c_row_length : Int32) (c_row_numbers : Nat → Int64) (n1 : Int32) (n3 : Int32) (n5 : Int32) (n6 : Int32) (s0 : Int32) (s1 : Int32), fX7_many_b82 c_now_grid_size c_now_grid_marks rc25 rc37 c_row_length c_row_numbers n1 n3 n5 n6 s0 s1 = some (r_, w_row_length, w_row_numbers) → WW p l e (RM 2 44) s m args below meth c Q 7 D A 0 0 [oX7 q_this q_text q_row q_now q_trial q_doors q_history q_kept, oX5 q_now q_now_grid q_now_rule, oX1 q_now_grid q_now_grid_marks c_now_grid_size c_now_grid_full c_now_grid_turns c_now_grid_firstFull c_now_grid_lastFull, aI k q_now_grid_marks 153 c_now_grid_marks, oX3 q_row q_row_numbers c_row_length, aJ k q_row_numbers 16 c_row_numbers] [(0, .ref q_this), (1, .int n1), (2, .ref q_now_grid), (3, .int n3), (5, .int n5), (6, .int n6)] 82 [.int s1, .int s0] := by
            intro c_row_length c_row_numbers n1 n3 n5 n6 s0 s1
            intro hf
            unfold fX7_many_b82 at hf
            refine ww_iadd (pc := 82) C dX7_many_82  ?_
            obtain ⟨v1, h1, hf⟩ := bsome hf
            refine ww_nmi h1 ?_
            refine ww_istore (pc := 83) (lv' := [(4, .int v1), (0, .ref q_this), (1, .int n1), (2, .ref q_now_grid), (3, .int n3), (5, .int n5), (6, .int n6)]) C dX7_many_83 (by decide) rfl ?_
            obtain ⟨v2, h2, hf⟩ := bsome hf
            refine ww_iincN (pc := 85) (lv' := [(6, .int v2), (4, .int v1), (0, .ref q_this), (1, .int n1), (2, .ref q_now_grid), (3, .int n3), (5, .int n5)]) (j := 6) C dX7_many_85 kI_1 rfl h2 (by decide) rfl ?_
            refine ww_goto (pc := 88) (tgt := 37) C dX7_many_88 (by decide) ?_
            exact ww_lv [2, 3, 4, 5, 1, 6, 0] rfl (ih37 c_row_length c_row_numbers n1 n3 v1 n5 v2 hf)
          intro c_row_length c_row_numbers n1 n3 n4 n5 n6 hf
          have hf : fX7_many_b37 c_now_grid_size c_now_grid_marks rc25 rc37 c_row_length c_row_numbers n1 n3 n4 n5 n6 = some (r_, w_row_length, w_row_numbers) := by rw [hrc37]; exact hf
          unfold fX7_many_b37 at hf
          refine ww_iload (pc := 37) C dX7_many_37 6 rfl ?_
          refine ww_aload_n (pc := 39) C dX7_many_39 rfl 2 rfl ?_
          refine gf1_1 (pc := 40) C kf_X7_198 2 rfl rfl dX7_many_40 ?_
          refine ww_iload (pc := 43) C dX7_many_43 5 rfl ?_
          refine ww_isub (pc := 45) C dX7_many_45  ?_
          refine ww_icmp_gt (pc := 46) (tgt := 91) C dX7_many_46 (by decide) (fun hc => ?_) (fun hc => ?_)
          · have hf := ifT hc hf
            obtain ⟨v1, h1, hf⟩ := bsome hf
            refine ww_iincN (pc := 91) (lv' := [(5, .int v1), (0, .ref q_this), (1, .int n1), (2, .ref q_now_grid), (3, .int n3), (4, .int n4), (6, .int n6)]) (j := 5) C dX7_many_91 kI_1 rfl h1 (by decide) rfl ?_
            refine ww_goto (pc := 94) (tgt := 25) C dX7_many_94 (by decide) ?_
            exact ww_lv [1, 2, 3, 4, 5, 0] rfl (ih25 c_row_length c_row_numbers n1 n3 n4 v1 hf)
          · have hf := ifF hc hf
            refine ww_aload_n (pc := 49) C dX7_many_49 rfl 2 rfl ?_
            refine ww_iload (pc := 50) C dX7_many_50 5 rfl ?_
            refine ww_iload (pc := 52) C dX7_many_52 6 rfl ?_
            obtain ⟨v2, h2, hf⟩ := bsome hf
            refine ww_callVi0 (pc := 54) (As := [.int n5, .int n6]) (rest := []) C (tX1_labelAt l D k q_now_grid q_now_grid_marks c_now_grid_size c_now_grid_full c_now_grid_turns c_now_grid_firstFull c_now_grid_lastFull c_now_grid_marks n5 n6 v2 h2) cv_X7_143 ⟨⟨by decide, by decide⟩, rfl, rfl⟩ 2 rfl rfl [2, 3] rfl rfl rfl rfl (Nat.le_of_ble_eq_true rfl) ⟨Nat.zero_le _, Nat.zero_le _⟩ dX7_many_54 (fun hb2 => ?_)
            refine ww_iload_n (pc := 57) C dX7_many_57 rfl 1 rfl ?_
            refine ww_icmp_ne (pc := 58) (tgt := 85) C dX7_many_58 (by decide) (fun hc => ?_) (fun hc => ?_)
            · have hf := ifF hc hf
              obtain ⟨v3, h3, hf⟩ := bsome hf
              refine ww_iincN (pc := 85) (lv' := [(6, .int v3), (0, .ref q_this), (1, .int n1), (2, .ref q_now_grid), (3, .int n3), (4, .int n4), (5, .int n5)]) (j := 6) C dX7_many_85 kI_1 rfl h3 (by decide) rfl ?_
              refine ww_goto (pc := 88) (tgt := 37) C dX7_many_88 (by decide) ?_
              exact ww_lv [1, 2, 3, 4, 5, 6, 0] rfl (ih37 c_row_length c_row_numbers n1 n3 n4 n5 v3 hf)
            · have hf := ifT hc hf
              obtain ⟨v4, h4, hf⟩ := bsome hf
              refine ww_iincN (pc := 61) (lv' := [(3, .int v4), (0, .ref q_this), (1, .int n1), (2, .ref q_now_grid), (4, .int n4), (5, .int n5), (6, .int n6)]) (j := 3) C dX7_many_61 kI_1 rfl h4 (by decide) rfl ?_
              refine ww_iload (pc := 64) C dX7_many_64 4 rfl ?_
              refine ww_aload_n (pc := 66) C dX7_many_66 rfl 3 rfl ?_
              refine ww_iload (pc := 67) C dX7_many_67 5 rfl ?_
              refine ww_iload (pc := 69) C dX7_many_69 6 rfl ?_
              obtain ⟨v5, h5, hf⟩ := bsome hf
              refine ww_callVi0 (pc := 71) (As := [.int n5, .int n6]) (rest := [.int n4]) C (tX1_onRim l D k q_now_grid q_now_grid_marks c_now_grid_size c_now_grid_full c_now_grid_turns c_now_grid_firstFull c_now_grid_lastFull n5 n6 v5 h5) cv_X7_201 ⟨⟨by decide, by decide⟩, rfl, rfl⟩ 2 rfl rfl [2] rfl rfl rfl rfl (Nat.le_of_ble_eq_true rfl) ⟨Nat.zero_le _, Nat.zero_le _⟩ dX7_many_71 (fun hb5 => ?_)
              refine ww_if_eq (pc := 74) (tgt := 81) C dX7_many_74 (by decide) (fun hc => ?_) (fun hc => ?_)
              · have hf := ifT hc hf
                refine ww_iconst (pc := 81) C dX7_many_81 kI_0 ?_
                exact ww_lv [1, 2, 3, 0, 5, 6] rfl (hJ82 c_row_length c_row_numbers n1 v4 n5 n6 n4 (0 : Int32) hf)
              · have hf := ifF hc hf
                refine ww_iconst (pc := 77) C dX7_many_77 kI_1 ?_
                refine ww_goto (pc := 78) (tgt := 82) C dX7_many_78 (by decide) ?_
                exact ww_lv [1, 2, 3, 0, 5, 6] rfl (hJ82 c_row_length c_row_numbers n1 v4 n5 n6 n4 (1 : Int32) hf)
      intro c_row_length c_row_numbers n1 n3 n4 n5 hf
      have hf : fX7_many_b25 c_now_grid_size c_now_grid_marks rc25 c_row_length c_row_numbers n1 n3 n4 n5 = some (r_, w_row_length, w_row_numbers) := by rw [hrc25]; exact hf
      unfold fX7_many_b25 at hf
      refine ww_iload (pc := 25) C dX7_many_25 5 rfl ?_
      refine ww_aload_n (pc := 27) C dX7_many_27 rfl 2 rfl ?_
      refine gf1_1 (pc := 28) C kf_X7_198 2 rfl rfl dX7_many_28 ?_
      refine ww_icmp_gt (pc := 31) (tgt := 97) C dX7_many_31 (by decide) (fun hc => ?_) (fun hc => ?_)
      · have hf := ifT hc hf
        refine ww_aload_n (pc := 97) C dX7_many_97 rfl 0 rfl ?_
        refine gf7_1 (pc := 98) C kf_X7_19 0 rfl rfl dX7_many_98 ?_
        refine ww_iload (pc := 101) C dX7_many_101 4 rfl ?_
        refine ww_i2l (pc := 103) C dX7_many_103  ?_
        obtain ⟨v1, v2, h1, hf⟩ := bd2_some hf
        refine ww_callVv (pc := 104) (ws' := [oX7 q_this q_text q_row q_now q_trial q_doors q_history q_kept, oX5 q_now q_now_grid q_now_rule, oX1 q_now_grid q_now_grid_marks c_now_grid_size c_now_grid_full c_now_grid_turns c_now_grid_firstFull c_now_grid_lastFull, aI k q_now_grid_marks 153 c_now_grid_marks, oX3 q_row q_row_numbers v1, aJ k q_row_numbers 16 v2]) (As := [.long ((n4).toInt64)]) (rest := []) C (tX3_tell l D k q_row q_row_numbers c_row_length c_row_numbers ((n4).toInt64) v1 v2 h1) cv_X7_186 ⟨⟨by decide, by decide⟩, rfl, rfl⟩ 4 rfl rfl [4, 5] rfl rfl rfl rfl rfl rfl (Nat.le_of_ble_eq_true rfl) ⟨Nat.zero_le _, Nat.zero_le _⟩ dX7_many_104 ?_
        refine ww_iload_n (pc := 107) C dX7_many_107 rfl 3 rfl ?_
        obtain ⟨e0, e1, e2⟩ := ij3 hf
        exact hret _ _ 108 _ dX7_many_108 rfl e0 (by rw [← e1, ← e2])
      · have hf := ifF hc hf
        refine ww_iconst (pc := 34) C dX7_many_34 kI_0 ?_
        refine ww_istore (pc := 35) (lv' := [(6, .int (0 : Int32)), (0, .ref q_this), (1, .int n1), (2, .ref q_now_grid), (3, .int n3), (4, .int n4), (5, .int n5)]) C dX7_many_35 (by decide) rfl ?_
        exact ww_lv [1, 2, 3, 4, 5, 6, 0] rfl (hL37 FU c_row_length c_row_numbers n1 n3 n4 n5 (0 : Int32) hf)
  unfold fX7_many at hf
  refine ww_iload_n (pc := 0) C dX7_many_0 rfl 1 rfl ?_
  obtain ⟨v1, h1, hf⟩ := bsome hf
  refine ww_callSi0 (pc := 1) (As := [.int x1]) (rest := []) C (tX7_isGood l D k x1 v1 h1) cs_X7_195 ⟨⟨by decide, by decide⟩, rfl, rfl⟩ [] rfl rfl rfl rfl (Nat.le_of_ble_eq_true rfl) ⟨Nat.zero_le _, Nat.zero_le _⟩ dX7_many_1 (fun hb1 => ?_)
  refine ww_if_ne (pc := 4) (tgt := 9) C dX7_many_4 (by decide) (fun hc => ?_) (fun hc => ?_)
  · have hf := ifF hc hf
    refine ww_aload_n (pc := 9) C dX7_many_9 rfl 0 rfl ?_
    refine gf7_2 (pc := 10) C kf_X7_26 0 rfl rfl dX7_many_10 ?_
    refine gf5_0 (pc := 13) C kf_X7_74 1 rfl rfl dX7_many_13 ?_
    refine ww_astore_n (pc := 16) (lv' := [(2, .ref q_now_grid), (0, .ref q_this), (1, .int x1)]) C dX7_many_16 rfl (by decide) rfl ?_
    refine ww_iconst (pc := 17) C dX7_many_17 kI_0 ?_
    refine ww_istore_n (pc := 18) (lv' := [(3, .int (0 : Int32)), (2, .ref q_now_grid), (0, .ref q_this), (1, .int x1)]) C dX7_many_18 rfl (by decide) rfl ?_
    refine ww_iconst (pc := 19) C dX7_many_19 kI_0 ?_
    refine ww_istore (pc := 20) (lv' := [(4, .int (0 : Int32)), (3, .int (0 : Int32)), (2, .ref q_now_grid), (0, .ref q_this), (1, .int x1)]) C dX7_many_20 (by decide) rfl ?_
    refine ww_iconst (pc := 22) C dX7_many_22 kI_0 ?_
    refine ww_istore (pc := 23) (lv' := [(5, .int (0 : Int32)), (4, .int (0 : Int32)), (3, .int (0 : Int32)), (2, .ref q_now_grid), (0, .ref q_this), (1, .int x1)]) C dX7_many_23 (by decide) rfl ?_
    exact ww_lv [4, 5, 3, 2, 1, 0] rfl (hL25 FU c_row_length c_row_numbers x1 (0 : Int32) (0 : Int32) (0 : Int32) hf)
  · have hf := ifT hc hf
    refine ww_iconst (pc := 7) C dX7_many_7 kI_m1 ?_
    obtain ⟨e0, e1, e2⟩ := ij3 hf
    exact hret _ _ 8 _ dX7_many_8 rfl e0 (by rw [← e1, ← e2])
def fX7_outer_b20 (c_now_grid_size : Int32) (c_now_grid_marks : Nat → Int32) (rc20 : Int32 → (Nat → Int64) → Int32 → Int32 → Int32 → Option (Int32 × Int32 × (Nat → Int64))) (c_row_length : Int32) (c_row_numbers : Nat → Int64) (n1 : Int32) (n2 : Int32) (n3 : Int32) : Option (Int32 × Int32 × (Nat → Int64)) := if c_now_grid_size ≤ n3 then some (n2, c_row_length, c_row_numbers) else (fX0_isOuter c_now_grid_size c_now_grid_marks n1 n3).bind fun v1 => if v1 = 0 then (some (n3 + (1 : Int32))).bind fun v2 => rc20 c_row_length c_row_numbers n1 n2 v2 else (fX1_sideCell c_now_grid_size n1 n3).bind fun v3 => bd2 (fX3_add c_row_length c_row_numbers ((v3).toInt64)) fun v4 v5 => (some (n2 + (1 : Int32))).bind fun v6 => (some (n3 + (1 : Int32))).bind fun v7 => rc20 v4 v5 n1 v6 v7
def fX7_outer (c_now_grid_size : Int32) (c_now_grid_marks : Nat → Int32) (c_row_length : Int32) (c_row_numbers : Nat → Int64) (x1 : Int32) : Option (Int32 × Int32 × (Nat → Int64)) := (fX7_isGood x1).bind fun v1 => if v1 = 0 then some ((-1 : Int32), c_row_length, c_row_numbers) else (fX3_clear c_row_length).bind fun v2 => lfix (fX7_outer_b20 c_now_grid_size c_now_grid_marks) (fun _ _ _ _ _ => none) FU v2 c_row_numbers x1 (0 : Int32) (0 : Int32)
set_option maxHeartbeats 4000000 in
set_option maxRecDepth 100000 in
theorem tX7_outer (l : Launch) (D : va_G) (k : Nat → ClassId) (q_this q_text q_row q_now q_trial q_doors q_history q_kept q_doors_way q_doors_seen q_now_grid q_now_rule q_now_grid_marks q_row_numbers : Nat) (c_doors_length : Int32) (c_doors_cameOut : Int32) (c_doors_longest : Int32) (c_now_grid_size : Int32) (c_now_grid_full : Int32) (c_now_grid_turns : Int32) (c_now_grid_firstFull : Int32) (c_now_grid_lastFull : Int32) (c_now_grid_marks : Nat → Int32) (c_row_length : Int32) (c_row_numbers : Nat → Int64) (x1 : Int32) (r_ : Int32) (w_row_length : Int32) (w_row_numbers : Nat → Int64) (hf : fX7_outer c_now_grid_size c_now_grid_marks c_row_length c_row_numbers x1 = some (r_, w_row_length, w_row_numbers)) : MI l yX7_outer cX7_outer 4 .int (RM 4 97) D k [.ref q_this, .int x1] [oX7 q_this q_text q_row q_now q_trial q_doors q_history q_kept, oX0 q_doors q_doors_way q_doors_seen c_doors_length c_doors_cameOut c_doors_longest, oX5 q_now q_now_grid q_now_rule, oX1 q_now_grid q_now_grid_marks c_now_grid_size c_now_grid_full c_now_grid_turns c_now_grid_firstFull c_now_grid_lastFull, aI k q_now_grid_marks 153 c_now_grid_marks, oX3 q_row q_row_numbers c_row_length, aJ k q_row_numbers 16 c_row_numbers] r_ [oX7 q_this q_text q_row q_now q_trial q_doors q_history q_kept, oX0 q_doors q_doors_way q_doors_seen c_doors_length c_doors_cameOut c_doors_longest, oX5 q_now q_now_grid q_now_rule, oX1 q_now_grid q_now_grid_marks c_now_grid_size c_now_grid_full c_now_grid_turns c_now_grid_firstFull c_now_grid_lastFull, aI k q_now_grid_marks 153 c_now_grid_marks, oX3 q_row q_row_numbers w_row_length, aJ k q_row_numbers 16 w_row_numbers] := by
  refine mkMI' (own := "DoorWalk") (by decide) rfl (Nat.le_of_ble_eq_true rfl) ?_
  intro p e s m args below meth c Q A hret C
  refine ww_lv (lv' := [(0, .ref q_this), (1, .int x1)]) [0, 1] rfl ?_
  have hL20 : ∀ (n : Nat) (c_row_length : Int32) (c_row_numbers : Nat → Int64) (n1 : Int32) (n2 : Int32) (n3 : Int32), lfix (fX7_outer_b20 c_now_grid_size c_now_grid_marks) (fun _ _ _ _ _ => none) n c_row_length c_row_numbers n1 n2 n3 = some (r_, w_row_length, w_row_numbers) → WW p l e (RM 4 97) s m args below meth c Q 4 D A 0 0 [oX7 q_this q_text q_row q_now q_trial q_doors q_history q_kept, oX0 q_doors q_doors_way q_doors_seen c_doors_length c_doors_cameOut c_doors_longest, oX5 q_now q_now_grid q_now_rule, oX1 q_now_grid q_now_grid_marks c_now_grid_size c_now_grid_full c_now_grid_turns c_now_grid_firstFull c_now_grid_lastFull, aI k q_now_grid_marks 153 c_now_grid_marks, oX3 q_row q_row_numbers c_row_length, aJ k q_row_numbers 16 c_row_numbers] [(0, .ref q_this), (1, .int n1), (2, .int n2), (3, .int n3)] 20 [] := by
    intro n
    induction n with
    | zero => intro c_row_length c_row_numbers n1 n2 n3 hf; cases hf
    | succ n ih20 =>
      obtain ⟨rc20, hrc20⟩ : ∃ f9, f9 = lfix (fX7_outer_b20 c_now_grid_size c_now_grid_marks) (fun _ _ _ _ _ => none) n := ⟨_, rfl⟩
      rw [← hrc20] at ih20
      intro c_row_length c_row_numbers n1 n2 n3 hf
      have hf : fX7_outer_b20 c_now_grid_size c_now_grid_marks rc20 c_row_length c_row_numbers n1 n2 n3 = some (r_, w_row_length, w_row_numbers) := by rw [hrc20]; exact hf
      unfold fX7_outer_b20 at hf
      refine ww_iload_n (pc := 20) C dX7_outer_20 rfl 3 rfl ?_
      refine ww_aload_n (pc := 21) C dX7_outer_21 rfl 0 rfl ?_
      refine gf7_2 (pc := 22) C kf_X7_26 0 rfl rfl dX7_outer_22 ?_
      refine gf5_0 (pc := 25) C kf_X7_74 2 rfl rfl dX7_outer_25 ?_
      refine gf1_1 (pc := 28) C kf_X7_198 3 rfl rfl dX7_outer_28 ?_
      refine ww_icmp_ge (pc := 31) (tgt := 82) C dX7_outer_31 (by decide) (fun hc => ?_) (fun hc => ?_)
      · have hf := ifT hc hf
        refine ww_iload_n (pc := 82) C dX7_outer_82 rfl 2 rfl ?_
        obtain ⟨e0, e1, e2⟩ := ij3 hf
        exact hret _ _ 83 _ dX7_outer_83 rfl e0 (by rw [← e1, ← e2])
      · have hf := ifF hc hf
        refine ww_aload_n (pc := 34) C dX7_outer_34 rfl 0 rfl ?_
        refine gf7_4 (pc := 35) C kf_X7_40 0 rfl rfl dX7_outer_35 ?_
        refine ww_aload_n (pc := 38) C dX7_outer_38 rfl 0 rfl ?_
        refine gf7_2 (pc := 39) C kf_X7_26 0 rfl rfl dX7_outer_39 ?_
        refine gf5_0 (pc := 42) C kf_X7_74 2 rfl rfl dX7_outer_42 ?_
        refine ww_iload_n (pc := 45) C dX7_outer_45 rfl 1 rfl ?_
        refine ww_iload_n (pc := 46) C dX7_outer_46 rfl 3 rfl ?_
        obtain ⟨v1, h1, hf⟩ := bsome hf
        refine ww_callVi0 (pc := 47) (As := [.ref q_now_grid, .int n1, .int n3]) (rest := []) C (tX0_isOuter l D k q_doors q_doors_way q_doors_seen q_now_grid q_now_grid_marks c_doors_length c_doors_cameOut c_doors_longest c_now_grid_size c_now_grid_full c_now_grid_turns c_now_grid_firstFull c_now_grid_lastFull c_now_grid_marks n1 n3 v1 h1) cv_X7_207 ⟨⟨by decide, by decide⟩, rfl, rfl⟩ 1 rfl rfl [1, 3, 4] rfl rfl rfl rfl (Nat.le_of_ble_eq_true rfl) ⟨Nat.zero_le _, Nat.zero_le _⟩ dX7_outer_47 (fun hb1 => ?_)
        refine ww_if_eq (pc := 50) (tgt := 76) C dX7_outer_50 (by decide) (fun hc => ?_) (fun hc => ?_)
        · have hf := ifT hc hf
          obtain ⟨v2, h2, hf⟩ := bsome hf
          refine ww_iincN (pc := 76) (lv' := [(3, .int v2), (0, .ref q_this), (1, .int n1), (2, .int n2)]) (j := 3) C dX7_outer_76 kI_1 rfl h2 (by decide) rfl ?_
          refine ww_goto (pc := 79) (tgt := 20) C dX7_outer_79 (by decide) ?_
          exact ww_lv [1, 2, 3, 0] rfl (ih20 c_row_length c_row_numbers n1 n2 v2 hf)
        · have hf := ifF hc hf
          refine ww_aload_n (pc := 53) C dX7_outer_53 rfl 0 rfl ?_
          refine gf7_1 (pc := 54) C kf_X7_19 0 rfl rfl dX7_outer_54 ?_
          refine ww_aload_n (pc := 57) C dX7_outer_57 rfl 0 rfl ?_
          refine gf7_2 (pc := 58) C kf_X7_26 0 rfl rfl dX7_outer_58 ?_
          refine gf5_0 (pc := 61) C kf_X7_74 2 rfl rfl dX7_outer_61 ?_
          refine ww_iload_n (pc := 64) C dX7_outer_64 rfl 1 rfl ?_
          refine ww_iload_n (pc := 65) C dX7_outer_65 rfl 3 rfl ?_
          obtain ⟨v3, h3, hf⟩ := bsome hf
          refine ww_callVi0 (pc := 66) (As := [.int n1, .int n3]) (rest := [.ref q_row]) C (tX1_sideCell l D k q_now_grid q_now_grid_marks c_now_grid_size c_now_grid_full c_now_grid_turns c_now_grid_firstFull c_now_grid_lastFull n1 n3 v3 h3) cv_X7_211 ⟨⟨by decide, by decide⟩, rfl, rfl⟩ 3 rfl rfl [3] rfl rfl rfl rfl (Nat.le_of_ble_eq_true rfl) ⟨Nat.zero_le _, Nat.zero_le _⟩ dX7_outer_66 (fun hb3 => ?_)
          refine ww_i2l (pc := 69) C dX7_outer_69  ?_
          obtain ⟨v4, v5, h4, hf⟩ := bd2_some hf
          refine ww_callVv (pc := 70) (ws' := [oX7 q_this q_text q_row q_now q_trial q_doors q_history q_kept, oX0 q_doors q_doors_way q_doors_seen c_doors_length c_doors_cameOut c_doors_longest, oX5 q_now q_now_grid q_now_rule, oX1 q_now_grid q_now_grid_marks c_now_grid_size c_now_grid_full c_now_grid_turns c_now_grid_firstFull c_now_grid_lastFull, aI k q_now_grid_marks 153 c_now_grid_marks, oX3 q_row q_row_numbers v4, aJ k q_row_numbers 16 v5]) (As := [.long ((v3).toInt64)]) (rest := []) C (tX3_add l D k q_row q_row_numbers c_row_length c_row_numbers ((v3).toInt64) v4 v5 h4) cv_X7_214 ⟨⟨by decide, by decide⟩, rfl, rfl⟩ 5 rfl rfl [5, 6] rfl rfl rfl rfl rfl rfl (Nat.le_of_ble_eq_true rfl) ⟨Nat.zero_le _, Nat.zero_le _⟩ dX7_outer_70 ?_
          obtain ⟨v6, h6, hf⟩ := bsome hf
          refine ww_iincN (pc := 73) (lv' := [(2, .int v6), (0, .ref q_this), (1, .int n1), (3, .int n3)]) (j := 2) C dX7_outer_73 kI_1 rfl h6 (by decide) rfl ?_
          obtain ⟨v7, h7, hf⟩ := bsome hf
          refine ww_iincN (pc := 76) (lv' := [(3, .int v7), (2, .int v6), (0, .ref q_this), (1, .int n1)]) (j := 3) C dX7_outer_76 kI_1 rfl h7 (by decide) rfl ?_
          refine ww_goto (pc := 79) (tgt := 20) C dX7_outer_79 (by decide) ?_
          exact ww_lv [2, 3, 1, 0] rfl (ih20 v4 v5 n1 v6 v7 hf)
  unfold fX7_outer at hf
  refine ww_iload_n (pc := 0) C dX7_outer_0 rfl 1 rfl ?_
  obtain ⟨v1, h1, hf⟩ := bsome hf
  refine ww_callSi0 (pc := 1) (As := [.int x1]) (rest := []) C (tX7_isGood l D k x1 v1 h1) cs_X7_195 ⟨⟨by decide, by decide⟩, rfl, rfl⟩ [] rfl rfl rfl rfl (Nat.le_of_ble_eq_true rfl) ⟨Nat.zero_le _, Nat.zero_le _⟩ dX7_outer_1 (fun hb1 => ?_)
  refine ww_if_ne (pc := 4) (tgt := 9) C dX7_outer_4 (by decide) (fun hc => ?_) (fun hc => ?_)
  · have hf := ifF hc hf
    refine ww_iconst (pc := 9) C dX7_outer_9 kI_0 ?_
    refine ww_istore_n (pc := 10) (lv' := [(2, .int (0 : Int32)), (0, .ref q_this), (1, .int x1)]) C dX7_outer_10 rfl (by decide) rfl ?_
    refine ww_aload_n (pc := 11) C dX7_outer_11 rfl 1 rfl ?_
    refine gf7_1 (pc := 12) C kf_X7_19 0 rfl rfl dX7_outer_12 ?_
    obtain ⟨v2, h2, hf⟩ := bsome hf
    refine ww_callVv (pc := 15) (ws' := [oX7 q_this q_text q_row q_now q_trial q_doors q_history q_kept, oX0 q_doors q_doors_way q_doors_seen c_doors_length c_doors_cameOut c_doors_longest, oX5 q_now q_now_grid q_now_rule, oX1 q_now_grid q_now_grid_marks c_now_grid_size c_now_grid_full c_now_grid_turns c_now_grid_firstFull c_now_grid_lastFull, aI k q_now_grid_marks 153 c_now_grid_marks, oX3 q_row q_row_numbers v2, aJ k q_row_numbers 16 c_row_numbers]) (As := []) (rest := []) C (tX3_clear l D k q_row q_row_numbers c_row_length v2 h2) cv_X7_204 ⟨⟨by decide, by decide⟩, rfl, rfl⟩ 5 rfl rfl [5] rfl rfl rfl rfl rfl rfl (Nat.le_of_ble_eq_true rfl) ⟨Nat.zero_le _, Nat.zero_le _⟩ dX7_outer_15 ?_
    refine ww_iconst (pc := 18) C dX7_outer_18 kI_0 ?_
    refine ww_istore_n (pc := 19) (lv' := [(3, .int (0 : Int32)), (2, .int (0 : Int32)), (0, .ref q_this), (1, .int x1)]) C dX7_outer_19 rfl (by decide) rfl ?_
    exact ww_lv [2, 3, 1, 0] rfl (hL20 FU v2 c_row_numbers x1 (0 : Int32) (0 : Int32) hf)
  · have hf := ifT hc hf
    refine ww_iconst (pc := 7) C dX7_outer_7 kI_m1 ?_
    obtain ⟨e0, e1, e2⟩ := ij3 hf
    exact hret _ _ 8 _ dX7_outer_8 rfl e0 (by rw [← e1, ← e2])
def fX7_doors_b130 (c_now_grid_size : Int32) (c_now_grid_marks : Nat → Int32) (rc28 : Int32 → (Nat → Int64) → Int32 → Int32 → Int32 → Int32 → Int32 → Option (Int32 × Int32 × (Nat → Int64))) (c_row_length : Int32) (c_row_numbers : Nat → Int64) (n1 : Int32) (n3 : Int32) (n4 : Int32) (n6 : Int32) (s0 : Int32) (s1 : Int32) : Option (Int32 × Int32 × (Nat → Int64)) := (some (s0 + s1)).bind fun v1 => (some (n6 + (1 : Int32))).bind fun v2 => rc28 c_row_length c_row_numbers n1 n3 n4 v1 v2
def fX7_doors_b114 (c_now_grid_size : Int32) (c_now_grid_marks : Nat → Int32) (rc28 : Int32 → (Nat → Int64) → Int32 → Int32 → Int32 → Int32 → Int32 → Option (Int32 × Int32 × (Nat → Int64))) (c_row_length : Int32) (c_row_numbers : Nat → Int64) (n1 : Int32) (n3 : Int32) (n5 : Int32) (n6 : Int32) (n7 : Int32) (s0 : Int32) (s1 : Int32) : Option (Int32 × Int32 × (Nat → Int64)) := (some (s0 + s1)).bind fun v1 => if n7 = (2 : Int32) then fX7_doors_b130 c_now_grid_size c_now_grid_marks rc28 c_row_length c_row_numbers n1 n3 v1 n6 n5 (1 : Int32) else fX7_doors_b130 c_now_grid_size c_now_grid_marks rc28 c_row_length c_row_numbers n1 n3 v1 n6 n5 (0 : Int32)
def fX7_doors_b93 (c_now_grid_size : Int32) (c_now_grid_marks : Nat → Int32) (rc28 : Int32 → (Nat → Int64) → Int32 → Int32 → Int32 → Int32 → Int32 → Option (Int32 × Int32 × (Nat → Int64))) (rc55 : Int32 → (Nat → Int64) → Int32 → Int32 → Int32 → Int32 → Int32 → Int32 → Int32 → Option (Int32 × Int32 × (Nat → Int64))) (c_row_length : Int32) (c_row_numbers : Nat → Int64) (n1 : Int32) (n4 : Int32) (n5 : Int32) (n6 : Int32) (n7 : Int32) (n8 : Int32) (s0 : Int32) (s1 : Int32) : Option (Int32 × Int32 × (Nat → Int64)) := (some (s0 + s1)).bind fun v1 => (some (n8 + (1 : Int32))).bind fun v2 => rc55 c_row_length c_row_numbers n1 v1 n4 n5 n6 n7 v2
def fX7_doors_b55 (c_now_grid_size : Int32) (c_now_grid_marks : Nat → Int32) (rc28 : Int32 → (Nat → Int64) → Int32 → Int32 → Int32 → Int32 → Int32 → Option (Int32 × Int32 × (Nat → Int64))) (rc55 : Int32 → (Nat → Int64) → Int32 → Int32 → Int32 → Int32 → Int32 → Int32 → Int32 → Option (Int32 × Int32 × (Nat → Int64))) (c_row_length : Int32) (c_row_numbers : Nat → Int64) (n1 : Int32) (n3 : Int32) (n4 : Int32) (n5 : Int32) (n6 : Int32) (n7 : Int32) (n8 : Int32) : Option (Int32 × Int32 × (Nat → Int64)) := if (3 : Int32) ≤ n8 then if n7 = (1 : Int32) then fX7_doors_b114 c_now_grid_size c_now_grid_marks rc28 c_row_length c_row_numbers n1 n3 n5 n6 n7 n4 (1 : Int32) else fX7_doors_b114 c_now_grid_size c_now_grid_marks rc28 c_row_length c_row_numbers n1 n3 n5 n6 n7 n4 (0 : Int32) else (fX0_isDoor c_now_grid_size c_now_grid_marks n6 n8 n1).bind fun v1 => if v1 = 0 then (some (n8 + (1 : Int32))).bind fun v2 => rc55 c_row_length c_row_numbers n1 n3 n4 n5 n6 n7 v2 else (some (n7 + (1 : Int32))).bind fun v3 => if (n6 &&& (1 : Int32)) = 0 then fX7_doors_b93 c_now_grid_size c_now_grid_marks rc28 rc55 c_row_length c_row_numbers n1 n4 n5 n6 v3 n8 n3 (1 : Int32) else fX7_doors_b93 c_now_grid_size c_now_grid_marks rc28 rc55 c_row_length c_row_numbers n1 n4 n5 n6 v3 n8 n3 (0 : Int32)
def fX7_doors_b28 (c_now_grid_size : Int32) (c_now_grid_marks : Nat → Int32) (rc28 : Int32 → (Nat → Int64) → Int32 → Int32 → Int32 → Int32 → Int32 → Option (Int32 × Int32 × (Nat → Int64))) (c_row_length : Int32) (c_row_numbers : Nat → Int64) (n1 : Int32) (n3 : Int32) (n4 : Int32) (n5 : Int32) (n6 : Int32) : Option (Int32 × Int32 × (Nat → Int64)) := (fX1_numbers c_now_grid_size).bind fun v1 => if v1 ≤ n6 then bd2 (fX3_tell_ c_row_length c_row_numbers ((n4).toInt64) ((n5).toInt64)) fun v2 v3 => some (n3, v2, v3) else (fX1_isCell c_now_grid_size n6).bind fun v4 => if v4 = 0 then (some (n6 + (1 : Int32))).bind fun v5 => rc28 c_row_length c_row_numbers n1 n3 n4 n5 v5 else lfix (fX7_doors_b55 c_now_grid_size c_now_grid_marks rc28) (fun _ _ _ _ _ _ _ _ _ => none) FU c_row_length c_row_numbers n1 n3 n4 n5 n6 (0 : Int32) (0 : Int32)
def fX7_doors (c_now_grid_size : Int32) (c_now_grid_marks : Nat → Int32) (c_row_length : Int32) (c_row_numbers : Nat → Int64) (x1 : Int32) : Option (Int32 × Int32 × (Nat → Int64)) := (fX7_isGood x1).bind fun v1 => if v1 = 0 then some ((-1 : Int32), c_row_length, c_row_numbers) else lfix (fX7_doors_b28 c_now_grid_size c_now_grid_marks) (fun _ _ _ _ _ _ _ => none) FU c_row_length c_row_numbers x1 (0 : Int32) (0 : Int32) (0 : Int32) (0 : Int32)
set_option maxHeartbeats 4000000 in
set_option maxRecDepth 100000 in
theorem tX7_doors (l : Launch) (D : va_G) (k : Nat → ClassId) (q_this q_text q_row q_now q_trial q_doors q_history q_kept q_doors_way q_doors_seen q_now_grid q_now_rule q_now_grid_marks q_row_numbers : Nat) (c_doors_length : Int32) (c_doors_cameOut : Int32) (c_doors_longest : Int32) (c_now_grid_size : Int32) (c_now_grid_full : Int32) (c_now_grid_turns : Int32) (c_now_grid_firstFull : Int32) (c_now_grid_lastFull : Int32) (c_now_grid_marks : Nat → Int32) (c_row_length : Int32) (c_row_numbers : Nat → Int64) (x1 : Int32) (r_ : Int32) (w_row_length : Int32) (w_row_numbers : Nat → Int64) (hf : fX7_doors c_now_grid_size c_now_grid_marks c_row_length c_row_numbers x1 = some (r_, w_row_length, w_row_numbers)) : MI l yX7_doors cX7_doors 9 .int (RM 3 74) D k [.ref q_this, .int x1] [oX7 q_this q_text q_row q_now q_trial q_doors q_history q_kept, oX0 q_doors q_doors_way q_doors_seen c_doors_length c_doors_cameOut c_doors_longest, oX5 q_now q_now_grid q_now_rule, oX1 q_now_grid q_now_grid_marks c_now_grid_size c_now_grid_full c_now_grid_turns c_now_grid_firstFull c_now_grid_lastFull, aI k q_now_grid_marks 153 c_now_grid_marks, oX3 q_row q_row_numbers c_row_length, aJ k q_row_numbers 16 c_row_numbers] r_ [oX7 q_this q_text q_row q_now q_trial q_doors q_history q_kept, oX0 q_doors q_doors_way q_doors_seen c_doors_length c_doors_cameOut c_doors_longest, oX5 q_now q_now_grid q_now_rule, oX1 q_now_grid q_now_grid_marks c_now_grid_size c_now_grid_full c_now_grid_turns c_now_grid_firstFull c_now_grid_lastFull, aI k q_now_grid_marks 153 c_now_grid_marks, oX3 q_row q_row_numbers w_row_length, aJ k q_row_numbers 16 w_row_numbers] := by
  refine mkMI' (own := "DoorWalk") (by decide) rfl (Nat.le_of_ble_eq_true rfl) ?_
  intro p e s m args below meth c Q A hret C
  refine ww_lv (lv' := [(0, .ref q_this), (1, .int x1)]) [0, 1] rfl ?_
  have hL28 : ∀ (n : Nat) (c_row_length : Int32) (c_row_numbers : Nat → Int64) (n1 : Int32) (n3 : Int32) (n4 : Int32) (n5 : Int32) (n6 : Int32), lfix (fX7_doors_b28 c_now_grid_size c_now_grid_marks) (fun _ _ _ _ _ _ _ => none) n c_row_length c_row_numbers n1 n3 n4 n5 n6 = some (r_, w_row_length, w_row_numbers) → WW p l e (RM 3 74) s m args below meth c Q 9 D A 0 0 [oX7 q_this q_text q_row q_now q_trial q_doors q_history q_kept, oX0 q_doors q_doors_way q_doors_seen c_doors_length c_doors_cameOut c_doors_longest, oX5 q_now q_now_grid q_now_rule, oX1 q_now_grid q_now_grid_marks c_now_grid_size c_now_grid_full c_now_grid_turns c_now_grid_firstFull c_now_grid_lastFull, aI k q_now_grid_marks 153 c_now_grid_marks, oX3 q_row q_row_numbers c_row_length, aJ k q_row_numbers 16 c_row_numbers] [(0, .ref q_this), (1, .int n1), (2, .ref q_now_grid), (3, .int n3), (4, .int n4), (5, .int n5), (6, .int n6)] 28 [] := by
    intro n
    induction n with
    | zero => intro c_row_length c_row_numbers n1 n3 n4 n5 n6 hf; cases hf
    | succ n ih28 =>
      obtain ⟨rc28, hrc28⟩ : ∃ f9, f9 = lfix (fX7_doors_b28 c_now_grid_size c_now_grid_marks) (fun _ _ _ _ _ _ _ => none) n := ⟨_, rfl⟩
      rw [← hrc28] at ih28
      have hJ130 : ∀ (c_row_length : Int32) (c_row_numbers : Nat → Int64) (n1 : Int32) (n3 : Int32) (n4 : Int32) (n6 : Int32) (s0 : Int32) (s1 : Int32), fX7_doors_b130 c_now_grid_size c_now_grid_marks rc28 c_row_length c_row_numbers n1 n3 n4 n6 s0 s1 = some (r_, w_row_length, w_row_numbers) → WW p l e (RM 3 74) s m args below meth c Q 9 D A 0 0 [oX7 q_this q_text q_row q_now q_trial q_doors q_history q_kept, oX0 q_doors q_doors_way q_doors_seen c_doors_length c_doors_cameOut c_doors_longest, oX5 q_now q_now_grid q_now_rule, oX1 q_now_grid q_now_grid_marks c_now_grid_size c_now_grid_full c_now_grid_turns c_now_grid_firstFull c_now_grid_lastFull, aI k q_now_grid_marks 153 c_now_grid_marks, oX3 q_row q_row_numbers c_row_length, aJ k q_row_numbers 16 c_row_numbers] [(0, .ref q_this), (1, .int n1), (2, .ref q_now_grid), (3, .int n3), (4, .int n4), (6, .int n6)] 130 [.int s1, .int s0] := by
        intro c_row_length c_row_numbers n1 n3 n4 n6 s0 s1
        intro hf
        unfold fX7_doors_b130 at hf
        refine ww_iadd (pc := 130) C dX7_doors_130  ?_
        obtain ⟨v1, h1, hf⟩ := bsome hf
        refine ww_nmi h1 ?_
        refine ww_istore (pc := 131) (lv' := [(5, .int v1), (0, .ref q_this), (1, .int n1), (2, .ref q_now_grid), (3, .int n3), (4, .int n4), (6, .int n6)]) C dX7_doors_131 (by decide) rfl ?_
        obtain ⟨v2, h2, hf⟩ := bsome hf
        refine ww_iincN (pc := 133) (lv' := [(6, .int v2), (5, .int v1), (0, .ref q_this), (1, .int n1), (2, .ref q_now_grid), (3, .int n3), (4, .int n4)]) (j := 6) C dX7_doors_133 kI_1 rfl h2 (by decide) rfl ?_
        refine ww_goto (pc := 136) (tgt := 28) C dX7_doors_136 (by decide) ?_
        exact ww_lv [2, 3, 4, 5, 6, 1, 0] rfl (ih28 c_row_length c_row_numbers n1 n3 n4 v1 v2 hf)
      have hJ114 : ∀ (c_row_length : Int32) (c_row_numbers : Nat → Int64) (n1 : Int32) (n3 : Int32) (n5 : Int32) (n6 : Int32) (n7 : Int32) (s0 : Int32) (s1 : Int32), fX7_doors_b114 c_now_grid_size c_now_grid_marks rc28 c_row_length c_row_numbers n1 n3 n5 n6 n7 s0 s1 = some (r_, w_row_length, w_row_numbers) → WW p l e (RM 3 74) s m args below meth c Q 9 D A 0 0 [oX7 q_this q_text q_row q_now q_trial q_doors q_history q_kept, oX0 q_doors q_doors_way q_doors_seen c_doors_length c_doors_cameOut c_doors_longest, oX5 q_now q_now_grid q_now_rule, oX1 q_now_grid q_now_grid_marks c_now_grid_size c_now_grid_full c_now_grid_turns c_now_grid_firstFull c_now_grid_lastFull, aI k q_now_grid_marks 153 c_now_grid_marks, oX3 q_row q_row_numbers c_row_length, aJ k q_row_numbers 16 c_row_numbers] [(0, .ref q_this), (1, .int n1), (2, .ref q_now_grid), (3, .int n3), (5, .int n5), (6, .int n6), (7, .int n7)] 114 [.int s1, .int s0] := by
        intro c_row_length c_row_numbers n1 n3 n5 n6 n7 s0 s1
        intro hf
        unfold fX7_doors_b114 at hf
        refine ww_iadd (pc := 114) C dX7_doors_114  ?_
        obtain ⟨v1, h1, hf⟩ := bsome hf
        refine ww_nmi h1 ?_
        refine ww_istore (pc := 115) (lv' := [(4, .int v1), (0, .ref q_this), (1, .int n1), (2, .ref q_now_grid), (3, .int n3), (5, .int n5), (6, .int n6), (7, .int n7)]) C dX7_doors_115 (by decide) rfl ?_
        refine ww_iload (pc := 117) C dX7_doors_117 5 rfl ?_
        refine ww_iload (pc := 119) C dX7_doors_119 7 rfl ?_
        refine ww_iconst (pc := 121) C dX7_doors_121 kI_2 ?_
        refine ww_icmp_ne (pc := 122) (tgt := 129) C dX7_doors_122 (by decide) (fun hc => ?_) (fun hc => ?_)
        · have hf := ifF hc hf
          refine ww_iconst (pc := 129) C dX7_doors_129 kI_0 ?_
          exact ww_lv [1, 2, 3, 4, 0, 6] rfl (hJ130 c_row_length c_row_numbers n1 n3 v1 n6 n5 (0 : Int32) hf)
        · have hf := ifT hc hf
          refine ww_iconst (pc := 125) C dX7_doors_125 kI_1 ?_
          refine ww_goto (pc := 126) (tgt := 130) C dX7_doors_126 (by decide) ?_
          exact ww_lv [1, 2, 3, 4, 0, 6] rfl (hJ130 c_row_length c_row_numbers n1 n3 v1 n6 n5 (1 : Int32) hf)
      have hL55 : ∀ (n : Nat) (c_row_length : Int32) (c_row_numbers : Nat → Int64) (n1 : Int32) (n3 : Int32) (n4 : Int32) (n5 : Int32) (n6 : Int32) (n7 : Int32) (n8 : Int32), lfix (fX7_doors_b55 c_now_grid_size c_now_grid_marks rc28) (fun _ _ _ _ _ _ _ _ _ => none) n c_row_length c_row_numbers n1 n3 n4 n5 n6 n7 n8 = some (r_, w_row_length, w_row_numbers) → WW p l e (RM 3 74) s m args below meth c Q 9 D A 0 0 [oX7 q_this q_text q_row q_now q_trial q_doors q_history q_kept, oX0 q_doors q_doors_way q_doors_seen c_doors_length c_doors_cameOut c_doors_longest, oX5 q_now q_now_grid q_now_rule, oX1 q_now_grid q_now_grid_marks c_now_grid_size c_now_grid_full c_now_grid_turns c_now_grid_firstFull c_now_grid_lastFull, aI k q_now_grid_marks 153 c_now_grid_marks, oX3 q_row q_row_numbers c_row_length, aJ k q_row_numbers 16 c_row_numbers] [(0, .ref q_this), (1, .int n1), (2, .ref q_now_grid), (3, .int n3), (4, .int n4), (5, .int n5), (6, .int n6), (7, .int n7), (8, .int n8)] 55 [] := by
        intro n
        induction n with
        | zero => intro c_row_length c_row_numbers n1 n3 n4 n5 n6 n7 n8 hf; cases hf
        | succ n ih55 =>
          obtain ⟨rc55, hrc55⟩ : ∃ f9, f9 = lfix (fX7_doors_b55 c_now_grid_size c_now_grid_marks rc28) (fun _ _ _ _ _ _ _ _ _ => none) n := ⟨_, rfl⟩
          rw [← hrc55] at ih55
          have hJ93 : ∀ (c_row_length : Int32) (c_row_numbers : Nat → Int64) (n1 : Int32) (n4 : Int32) (n5 : Int32) (n6 : Int32) (n7 : Int32) (n8 : Int32) (s0 : Int32) (s1 : Int32), fX7_doors_b93 c_now_grid_size c_now_grid_marks rc28 rc55 c_row_length c_row_numbers n1 n4 n5 n6 n7 n8 s0 s1 = some (r_, w_row_length, w_row_numbers) → WW p l e (RM 3 74) s m args below meth c Q 9 D A 0 0 [oX7 q_this q_text q_row q_now q_trial q_doors q_history q_kept, oX0 q_doors q_doors_way q_doors_seen c_doors_length c_doors_cameOut c_doors_longest, oX5 q_now q_now_grid q_now_rule, oX1 q_now_grid q_now_grid_marks c_now_grid_size c_now_grid_full c_now_grid_turns c_now_grid_firstFull c_now_grid_lastFull, aI k q_now_grid_marks 153 c_now_grid_marks, oX3 q_row q_row_numbers c_row_length, aJ k q_row_numbers 16 c_row_numbers] [(0, .ref q_this), (1, .int n1), (2, .ref q_now_grid), (4, .int n4), (5, .int n5), (6, .int n6), (7, .int n7), (8, .int n8)] 93 [.int s1, .int s0] := by
            intro c_row_length c_row_numbers n1 n4 n5 n6 n7 n8 s0 s1
            intro hf
            unfold fX7_doors_b93 at hf
            refine ww_iadd (pc := 93) C dX7_doors_93  ?_
            obtain ⟨v1, h1, hf⟩ := bsome hf
            refine ww_nmi h1 ?_
            refine ww_istore_n (pc := 94) (lv' := [(3, .int v1), (0, .ref q_this), (1, .int n1), (2, .ref q_now_grid), (4, .int n4), (5, .int n5), (6, .int n6), (7, .int n7), (8, .int n8)]) C dX7_doors_94 rfl (by decide) rfl ?_
            obtain ⟨v2, h2, hf⟩ := bsome hf
            refine ww_iincN (pc := 95) (lv' := [(8, .int v2), (3, .int v1), (0, .ref q_this), (1, .int n1), (2, .ref q_now_grid), (4, .int n4), (5, .int n5), (6, .int n6), (7, .int n7)]) (j := 8) C dX7_doors_95 kI_1 rfl h2 (by decide) rfl ?_
            refine ww_goto (pc := 98) (tgt := 55) C dX7_doors_98 (by decide) ?_
            exact ww_lv [2, 3, 4, 1, 5, 6, 7, 8, 0] rfl (ih55 c_row_length c_row_numbers n1 v1 n4 n5 n6 n7 v2 hf)
          intro c_row_length c_row_numbers n1 n3 n4 n5 n6 n7 n8 hf
          have hf : fX7_doors_b55 c_now_grid_size c_now_grid_marks rc28 rc55 c_row_length c_row_numbers n1 n3 n4 n5 n6 n7 n8 = some (r_, w_row_length, w_row_numbers) := by rw [hrc55]; exact hf
          unfold fX7_doors_b55 at hf
          refine ww_iload (pc := 55) C dX7_doors_55 8 rfl ?_
          refine ww_iconst (pc := 57) C dX7_doors_57 kI_3 ?_
          refine ww_icmp_ge (pc := 58) (tgt := 101) C dX7_doors_58 (by decide) (fun hc => ?_) (fun hc => ?_)
          · have hf := ifT hc hf
            refine ww_iload (pc := 101) C dX7_doors_101 4 rfl ?_
            refine ww_iload (pc := 103) C dX7_doors_103 7 rfl ?_
            refine ww_iconst (pc := 105) C dX7_doors_105 kI_1 ?_
            refine ww_icmp_ne (pc := 106) (tgt := 113) C dX7_doors_106 (by decide) (fun hc => ?_) (fun hc => ?_)
            · have hf := ifF hc hf
              refine ww_iconst (pc := 113) C dX7_doors_113 kI_0 ?_
              exact ww_lv [0, 1, 2, 3, 5, 6, 7] rfl (hJ114 c_row_length c_row_numbers n1 n3 n5 n6 n7 n4 (0 : Int32) hf)
            · have hf := ifT hc hf
              refine ww_iconst (pc := 109) C dX7_doors_109 kI_1 ?_
              refine ww_goto (pc := 110) (tgt := 114) C dX7_doors_110 (by decide) ?_
              exact ww_lv [0, 1, 2, 3, 5, 6, 7] rfl (hJ114 c_row_length c_row_numbers n1 n3 n5 n6 n7 n4 (1 : Int32) hf)
          · have hf := ifF hc hf
            refine ww_aload_n (pc := 61) C dX7_doors_61 rfl 0 rfl ?_
            refine gf7_4 (pc := 62) C kf_X7_40 0 rfl rfl dX7_doors_62 ?_
            refine ww_aload_n (pc := 65) C dX7_doors_65 rfl 2 rfl ?_
            refine ww_iload (pc := 66) C dX7_doors_66 6 rfl ?_
            refine ww_iload (pc := 68) C dX7_doors_68 8 rfl ?_
            refine ww_iload_n (pc := 70) C dX7_doors_70 rfl 1 rfl ?_
            obtain ⟨v1, h1, hf⟩ := bsome hf
            refine ww_callVi0 (pc := 71) (As := [.ref q_now_grid, .int n6, .int n8, .int n1]) (rest := []) C (tX0_isDoor l D k q_doors q_doors_way q_doors_seen q_now_grid q_now_grid_marks c_doors_length c_doors_cameOut c_doors_longest c_now_grid_size c_now_grid_full c_now_grid_turns c_now_grid_firstFull c_now_grid_lastFull c_now_grid_marks n6 n8 n1 v1 h1) cv_X7_217 ⟨⟨by decide, by decide⟩, rfl, rfl⟩ 1 rfl rfl [1, 3, 4] rfl rfl rfl rfl (Nat.le_of_ble_eq_true rfl) ⟨Nat.zero_le _, Nat.zero_le _⟩ dX7_doors_71 (fun hb1 => ?_)
            refine ww_if_eq (pc := 74) (tgt := 95) C dX7_doors_74 (by decide) (fun hc => ?_) (fun hc => ?_)
            · have hf := ifT hc hf
              obtain ⟨v2, h2, hf⟩ := bsome hf
              refine ww_iincN (pc := 95) (lv' := [(8, .int v2), (0, .ref q_this), (1, .int n1), (2, .ref q_now_grid), (3, .int n3), (4, .int n4), (5, .int n5), (6, .int n6), (7, .int n7)]) (j := 8) C dX7_doors_95 kI_1 rfl h2 (by decide) rfl ?_
              refine ww_goto (pc := 98) (tgt := 55) C dX7_doors_98 (by decide) ?_
              exact ww_lv [1, 2, 3, 4, 5, 6, 7, 8, 0] rfl (ih55 c_row_length c_row_numbers n1 n3 n4 n5 n6 n7 v2 hf)
            · have hf := ifF hc hf
              obtain ⟨v3, h3, hf⟩ := bsome hf
              refine ww_iincN (pc := 77) (lv' := [(7, .int v3), (0, .ref q_this), (1, .int n1), (2, .ref q_now_grid), (3, .int n3), (4, .int n4), (5, .int n5), (6, .int n6), (8, .int n8)]) (j := 7) C dX7_doors_77 kI_1 rfl h3 (by decide) rfl ?_
              refine ww_iload_n (pc := 80) C dX7_doors_80 rfl 4 rfl ?_
              refine ww_iload (pc := 81) C dX7_doors_81 7 rfl ?_
              refine ww_iconst (pc := 83) C dX7_doors_83 kI_1 ?_
              refine ww_iand (pc := 84) C dX7_doors_84  ?_
              refine ww_if_ne (pc := 85) (tgt := 92) C dX7_doors_85 (by decide) (fun hc => ?_) (fun hc => ?_)
              · have hf := ifF hc hf
                refine ww_iconst (pc := 92) C dX7_doors_92 kI_0 ?_
                exact ww_lv [1, 2, 3, 5, 6, 7, 0, 8] rfl (hJ93 c_row_length c_row_numbers n1 n4 n5 n6 v3 n8 n3 (0 : Int32) hf)
              · have hf := ifT hc hf
                refine ww_iconst (pc := 88) C dX7_doors_88 kI_1 ?_
                refine ww_goto (pc := 89) (tgt := 93) C dX7_doors_89 (by decide) ?_
                exact ww_lv [1, 2, 3, 5, 6, 7, 0, 8] rfl (hJ93 c_row_length c_row_numbers n1 n4 n5 n6 v3 n8 n3 (1 : Int32) hf)
      intro c_row_length c_row_numbers n1 n3 n4 n5 n6 hf
      have hf : fX7_doors_b28 c_now_grid_size c_now_grid_marks rc28 c_row_length c_row_numbers n1 n3 n4 n5 n6 = some (r_, w_row_length, w_row_numbers) := by rw [hrc28]; exact hf
      unfold fX7_doors_b28 at hf
      refine ww_iload (pc := 28) C dX7_doors_28 6 rfl ?_
      refine ww_aload_n (pc := 30) C dX7_doors_30 rfl 2 rfl ?_
      obtain ⟨v1, h1, hf⟩ := bsome hf
      refine ww_callVi0 (pc := 31) (As := []) (rest := [.int n6]) C (tX1_numbers l D k q_now_grid q_now_grid_marks c_now_grid_size c_now_grid_full c_now_grid_turns c_now_grid_firstFull c_now_grid_lastFull v1 h1) cv_X7_189 ⟨⟨by decide, by decide⟩, rfl, rfl⟩ 3 rfl rfl [3] rfl rfl rfl rfl (Nat.le_of_ble_eq_true rfl) ⟨Nat.zero_le _, Nat.zero_le _⟩ dX7_doors_31 (fun hb1 => ?_)
      refine ww_icmp_ge (pc := 34) (tgt := 139) C dX7_doors_34 (by decide) (fun hc => ?_) (fun hc => ?_)
      · have hf := ifT hc hf
        refine ww_aload_n (pc := 139) C dX7_doors_139 rfl 0 rfl ?_
        refine gf7_1 (pc := 140) C kf_X7_19 0 rfl rfl dX7_doors_140 ?_
        refine ww_iload (pc := 143) C dX7_doors_143 4 rfl ?_
        refine ww_i2l (pc := 145) C dX7_doors_145  ?_
        refine ww_iload (pc := 146) C dX7_doors_146 5 rfl ?_
        refine ww_i2l (pc := 148) C dX7_doors_148  ?_
        obtain ⟨v2, v3, h2, hf⟩ := bd2_some hf
        refine ww_callVv (pc := 149) (ws' := [oX7 q_this q_text q_row q_now q_trial q_doors q_history q_kept, oX0 q_doors q_doors_way q_doors_seen c_doors_length c_doors_cameOut c_doors_longest, oX5 q_now q_now_grid q_now_rule, oX1 q_now_grid q_now_grid_marks c_now_grid_size c_now_grid_full c_now_grid_turns c_now_grid_firstFull c_now_grid_lastFull, aI k q_now_grid_marks 153 c_now_grid_marks, oX3 q_row q_row_numbers v2, aJ k q_row_numbers 16 v3]) (As := [.long ((n4).toInt64), .long ((n5).toInt64)]) (rest := []) C (tX3_tell_ l D k q_row q_row_numbers c_row_length c_row_numbers ((n4).toInt64) ((n5).toInt64) v2 v3 h2) cv_X7_120 ⟨⟨by decide, by decide⟩, rfl, rfl⟩ 5 rfl rfl [5, 6] rfl rfl rfl rfl rfl rfl (Nat.le_of_ble_eq_true rfl) ⟨Nat.zero_le _, Nat.zero_le _⟩ dX7_doors_149 ?_
        refine ww_iload_n (pc := 152) C dX7_doors_152 rfl 3 rfl ?_
        obtain ⟨e0, e1, e2⟩ := ij3 hf
        exact hret _ _ 153 _ dX7_doors_153 rfl e0 (by rw [← e1, ← e2])
      · have hf := ifF hc hf
        refine ww_aload_n (pc := 37) C dX7_doors_37 rfl 2 rfl ?_
        refine ww_iload (pc := 38) C dX7_doors_38 6 rfl ?_
        obtain ⟨v4, h4, hf⟩ := bsome hf
        refine ww_callVi0 (pc := 40) (As := [.int n6]) (rest := []) C (tX1_isCell l D k q_now_grid q_now_grid_marks c_now_grid_size c_now_grid_full c_now_grid_turns c_now_grid_firstFull c_now_grid_lastFull n6 v4 h4) cv_X7_156 ⟨⟨by decide, by decide⟩, rfl, rfl⟩ 3 rfl rfl [3] rfl rfl rfl rfl (Nat.le_of_ble_eq_true rfl) ⟨Nat.zero_le _, Nat.zero_le _⟩ dX7_doors_40 (fun hb4 => ?_)
        refine ww_if_ne (pc := 43) (tgt := 49) C dX7_doors_43 (by decide) (fun hc => ?_) (fun hc => ?_)
        · have hf := ifF hc hf
          refine ww_iconst (pc := 49) C dX7_doors_49 kI_0 ?_
          refine ww_istore (pc := 50) (lv' := [(7, .int (0 : Int32)), (0, .ref q_this), (1, .int n1), (2, .ref q_now_grid), (3, .int n3), (4, .int n4), (5, .int n5), (6, .int n6)]) C dX7_doors_50 (by decide) rfl ?_
          refine ww_iconst (pc := 52) C dX7_doors_52 kI_0 ?_
          refine ww_istore (pc := 53) (lv' := [(8, .int (0 : Int32)), (7, .int (0 : Int32)), (0, .ref q_this), (1, .int n1), (2, .ref q_now_grid), (3, .int n3), (4, .int n4), (5, .int n5), (6, .int n6)]) C dX7_doors_53 (by decide) rfl ?_
          exact ww_lv [2, 3, 4, 5, 6, 7, 8, 1, 0] rfl (hL55 FU c_row_length c_row_numbers n1 n3 n4 n5 n6 (0 : Int32) (0 : Int32) hf)
        · have hf := ifT hc hf
          refine ww_goto (pc := 46) (tgt := 133) C dX7_doors_46 (by decide) ?_
          obtain ⟨v5, h5, hf⟩ := bsome hf
          refine ww_iincN (pc := 133) (lv' := [(6, .int v5), (0, .ref q_this), (1, .int n1), (2, .ref q_now_grid), (3, .int n3), (4, .int n4), (5, .int n5)]) (j := 6) C dX7_doors_133 kI_1 rfl h5 (by decide) rfl ?_
          refine ww_goto (pc := 136) (tgt := 28) C dX7_doors_136 (by decide) ?_
          exact ww_lv [1, 2, 3, 4, 5, 6, 0] rfl (ih28 c_row_length c_row_numbers n1 n3 n4 n5 v5 hf)
  unfold fX7_doors at hf
  refine ww_iload_n (pc := 0) C dX7_doors_0 rfl 1 rfl ?_
  obtain ⟨v1, h1, hf⟩ := bsome hf
  refine ww_callSi0 (pc := 1) (As := [.int x1]) (rest := []) C (tX7_isGood l D k x1 v1 h1) cs_X7_195 ⟨⟨by decide, by decide⟩, rfl, rfl⟩ [] rfl rfl rfl rfl (Nat.le_of_ble_eq_true rfl) ⟨Nat.zero_le _, Nat.zero_le _⟩ dX7_doors_1 (fun hb1 => ?_)
  refine ww_if_ne (pc := 4) (tgt := 9) C dX7_doors_4 (by decide) (fun hc => ?_) (fun hc => ?_)
  · have hf := ifF hc hf
    refine ww_aload_n (pc := 9) C dX7_doors_9 rfl 0 rfl ?_
    refine gf7_2 (pc := 10) C kf_X7_26 0 rfl rfl dX7_doors_10 ?_
    refine gf5_0 (pc := 13) C kf_X7_74 2 rfl rfl dX7_doors_13 ?_
    refine ww_astore_n (pc := 16) (lv' := [(2, .ref q_now_grid), (0, .ref q_this), (1, .int x1)]) C dX7_doors_16 rfl (by decide) rfl ?_
    refine ww_iconst (pc := 17) C dX7_doors_17 kI_0 ?_
    refine ww_istore_n (pc := 18) (lv' := [(3, .int (0 : Int32)), (2, .ref q_now_grid), (0, .ref q_this), (1, .int x1)]) C dX7_doors_18 rfl (by decide) rfl ?_
    refine ww_iconst (pc := 19) C dX7_doors_19 kI_0 ?_
    refine ww_istore (pc := 20) (lv' := [(4, .int (0 : Int32)), (3, .int (0 : Int32)), (2, .ref q_now_grid), (0, .ref q_this), (1, .int x1)]) C dX7_doors_20 (by decide) rfl ?_
    refine ww_iconst (pc := 22) C dX7_doors_22 kI_0 ?_
    refine ww_istore (pc := 23) (lv' := [(5, .int (0 : Int32)), (4, .int (0 : Int32)), (3, .int (0 : Int32)), (2, .ref q_now_grid), (0, .ref q_this), (1, .int x1)]) C dX7_doors_23 (by decide) rfl ?_
    refine ww_iconst (pc := 25) C dX7_doors_25 kI_0 ?_
    refine ww_istore (pc := 26) (lv' := [(6, .int (0 : Int32)), (5, .int (0 : Int32)), (4, .int (0 : Int32)), (3, .int (0 : Int32)), (2, .ref q_now_grid), (0, .ref q_this), (1, .int x1)]) C dX7_doors_26 (by decide) rfl ?_
    exact ww_lv [5, 6, 4, 3, 2, 1, 0] rfl (hL28 FU c_row_length c_row_numbers x1 (0 : Int32) (0 : Int32) (0 : Int32) (0 : Int32) hf)
  · have hf := ifT hc hf
    refine ww_iconst (pc := 7) C dX7_doors_7 kI_m1 ?_
    obtain ⟨e0, e1, e2⟩ := ij3 hf
    exact hret _ _ 8 _ dX7_doors_8 rfl e0 (by rw [← e1, ← e2])
def fX7_walk_b87 (c_now_grid_size : Int32) (c_now_grid_marks : Nat → Int32) (c_doors_cameOut : Int32) (c_doors_length : Int32) (c_doors_way : Nat → Int32) (c_row_length : Int32) (c_row_numbers : Nat → Int64) (n1 : Int32) (s1 : Int64) (s2 : Int64) : Option (Int32 × Int32 × Int32 × (Nat → Int32) × Int32 × (Nat → Int64)) := (fX0_outDoor c_doors_cameOut c_doors_length c_doors_way c_now_grid_size c_now_grid_marks n1).bind fun v1 => bd2 (fX3_tell__ c_row_length c_row_numbers s1 s2 ((v1).toInt64)) fun v2 v3 => some (c_doors_length, c_doors_cameOut, c_doors_length, c_doors_way, v2, v3)
def fX7_walk_b27 (c_now_grid_size : Int32) (c_now_grid_marks : Nat → Int32) (c_doors_cameOut : Int32) (c_doors_length : Int32) (c_doors_way : Nat → Int32) (c_row_length : Int32) (c_row_numbers : Nat → Int64) (n1 : Int32) (s0 : Int32) : Option (Int32 × Int32 × Int32 × (Nat → Int32) × Int32 × (Nat → Int64)) := if s0 = (-1 : Int32) then some ((-1 : Int32), c_doors_cameOut, c_doors_length, c_doors_way, c_row_length, c_row_numbers) else bd3 (fX0_enter c_now_grid_size c_now_grid_marks c_doors_cameOut c_doors_length c_doors_way n1 s0) fun v1 v2 v3 => (fX0_last v2 v3).bind fun v4 => (fX1_turn c_now_grid_size c_now_grid_marks v4).bind fun v5 => if v5 = 0 then fX7_walk_b87 c_now_grid_size c_now_grid_marks v1 v2 v3 c_row_length c_row_numbers n1 ((v4).toInt64) (0 : Int64) else fX7_walk_b87 c_now_grid_size c_now_grid_marks v1 v2 v3 c_row_length c_row_numbers n1 ((v4).toInt64) (1 : Int64)
def fX7_walk (c_now_grid_size : Int32) (c_now_grid_marks : Nat → Int32) (c_doors_cameOut : Int32) (c_doors_length : Int32) (c_doors_way : Nat → Int32) (c_row_length : Int32) (c_row_numbers : Nat → Int64) (x1 : Int32) (x2 : Int32) : Option (Int32 × Int32 × Int32 × (Nat → Int32) × Int32 × (Nat → Int64)) := (fX7_isGood x1).bind fun v1 => if v1 = 0 then fX7_walk_b27 c_now_grid_size c_now_grid_marks c_doors_cameOut c_doors_length c_doors_way c_row_length c_row_numbers x1 (-1 : Int32) else (fX0_placeOf c_now_grid_size c_now_grid_marks x1 x2).bind fun v2 => fX7_walk_b27 c_now_grid_size c_now_grid_marks c_doors_cameOut c_doors_length c_doors_way c_row_length c_row_numbers x1 v2
set_option maxHeartbeats 4000000 in
set_option maxRecDepth 100000 in
theorem tX7_walk (l : Launch) (D : va_G) (k : Nat → ClassId) (q_this q_text q_row q_now q_trial q_doors q_history q_kept q_doors_way q_doors_seen q_now_grid q_now_rule q_now_grid_marks q_row_numbers : Nat) (c_doors_length : Int32) (c_doors_cameOut : Int32) (c_doors_longest : Int32) (c_doors_way : Nat → Int32) (c_now_grid_size : Int32) (c_now_grid_full : Int32) (c_now_grid_turns : Int32) (c_now_grid_firstFull : Int32) (c_now_grid_lastFull : Int32) (c_now_grid_marks : Nat → Int32) (c_row_length : Int32) (c_row_numbers : Nat → Int64) (x1 : Int32) (x2 : Int32) (r_ : Int32) (w_doors_cameOut : Int32) (w_doors_length : Int32) (w_doors_way : Nat → Int32) (w_row_length : Int32) (w_row_numbers : Nat → Int64) (hf : fX7_walk c_now_grid_size c_now_grid_marks c_doors_cameOut c_doors_length c_doors_way c_row_length c_row_numbers x1 x2 = some (r_, w_doors_cameOut, w_doors_length, w_doors_way, w_row_length, w_row_numbers)) : MI l yX7_walk cX7_walk 5 .int (RM 6 148) D k [.ref q_this, .int x1, .int x2] [oX7 q_this q_text q_row q_now q_trial q_doors q_history q_kept, oX0 q_doors q_doors_way q_doors_seen c_doors_length c_doors_cameOut c_doors_longest, aI k q_doors_way 512 c_doors_way, oX5 q_now q_now_grid q_now_rule, oX1 q_now_grid q_now_grid_marks c_now_grid_size c_now_grid_full c_now_grid_turns c_now_grid_firstFull c_now_grid_lastFull, aI k q_now_grid_marks 153 c_now_grid_marks, oX3 q_row q_row_numbers c_row_length, aJ k q_row_numbers 16 c_row_numbers] r_ [oX7 q_this q_text q_row q_now q_trial q_doors q_history q_kept, oX0 q_doors q_doors_way q_doors_seen w_doors_length w_doors_cameOut c_doors_longest, aI k q_doors_way 512 w_doors_way, oX5 q_now q_now_grid q_now_rule, oX1 q_now_grid q_now_grid_marks c_now_grid_size c_now_grid_full c_now_grid_turns c_now_grid_firstFull c_now_grid_lastFull, aI k q_now_grid_marks 153 c_now_grid_marks, oX3 q_row q_row_numbers w_row_length, aJ k q_row_numbers 16 w_row_numbers] := by
  refine mkMI' (own := "DoorWalk") (by decide) rfl (Nat.le_of_ble_eq_true rfl) ?_
  intro p e s m args below meth c Q A hret C
  refine ww_lv (lv' := [(0, .ref q_this), (1, .int x1), (2, .int x2)]) [0, 1, 2] rfl ?_
  have hJ87 : ∀ (c_doors_cameOut : Int32) (c_doors_length : Int32) (c_doors_way : Nat → Int32) (c_row_length : Int32) (c_row_numbers : Nat → Int64) (n1 : Int32) (s1 : Int64) (s2 : Int64), fX7_walk_b87 c_now_grid_size c_now_grid_marks c_doors_cameOut c_doors_length c_doors_way c_row_length c_row_numbers n1 s1 s2 = some (r_, w_doors_cameOut, w_doors_length, w_doors_way, w_row_length, w_row_numbers) → WW p l e (RM 6 148) s m args below meth c Q 5 D A 0 0 [oX7 q_this q_text q_row q_now q_trial q_doors q_history q_kept, oX0 q_doors q_doors_way q_doors_seen c_doors_length c_doors_cameOut c_doors_longest, aI k q_doors_way 512 c_doors_way, oX5 q_now q_now_grid q_now_rule, oX1 q_now_grid q_now_grid_marks c_now_grid_size c_now_grid_full c_now_grid_turns c_now_grid_firstFull c_now_grid_lastFull, aI k q_now_grid_marks 153 c_now_grid_marks, oX3 q_row q_row_numbers c_row_length, aJ k q_row_numbers 16 c_row_numbers] [(0, .ref q_this), (1, .int n1)] 87 [.long s2, .long s1, .ref q_row] := by
    intro c_doors_cameOut c_doors_length c_doors_way c_row_length c_row_numbers n1 s1 s2
    intro hf
    unfold fX7_walk_b87 at hf
    refine ww_aload_n (pc := 87) C dX7_walk_87 rfl 0 rfl ?_
    refine gf7_4 (pc := 88) C kf_X7_40 0 rfl rfl dX7_walk_88 ?_
    refine ww_aload_n (pc := 91) C dX7_walk_91 rfl 0 rfl ?_
    refine gf7_2 (pc := 92) C kf_X7_26 0 rfl rfl dX7_walk_92 ?_
    refine gf5_0 (pc := 95) C kf_X7_74 3 rfl rfl dX7_walk_95 ?_
    refine ww_iload_n (pc := 98) C dX7_walk_98 rfl 1 rfl ?_
    obtain ⟨v1, h1, hf⟩ := bsome hf
    refine ww_callVi0 (pc := 99) (As := [.ref q_now_grid, .int n1]) (rest := [.long s2, .long s1, .ref q_row]) C (tX0_outDoor l D k q_doors q_doors_way q_doors_seen q_now_grid q_now_grid_marks c_doors_length c_doors_cameOut c_doors_longest c_doors_way c_now_grid_size c_now_grid_full c_now_grid_turns c_now_grid_firstFull c_now_grid_lastFull c_now_grid_marks n1 v1 h1) cv_X7_232 ⟨⟨by decide, by decide⟩, rfl, rfl⟩ 1 rfl rfl [1, 2, 4, 5] rfl rfl rfl rfl (Nat.le_of_ble_eq_true rfl) ⟨Nat.zero_le _, Nat.zero_le _⟩ dX7_walk_99 (fun hb1 => ?_)
    refine ww_i2l (pc := 102) C dX7_walk_102  ?_
    obtain ⟨v2, v3, h2, hf⟩ := bd2_some hf
    refine ww_callVv (pc := 103) (ws' := [oX7 q_this q_text q_row q_now q_trial q_doors q_history q_kept, oX0 q_doors q_doors_way q_doors_seen c_doors_length c_doors_cameOut c_doors_longest, aI k q_doors_way 512 c_doors_way, oX5 q_now q_now_grid q_now_rule, oX1 q_now_grid q_now_grid_marks c_now_grid_size c_now_grid_full c_now_grid_turns c_now_grid_firstFull c_now_grid_lastFull, aI k q_now_grid_marks 153 c_now_grid_marks, oX3 q_row q_row_numbers v2, aJ k q_row_numbers 16 v3]) (As := [.long s1, .long s2, .long ((v1).toInt64)]) (rest := []) C (tX3_tell__ l D k q_row q_row_numbers c_row_length c_row_numbers s1 s2 ((v1).toInt64) v2 v3 h2) cv_X7_150 ⟨⟨by decide, by decide⟩, rfl, rfl⟩ 6 rfl rfl [6, 7] rfl rfl rfl rfl rfl rfl (Nat.le_of_ble_eq_true rfl) ⟨Nat.zero_le _, Nat.zero_le _⟩ dX7_walk_103 ?_
    refine ww_aload_n (pc := 106) C dX7_walk_106 rfl 0 rfl ?_
    refine gf7_4 (pc := 107) C kf_X7_40 0 rfl rfl dX7_walk_107 ?_
    refine gf0_2 (pc := 110) C kf_X7_236 1 rfl rfl dX7_walk_110 ?_
    obtain ⟨e0, e1, e2, e3, e4, e5⟩ := ij6 hf
    exact hret _ _ 113 _ dX7_walk_113 rfl e0 (by rw [← e1, ← e2, ← e3, ← e4, ← e5])
  have hJ27 : ∀ (c_doors_cameOut : Int32) (c_doors_length : Int32) (c_doors_way : Nat → Int32) (c_row_length : Int32) (c_row_numbers : Nat → Int64) (n1 : Int32) (s0 : Int32), fX7_walk_b27 c_now_grid_size c_now_grid_marks c_doors_cameOut c_doors_length c_doors_way c_row_length c_row_numbers n1 s0 = some (r_, w_doors_cameOut, w_doors_length, w_doors_way, w_row_length, w_row_numbers) → WW p l e (RM 6 148) s m args below meth c Q 5 D A 0 0 [oX7 q_this q_text q_row q_now q_trial q_doors q_history q_kept, oX0 q_doors q_doors_way q_doors_seen c_doors_length c_doors_cameOut c_doors_longest, aI k q_doors_way 512 c_doors_way, oX5 q_now q_now_grid q_now_rule, oX1 q_now_grid q_now_grid_marks c_now_grid_size c_now_grid_full c_now_grid_turns c_now_grid_firstFull c_now_grid_lastFull, aI k q_now_grid_marks 153 c_now_grid_marks, oX3 q_row q_row_numbers c_row_length, aJ k q_row_numbers 16 c_row_numbers] [(0, .ref q_this), (1, .int n1)] 27 [.int s0] := by
    intro c_doors_cameOut c_doors_length c_doors_way c_row_length c_row_numbers n1 s0
    intro hf
    unfold fX7_walk_b27 at hf
    refine ww_istore_n (pc := 27) (lv' := [(3, .int s0), (0, .ref q_this), (1, .int n1)]) C dX7_walk_27 rfl (by decide) rfl ?_
    refine ww_iload_n (pc := 28) C dX7_walk_28 rfl 0 rfl ?_
    refine ww_iconst (pc := 29) C dX7_walk_29 kI_m1 ?_
    refine ww_icmp_ne (pc := 30) (tgt := 35) C dX7_walk_30 (by decide) (fun hc => ?_) (fun hc => ?_)
    · have hf := ifF hc hf
      refine ww_aload_n (pc := 35) C dX7_walk_35 rfl 1 rfl ?_
      refine gf7_4 (pc := 36) C kf_X7_40 0 rfl rfl dX7_walk_36 ?_
      refine ww_aload_n (pc := 39) C dX7_walk_39 rfl 1 rfl ?_
      refine gf7_2 (pc := 40) C kf_X7_26 0 rfl rfl dX7_walk_40 ?_
      refine gf5_0 (pc := 43) C kf_X7_74 3 rfl rfl dX7_walk_43 ?_
      refine ww_iload_n (pc := 46) C dX7_walk_46 rfl 2 rfl ?_
      refine ww_iload_n (pc := 47) C dX7_walk_47 rfl 0 rfl ?_
      obtain ⟨v1, v2, v3, h1, hf⟩ := bd3_some hf
      refine ww_callVv (pc := 48) (ws' := [oX7 q_this q_text q_row q_now q_trial q_doors q_history q_kept, oX0 q_doors q_doors_way q_doors_seen v2 v1 c_doors_longest, aI k q_doors_way 512 v3, oX5 q_now q_now_grid q_now_rule, oX1 q_now_grid q_now_grid_marks c_now_grid_size c_now_grid_full c_now_grid_turns c_now_grid_firstFull c_now_grid_lastFull, aI k q_now_grid_marks 153 c_now_grid_marks, oX3 q_row q_row_numbers c_row_length, aJ k q_row_numbers 16 c_row_numbers]) (As := [.ref q_now_grid, .int n1, .int s0]) (rest := []) C (tX0_enter l D k q_doors q_doors_way q_doors_seen q_now_grid q_now_grid_marks c_doors_length c_doors_cameOut c_doors_longest c_doors_way c_now_grid_size c_now_grid_full c_now_grid_turns c_now_grid_firstFull c_now_grid_lastFull c_now_grid_marks n1 s0 v1 v2 v3 h1) cv_X7_225 ⟨⟨by decide, by decide⟩, rfl, rfl⟩ 1 rfl rfl [1, 2, 4, 5] rfl rfl rfl rfl rfl rfl (Nat.le_of_ble_eq_true rfl) ⟨Nat.zero_le _, Nat.zero_le _⟩ dX7_walk_48 ?_
      refine ww_aload_n (pc := 51) C dX7_walk_51 rfl 1 rfl ?_
      refine gf7_4 (pc := 52) C kf_X7_40 0 rfl rfl dX7_walk_52 ?_
      obtain ⟨v4, h4, hf⟩ := bsome hf
      refine ww_callVi0 (pc := 55) (As := []) (rest := []) C (tX0_last l D k q_doors q_doors_way q_doors_seen v2 v1 c_doors_longest v3 v4 h4) cv_X7_229 ⟨⟨by decide, by decide⟩, rfl, rfl⟩ 1 rfl rfl [1, 2] rfl rfl rfl rfl (Nat.le_of_ble_eq_true rfl) ⟨Nat.zero_le _, Nat.zero_le _⟩ dX7_walk_55 (fun hb4 => ?_)
      refine ww_istore (pc := 58) (lv' := [(4, .int v4), (3, .int s0), (0, .ref q_this), (1, .int n1)]) C dX7_walk_58 (by decide) rfl ?_
      refine ww_aload_n (pc := 60) C dX7_walk_60 rfl 2 rfl ?_
      refine gf7_1 (pc := 61) C kf_X7_19 0 rfl rfl dX7_walk_61 ?_
      refine ww_iload (pc := 64) C dX7_walk_64 0 rfl ?_
      refine ww_i2l (pc := 66) C dX7_walk_66  ?_
      refine ww_aload_n (pc := 67) C dX7_walk_67 rfl 2 rfl ?_
      refine gf7_2 (pc := 68) C kf_X7_26 0 rfl rfl dX7_walk_68 ?_
      refine gf5_0 (pc := 71) C kf_X7_74 3 rfl rfl dX7_walk_71 ?_
      refine ww_iload (pc := 74) C dX7_walk_74 0 rfl ?_
      obtain ⟨v5, h5, hf⟩ := bsome hf
      refine ww_callVi0 (pc := 76) (As := [.int v4]) (rest := [.long ((v4).toInt64), .ref q_row]) C (tX1_turn l D k q_now_grid q_now_grid_marks c_now_grid_size c_now_grid_full c_now_grid_turns c_now_grid_firstFull c_now_grid_lastFull c_now_grid_marks v4 v5 h5) cv_X7_159 ⟨⟨by decide, by decide⟩, rfl, rfl⟩ 4 rfl rfl [4, 5] rfl rfl rfl rfl (Nat.le_of_ble_eq_true rfl) ⟨Nat.zero_le _, Nat.zero_le _⟩ dX7_walk_76 (fun hb5 => ?_)
      refine ww_if_ne (pc := 79) (tgt := 86) C dX7_walk_79 (by decide) (fun hc => ?_) (fun hc => ?_)
      · have hf := ifF hc hf
        refine ww_lconst (pc := 86) C dX7_walk_86 kL_1 ?_
        exact ww_lv [2, 3] rfl (hJ87 v1 v2 v3 c_row_length c_row_numbers n1 ((v4).toInt64) (1 : Int64) hf)
      · have hf := ifT hc hf
        refine ww_lconst (pc := 82) C dX7_walk_82 kL_0 ?_
        refine ww_goto (pc := 83) (tgt := 87) C dX7_walk_83 (by decide) ?_
        exact ww_lv [2, 3] rfl (hJ87 v1 v2 v3 c_row_length c_row_numbers n1 ((v4).toInt64) (0 : Int64) hf)
    · have hf := ifT hc hf
      refine ww_iconst (pc := 33) C dX7_walk_33 kI_m1 ?_
      obtain ⟨e0, e1, e2, e3, e4, e5⟩ := ij6 hf
      exact hret _ _ 34 _ dX7_walk_34 rfl e0 (by rw [← e1, ← e2, ← e3, ← e4, ← e5])
  unfold fX7_walk at hf
  refine ww_iload_n (pc := 0) C dX7_walk_0 rfl 1 rfl ?_
  obtain ⟨v1, h1, hf⟩ := bsome hf
  refine ww_callSi0 (pc := 1) (As := [.int x1]) (rest := []) C (tX7_isGood l D k x1 v1 h1) cs_X7_195 ⟨⟨by decide, by decide⟩, rfl, rfl⟩ [] rfl rfl rfl rfl (Nat.le_of_ble_eq_true rfl) ⟨Nat.zero_le _, Nat.zero_le _⟩ dX7_walk_1 (fun hb1 => ?_)
  refine ww_if_eq (pc := 4) (tgt := 26) C dX7_walk_4 (by decide) (fun hc => ?_) (fun hc => ?_)
  · have hf := ifT hc hf
    refine ww_iconst (pc := 26) C dX7_walk_26 kI_m1 ?_
    exact ww_lv [0, 1] rfl (hJ27 c_doors_cameOut c_doors_length c_doors_way c_row_length c_row_numbers x1 (-1 : Int32) hf)
  · have hf := ifF hc hf
    refine ww_aload_n (pc := 7) C dX7_walk_7 rfl 0 rfl ?_
    refine gf7_4 (pc := 8) C kf_X7_40 0 rfl rfl dX7_walk_8 ?_
    refine ww_aload_n (pc := 11) C dX7_walk_11 rfl 0 rfl ?_
    refine gf7_2 (pc := 12) C kf_X7_26 0 rfl rfl dX7_walk_12 ?_
    refine gf5_0 (pc := 15) C kf_X7_74 3 rfl rfl dX7_walk_15 ?_
    refine ww_iload_n (pc := 18) C dX7_walk_18 rfl 1 rfl ?_
    refine ww_iload_n (pc := 19) C dX7_walk_19 rfl 2 rfl ?_
    obtain ⟨v2, h2, hf⟩ := bsome hf
    refine ww_callVi0 (pc := 20) (As := [.ref q_now_grid, .int x1, .int x2]) (rest := []) C (tX0_placeOf l D k q_doors q_doors_way q_doors_seen q_now_grid q_now_grid_marks c_doors_length c_doors_cameOut c_doors_longest c_now_grid_size c_now_grid_full c_now_grid_turns c_now_grid_firstFull c_now_grid_lastFull c_now_grid_marks x1 x2 v2 h2) cv_X7_221 ⟨⟨by decide, by decide⟩, rfl, rfl⟩ 1 rfl rfl [1, 4, 5] rfl rfl rfl rfl (Nat.le_of_ble_eq_true rfl) ⟨Nat.zero_le _, Nat.zero_le _⟩ dX7_walk_20 (fun hb2 => ?_)
    refine ww_goto (pc := 23) (tgt := 27) C dX7_walk_23 (by decide) ?_
    exact ww_lv [0, 1] rfl (hJ27 c_doors_cameOut c_doors_length c_doors_way c_row_length c_row_numbers x1 v2 hf)
def fX7_from (c_now_grid_size : Int32) (c_now_grid_marks : Nat → Int32) (c_doors_cameOut : Int32) (c_doors_length : Int32) (c_doors_way : Nat → Int32) (c_row_length : Int32) (c_row_numbers : Nat → Int64) (x1 : Int32) (x2 : Int32) : Option (Int32 × Int32 × Int32 × (Nat → Int32) × Int32 × (Nat → Int64)) := (fX1_isCell c_now_grid_size x1).bind fun v1 => if v1 = 0 then some ((-1 : Int32), c_doors_cameOut, c_doors_length, c_doors_way, c_row_length, c_row_numbers) else (fX7_isGood x2).bind fun v2 => if v2 = 0 then some ((-1 : Int32), c_doors_cameOut, c_doors_length, c_doors_way, c_row_length, c_row_numbers) else (fX1_turn c_now_grid_size c_now_grid_marks x1).bind fun v3 => if v3 = 0 then some ((-2 : Int32), c_doors_cameOut, c_doors_length, c_doors_way, c_row_length, c_row_numbers) else (fX0_nextDoor c_now_grid_size c_now_grid_marks x1 x2 (-1 : Int32)).bind fun v4 => (fX1_beyond c_now_grid_size x1 v4).bind fun v5 => if v5 = (-1 : Int32) then (fX1_sidePlace c_now_grid_size x2 x1).bind fun v13 => (fX0_outersBefore c_now_grid_size c_now_grid_marks x2 v13).bind fun v14 => bd2 (fX3_tell_ c_row_length c_row_numbers ((x1).toInt64) ((v14).toInt64)) fun v15 v16 => some ((0 : Int32), c_doors_cameOut, c_doors_length, c_doors_way, v15, v16) else bd3 (fX0_follow c_now_grid_size c_now_grid_marks c_doors_cameOut c_doors_length c_doors_way x2 v5 v4) fun v6 v7 v8 => (fX0_last v7 v8).bind fun v9 => (fX0_outDoor v6 v7 v8 c_now_grid_size c_now_grid_marks x2).bind fun v10 => bd2 (fX3_tell_ c_row_length c_row_numbers ((v9).toInt64) ((v10).toInt64)) fun v11 v12 => some (v7, v6, v7, v8, v11, v12)
set_option maxHeartbeats 4000000 in
set_option maxRecDepth 100000 in
theorem tX7_from (l : Launch) (D : va_G) (k : Nat → ClassId) (q_this q_text q_row q_now q_trial q_doors q_history q_kept q_doors_way q_doors_seen q_now_grid q_now_rule q_now_grid_marks q_row_numbers : Nat) (c_doors_length : Int32) (c_doors_cameOut : Int32) (c_doors_longest : Int32) (c_doors_way : Nat → Int32) (c_now_grid_size : Int32) (c_now_grid_full : Int32) (c_now_grid_turns : Int32) (c_now_grid_firstFull : Int32) (c_now_grid_lastFull : Int32) (c_now_grid_marks : Nat → Int32) (c_row_length : Int32) (c_row_numbers : Nat → Int64) (x1 : Int32) (x2 : Int32) (r_ : Int32) (w_doors_cameOut : Int32) (w_doors_length : Int32) (w_doors_way : Nat → Int32) (w_row_length : Int32) (w_row_numbers : Nat → Int64) (hf : fX7_from c_now_grid_size c_now_grid_marks c_doors_cameOut c_doors_length c_doors_way c_row_length c_row_numbers x1 x2 = some (r_, w_doors_cameOut, w_doors_length, w_doors_way, w_row_length, w_row_numbers)) : MI l yX7_from cX7_from 6 .int (RM 6 144) D k [.ref q_this, .int x1, .int x2] [oX7 q_this q_text q_row q_now q_trial q_doors q_history q_kept, oX0 q_doors q_doors_way q_doors_seen c_doors_length c_doors_cameOut c_doors_longest, aI k q_doors_way 512 c_doors_way, oX5 q_now q_now_grid q_now_rule, oX1 q_now_grid q_now_grid_marks c_now_grid_size c_now_grid_full c_now_grid_turns c_now_grid_firstFull c_now_grid_lastFull, aI k q_now_grid_marks 153 c_now_grid_marks, oX3 q_row q_row_numbers c_row_length, aJ k q_row_numbers 16 c_row_numbers] r_ [oX7 q_this q_text q_row q_now q_trial q_doors q_history q_kept, oX0 q_doors q_doors_way q_doors_seen w_doors_length w_doors_cameOut c_doors_longest, aI k q_doors_way 512 w_doors_way, oX5 q_now q_now_grid q_now_rule, oX1 q_now_grid q_now_grid_marks c_now_grid_size c_now_grid_full c_now_grid_turns c_now_grid_firstFull c_now_grid_lastFull, aI k q_now_grid_marks 153 c_now_grid_marks, oX3 q_row q_row_numbers w_row_length, aJ k q_row_numbers 16 w_row_numbers] := by
  refine mkMI' (own := "DoorWalk") (by decide) rfl (Nat.le_of_ble_eq_true rfl) ?_
  intro p e s m args below meth c Q A hret C
  refine ww_lv (lv' := [(0, .ref q_this), (1, .int x1), (2, .int x2)]) [0, 1, 2] rfl ?_
  unfold fX7_from at hf
  refine ww_aload_n (pc := 0) C dX7_from_0 rfl 0 rfl ?_
  refine gf7_2 (pc := 1) C kf_X7_26 0 rfl rfl dX7_from_1 ?_
  refine gf5_0 (pc := 4) C kf_X7_74 3 rfl rfl dX7_from_4 ?_
  refine ww_astore_n (pc := 7) (lv' := [(3, .ref q_now_grid), (0, .ref q_this), (1, .int x1), (2, .int x2)]) C dX7_from_7 rfl (by decide) rfl ?_
  refine ww_aload_n (pc := 8) C dX7_from_8 rfl 0 rfl ?_
  refine ww_iload_n (pc := 9) C dX7_from_9 rfl 2 rfl ?_
  obtain ⟨v1, h1, hf⟩ := bsome hf
  refine ww_callVi0 (pc := 10) (As := [.int x1]) (rest := []) C (tX1_isCell l D k q_now_grid q_now_grid_marks c_now_grid_size c_now_grid_full c_now_grid_turns c_now_grid_firstFull c_now_grid_lastFull x1 v1 h1) cv_X7_156 ⟨⟨by decide, by decide⟩, rfl, rfl⟩ 4 rfl rfl [4] rfl rfl rfl rfl (Nat.le_of_ble_eq_true rfl) ⟨Nat.zero_le _, Nat.zero_le _⟩ dX7_from_10 (fun hb1 => ?_)
  refine ww_if_eq (pc := 13) (tgt := 23) C dX7_from_13 (by decide) (fun hc => ?_) (fun hc => ?_)
  · have hf := ifT hc hf
    refine ww_iconst (pc := 23) C dX7_from_23 kI_m1 ?_
    obtain ⟨e0, e1, e2, e3, e4, e5⟩ := ij6 hf
    exact hret _ _ 24 _ dX7_from_24 rfl e0 (by rw [← e1, ← e2, ← e3, ← e4, ← e5])
  · have hf := ifF hc hf
    refine ww_iload_n (pc := 16) C dX7_from_16 rfl 3 rfl ?_
    obtain ⟨v2, h2, hf⟩ := bsome hf
    refine ww_callSi0 (pc := 17) (As := [.int x2]) (rest := []) C (tX7_isGood l D k x2 v2 h2) cs_X7_195 ⟨⟨by decide, by decide⟩, rfl, rfl⟩ [] rfl rfl rfl rfl (Nat.le_of_ble_eq_true rfl) ⟨Nat.zero_le _, Nat.zero_le _⟩ dX7_from_17 (fun hb2 => ?_)
    refine ww_if_ne (pc := 20) (tgt := 25) C dX7_from_20 (by decide) (fun hc => ?_) (fun hc => ?_)
    · have hf := ifF hc hf
      refine ww_aload_n (pc := 25) C dX7_from_25 rfl 0 rfl ?_
      refine ww_iload_n (pc := 26) C dX7_from_26 rfl 2 rfl ?_
      obtain ⟨v3, h3, hf⟩ := bsome hf
      refine ww_callVi0 (pc := 27) (As := [.int x1]) (rest := []) C (tX1_turn l D k q_now_grid q_now_grid_marks c_now_grid_size c_now_grid_full c_now_grid_turns c_now_grid_firstFull c_now_grid_lastFull c_now_grid_marks x1 v3 h3) cv_X7_159 ⟨⟨by decide, by decide⟩, rfl, rfl⟩ 4 rfl rfl [4, 5] rfl rfl rfl rfl (Nat.le_of_ble_eq_true rfl) ⟨Nat.zero_le _, Nat.zero_le _⟩ dX7_from_27 (fun hb3 => ?_)
      refine ww_if_ne (pc := 30) (tgt := 36) C dX7_from_30 (by decide) (fun hc => ?_) (fun hc => ?_)
      · have hf := ifF hc hf
        refine ww_aload_n (pc := 36) C dX7_from_36 rfl 1 rfl ?_
        refine gf7_4 (pc := 37) C kf_X7_40 0 rfl rfl dX7_from_37 ?_
        refine ww_aload_n (pc := 40) C dX7_from_40 rfl 0 rfl ?_
        refine ww_iload_n (pc := 41) C dX7_from_41 rfl 2 rfl ?_
        refine ww_iload_n (pc := 42) C dX7_from_42 rfl 3 rfl ?_
        refine ww_iconst (pc := 43) C dX7_from_43 kI_m1 ?_
        obtain ⟨v4, h4, hf⟩ := bsome hf
        refine ww_callVi0 (pc := 44) (As := [.ref q_now_grid, .int x1, .int x2, .int (-1 : Int32)]) (rest := []) C (tX0_nextDoor l D k q_doors q_doors_way q_doors_seen q_now_grid q_now_grid_marks c_doors_length c_doors_cameOut c_doors_longest c_now_grid_size c_now_grid_full c_now_grid_turns c_now_grid_firstFull c_now_grid_lastFull c_now_grid_marks x1 x2 (-1 : Int32) v4 h4) cv_X7_244 ⟨⟨by decide, by decide⟩, rfl, rfl⟩ 1 rfl rfl [1, 4, 5] rfl rfl rfl rfl (Nat.le_of_ble_eq_true rfl) ⟨Nat.zero_le _, Nat.zero_le _⟩ dX7_from_44 (fun hb4 => ?_)
        refine ww_istore (pc := 47) (lv' := [(4, .int v4), (3, .ref q_now_grid), (0, .ref q_this), (1, .int x1), (2, .int x2)]) C dX7_from_47 (by decide) rfl ?_
        refine ww_aload_n (pc := 49) C dX7_from_49 rfl 1 rfl ?_
        refine ww_iload_n (pc := 50) C dX7_from_50 rfl 3 rfl ?_
        refine ww_iload (pc := 51) C dX7_from_51 0 rfl ?_
        obtain ⟨v5, h5, hf⟩ := bsome hf
        refine ww_callVi0 (pc := 53) (As := [.int x1, .int v4]) (rest := []) C (tX1_beyond l D k q_now_grid q_now_grid_marks c_now_grid_size c_now_grid_full c_now_grid_turns c_now_grid_firstFull c_now_grid_lastFull x1 v4 v5 h5) cv_X7_248 ⟨⟨by decide, by decide⟩, rfl, rfl⟩ 4 rfl rfl [4] rfl rfl rfl rfl (Nat.le_of_ble_eq_true rfl) ⟨Nat.zero_le _, Nat.zero_le _⟩ dX7_from_53 (fun hb5 => ?_)
        refine ww_istore (pc := 56) (lv' := [(5, .int v5), (4, .int v4), (3, .ref q_now_grid), (0, .ref q_this), (1, .int x1), (2, .int x2)]) C dX7_from_56 (by decide) rfl ?_
        refine ww_iload (pc := 58) C dX7_from_58 0 rfl ?_
        refine ww_iconst (pc := 60) C dX7_from_60 kI_m1 ?_
        refine ww_icmp_ne (pc := 61) (tgt := 91) C dX7_from_61 (by decide) (fun hc => ?_) (fun hc => ?_)
        · have hf := ifF hc hf
          refine ww_aload_n (pc := 91) C dX7_from_91 rfl 3 rfl ?_
          refine gf7_4 (pc := 92) C kf_X7_40 0 rfl rfl dX7_from_92 ?_
          refine ww_aload_n (pc := 95) C dX7_from_95 rfl 2 rfl ?_
          refine ww_iload_n (pc := 96) C dX7_from_96 rfl 5 rfl ?_
          refine ww_iload (pc := 97) C dX7_from_97 0 rfl ?_
          refine ww_iload (pc := 99) C dX7_from_99 1 rfl ?_
          obtain ⟨v6, v7, v8, h6, hf⟩ := bd3_some hf
          refine ww_callVv (pc := 101) (ws' := [oX7 q_this q_text q_row q_now q_trial q_doors q_history q_kept, oX0 q_doors q_doors_way q_doors_seen v7 v6 c_doors_longest, aI k q_doors_way 512 v8, oX5 q_now q_now_grid q_now_rule, oX1 q_now_grid q_now_grid_marks c_now_grid_size c_now_grid_full c_now_grid_turns c_now_grid_firstFull c_now_grid_lastFull, aI k q_now_grid_marks 153 c_now_grid_marks, oX3 q_row q_row_numbers c_row_length, aJ k q_row_numbers 16 c_row_numbers]) (As := [.ref q_now_grid, .int x2, .int v5, .int v4]) (rest := []) C (tX0_follow l D k q_doors q_doors_way q_doors_seen q_now_grid q_now_grid_marks c_doors_length c_doors_cameOut c_doors_longest c_doors_way c_now_grid_size c_now_grid_full c_now_grid_turns c_now_grid_firstFull c_now_grid_lastFull c_now_grid_marks x2 v5 v4 v6 v7 v8 h6) cv_X7_257 ⟨⟨by decide, by decide⟩, rfl, rfl⟩ 1 rfl rfl [1, 2, 4, 5] rfl rfl rfl rfl rfl rfl (Nat.le_of_ble_eq_true rfl) ⟨Nat.zero_le _, Nat.zero_le _⟩ dX7_from_101 ?_
          refine ww_aload_n (pc := 104) C dX7_from_104 rfl 3 rfl ?_
          refine gf7_1 (pc := 105) C kf_X7_19 0 rfl rfl dX7_from_105 ?_
          refine ww_aload_n (pc := 108) C dX7_from_108 rfl 3 rfl ?_
          refine gf7_4 (pc := 109) C kf_X7_40 0 rfl rfl dX7_from_109 ?_
          obtain ⟨v9, h9, hf⟩ := bsome hf
          refine ww_callVi0 (pc := 112) (As := []) (rest := [.ref q_row]) C (tX0_last l D k q_doors q_doors_way q_doors_seen v7 v6 c_doors_longest v8 v9 h9) cv_X7_229 ⟨⟨by decide, by decide⟩, rfl, rfl⟩ 1 rfl rfl [1, 2] rfl rfl rfl rfl (Nat.le_of_ble_eq_true rfl) ⟨Nat.zero_le _, Nat.zero_le _⟩ dX7_from_112 (fun hb9 => ?_)
          refine ww_i2l (pc := 115) C dX7_from_115  ?_
          refine ww_aload_n (pc := 116) C dX7_from_116 rfl 3 rfl ?_
          refine gf7_4 (pc := 117) C kf_X7_40 0 rfl rfl dX7_from_117 ?_
          refine ww_aload_n (pc := 120) C dX7_from_120 rfl 2 rfl ?_
          refine ww_iload_n (pc := 121) C dX7_from_121 rfl 5 rfl ?_
          obtain ⟨v10, h10, hf⟩ := bsome hf
          refine ww_callVi0 (pc := 122) (As := [.ref q_now_grid, .int x2]) (rest := [.long ((v9).toInt64), .ref q_row]) C (tX0_outDoor l D k q_doors q_doors_way q_doors_seen q_now_grid q_now_grid_marks v7 v6 c_doors_longest v8 c_now_grid_size c_now_grid_full c_now_grid_turns c_now_grid_firstFull c_now_grid_lastFull c_now_grid_marks x2 v10 h10) cv_X7_232 ⟨⟨by decide, by decide⟩, rfl, rfl⟩ 1 rfl rfl [1, 2, 4, 5] rfl rfl rfl rfl (Nat.le_of_ble_eq_true rfl) ⟨Nat.zero_le _, Nat.zero_le _⟩ dX7_from_122 (fun hb10 => ?_)
          refine ww_i2l (pc := 125) C dX7_from_125  ?_
          obtain ⟨v11, v12, h11, hf⟩ := bd2_some hf
          refine ww_callVv (pc := 126) (ws' := [oX7 q_this q_text q_row q_now q_trial q_doors q_history q_kept, oX0 q_doors q_doors_way q_doors_seen v7 v6 c_doors_longest, aI k q_doors_way 512 v8, oX5 q_now q_now_grid q_now_rule, oX1 q_now_grid q_now_grid_marks c_now_grid_size c_now_grid_full c_now_grid_turns c_now_grid_firstFull c_now_grid_lastFull, aI k q_now_grid_marks 153 c_now_grid_marks, oX3 q_row q_row_numbers v11, aJ k q_row_numbers 16 v12]) (As := [.long ((v9).toInt64), .long ((v10).toInt64)]) (rest := []) C (tX3_tell_ l D k q_row q_row_numbers c_row_length c_row_numbers ((v9).toInt64) ((v10).toInt64) v11 v12 h11) cv_X7_120 ⟨⟨by decide, by decide⟩, rfl, rfl⟩ 6 rfl rfl [6, 7] rfl rfl rfl rfl rfl rfl (Nat.le_of_ble_eq_true rfl) ⟨Nat.zero_le _, Nat.zero_le _⟩ dX7_from_126 ?_
          refine ww_aload_n (pc := 129) C dX7_from_129 rfl 3 rfl ?_
          refine gf7_4 (pc := 130) C kf_X7_40 0 rfl rfl dX7_from_130 ?_
          refine gf0_2 (pc := 133) C kf_X7_236 1 rfl rfl dX7_from_133 ?_
          obtain ⟨e0, e1, e2, e3, e4, e5⟩ := ij6 hf
          exact hret _ _ 136 _ dX7_from_136 rfl e0 (by rw [← e1, ← e2, ← e3, ← e4, ← e5])
        · have hf := ifT hc hf
          refine ww_aload_n (pc := 64) C dX7_from_64 rfl 3 rfl ?_
          refine gf7_1 (pc := 65) C kf_X7_19 0 rfl rfl dX7_from_65 ?_
          refine ww_iload_n (pc := 68) C dX7_from_68 rfl 4 rfl ?_
          refine ww_i2l (pc := 69) C dX7_from_69  ?_
          refine ww_aload_n (pc := 70) C dX7_from_70 rfl 3 rfl ?_
          refine gf7_4 (pc := 71) C kf_X7_40 0 rfl rfl dX7_from_71 ?_
          refine ww_aload_n (pc := 74) C dX7_from_74 rfl 2 rfl ?_
          refine ww_iload_n (pc := 75) C dX7_from_75 rfl 5 rfl ?_
          refine ww_aload_n (pc := 76) C dX7_from_76 rfl 2 rfl ?_
          refine ww_iload_n (pc := 77) C dX7_from_77 rfl 5 rfl ?_
          refine ww_iload_n (pc := 78) C dX7_from_78 rfl 4 rfl ?_
          obtain ⟨v13, h13, hf⟩ := bsome hf
          refine ww_callVi0 (pc := 79) (As := [.int x2, .int x1]) (rest := [.int x2, .ref q_now_grid, .ref q_doors, .long ((x1).toInt64), .ref q_row]) C (tX1_sidePlace l D k q_now_grid q_now_grid_marks c_now_grid_size c_now_grid_full c_now_grid_turns c_now_grid_firstFull c_now_grid_lastFull x2 x1 v13 h13) cv_X7_251 ⟨⟨by decide, by decide⟩, rfl, rfl⟩ 4 rfl rfl [4] rfl rfl rfl rfl (Nat.le_of_ble_eq_true rfl) ⟨Nat.zero_le _, Nat.zero_le _⟩ dX7_from_79 (fun hb13 => ?_)
          obtain ⟨v14, h14, hf⟩ := bsome hf
          refine ww_callVi0 (pc := 82) (As := [.ref q_now_grid, .int x2, .int v13]) (rest := [.long ((x1).toInt64), .ref q_row]) C (tX0_outersBefore l D k q_doors q_doors_way q_doors_seen q_now_grid q_now_grid_marks c_doors_length c_doors_cameOut c_doors_longest c_now_grid_size c_now_grid_full c_now_grid_turns c_now_grid_firstFull c_now_grid_lastFull c_now_grid_marks x2 v13 v14 h14) cv_X7_254 ⟨⟨by decide, by decide⟩, rfl, rfl⟩ 1 rfl rfl [1, 4, 5] rfl rfl rfl rfl (Nat.le_of_ble_eq_true rfl) ⟨Nat.zero_le _, Nat.zero_le _⟩ dX7_from_82 (fun hb14 => ?_)
          refine ww_i2l (pc := 85) C dX7_from_85  ?_
          obtain ⟨v15, v16, h15, hf⟩ := bd2_some hf
          refine ww_callVv (pc := 86) (ws' := [oX7 q_this q_text q_row q_now q_trial q_doors q_history q_kept, oX0 q_doors q_doors_way q_doors_seen c_doors_length c_doors_cameOut c_doors_longest, aI k q_doors_way 512 c_doors_way, oX5 q_now q_now_grid q_now_rule, oX1 q_now_grid q_now_grid_marks c_now_grid_size c_now_grid_full c_now_grid_turns c_now_grid_firstFull c_now_grid_lastFull, aI k q_now_grid_marks 153 c_now_grid_marks, oX3 q_row q_row_numbers v15, aJ k q_row_numbers 16 v16]) (As := [.long ((x1).toInt64), .long ((v14).toInt64)]) (rest := []) C (tX3_tell_ l D k q_row q_row_numbers c_row_length c_row_numbers ((x1).toInt64) ((v14).toInt64) v15 v16 h15) cv_X7_120 ⟨⟨by decide, by decide⟩, rfl, rfl⟩ 6 rfl rfl [6, 7] rfl rfl rfl rfl rfl rfl (Nat.le_of_ble_eq_true rfl) ⟨Nat.zero_le _, Nat.zero_le _⟩ dX7_from_86 ?_
          refine ww_iconst (pc := 89) C dX7_from_89 kI_0 ?_
          obtain ⟨e0, e1, e2, e3, e4, e5⟩ := ij6 hf
          exact hret _ _ 90 _ dX7_from_90 rfl e0 (by rw [← e1, ← e2, ← e3, ← e4, ← e5])
      · have hf := ifT hc hf
        refine ww_bipush (pc := 33) C dX7_from_33 kB_m2 ?_
        obtain ⟨e0, e1, e2, e3, e4, e5⟩ := ij6 hf
        exact hret _ _ 35 _ dX7_from_35 rfl e0 (by rw [← e1, ← e2, ← e3, ← e4, ← e5])
    · have hf := ifT hc hf
      refine ww_iconst (pc := 23) C dX7_from_23 kI_m1 ?_
      obtain ⟨e0, e1, e2, e3, e4, e5⟩ := ij6 hf
      exact hret _ _ 24 _ dX7_from_24 rfl e0 (by rw [← e1, ← e2, ← e3, ← e4, ← e5])
def fX7_hidden_b95 (c_now_grid_size : Int32) (c_now_grid_marks : Nat → Int32) (rc39 : Int32 → Int32 → Int32 → (Nat → Int32) → (Nat → Int32) → Int32 → (Nat → Int64) → Int32 → Int32 → Int32 → Option (Int32 × Int32 × Int32 × Int32 × (Nat → Int32) × (Nat → Int32) × Int32 × (Nat → Int64))) (c_doors_cameOut : Int32) (c_doors_length : Int32) (c_doors_longest : Int32) (c_doors_seen : Nat → Int32) (c_doors_way : Nat → Int32) (c_row_length : Int32) (c_row_numbers : Nat → Int64) (n2 : Int32) (n4 : Int32) (s0 : Int32) : Option (Int32 × Int32 × Int32 × Int32 × (Nat → Int32) × (Nat → Int32) × Int32 × (Nat → Int64)) := (some (n4 + (1 : Int32))).bind fun v1 => rc39 c_doors_cameOut c_doors_length c_doors_longest c_doors_seen c_doors_way c_row_length c_row_numbers n2 s0 v1
def fX7_hidden_b39 (c_now_grid_size : Int32) (c_now_grid_marks : Nat → Int32) (rc39 : Int32 → Int32 → Int32 → (Nat → Int32) → (Nat → Int32) → Int32 → (Nat → Int64) → Int32 → Int32 → Int32 → Option (Int32 × Int32 × Int32 × Int32 × (Nat → Int32) × (Nat → Int32) × Int32 × (Nat → Int64))) (c_doors_cameOut : Int32) (c_doors_length : Int32) (c_doors_longest : Int32) (c_doors_seen : Nat → Int32) (c_doors_way : Nat → Int32) (c_row_length : Int32) (c_row_numbers : Nat → Int64) (n2 : Int32) (n3 : Int32) (n4 : Int32) : Option (Int32 × Int32 × Int32 × Int32 × (Nat → Int32) × (Nat → Int32) × Int32 × (Nat → Int64)) := (fX1_numbers c_now_grid_size).bind fun v1 => if v1 ≤ n4 then bd2 (fX3_tell c_row_length c_row_numbers ((n3).toInt64)) fun v2 v3 => some (n2, c_doors_cameOut, c_doors_length, c_doors_longest, c_doors_seen, c_doors_way, v2, v3) else (fX1_turn c_now_grid_size c_now_grid_marks n4).bind fun v4 => if v4 = 0 then (some (n4 + (1 : Int32))).bind fun v5 => rc39 c_doors_cameOut c_doors_length c_doors_longest c_doors_seen c_doors_way c_row_length c_row_numbers n2 n3 v5 else (fX0_seenBy c_doors_seen n4).bind fun v6 => if v6 = 0 then (some (n2 + (1 : Int32))).bind fun v8 => if n3 = (-1 : Int32) then fX7_hidden_b95 c_now_grid_size c_now_grid_marks rc39 c_doors_cameOut c_doors_length c_doors_longest c_doors_seen c_doors_way c_row_length c_row_numbers v8 n4 n4 else fX7_hidden_b95 c_now_grid_size c_now_grid_marks rc39 c_doors_cameOut c_doors_length c_doors_longest c_doors_seen c_doors_way c_row_length c_row_numbers v8 n4 n3 else (some (n4 + (1 : Int32))).bind fun v7 => rc39 c_doors_cameOut c_doors_length c_doors_longest c_doors_seen c_doors_way c_row_length c_row_numbers n2 n3 v7
def fX7_hidden (c_now_grid_size : Int32) (c_now_grid_marks : Nat → Int32) (c_doors_cameOut : Int32) (c_doors_length : Int32) (c_doors_longest : Int32) (c_doors_seen : Nat → Int32) (c_doors_way : Nat → Int32) (c_row_length : Int32) (c_row_numbers : Nat → Int64) (x1 : Int32) : Option (Int32 × Int32 × Int32 × Int32 × (Nat → Int32) × (Nat → Int32) × Int32 × (Nat → Int64)) := (fX7_isGood x1).bind fun v1 => if v1 = 0 then some ((-1 : Int32), c_doors_cameOut, c_doors_length, c_doors_longest, c_doors_seen, c_doors_way, c_row_length, c_row_numbers) else (fX0_clearSeen c_doors_seen).bind fun v2 => bd6 (fX0_seeWalks c_now_grid_size c_now_grid_marks c_doors_cameOut c_doors_length c_doors_longest v2 c_doors_way x1) fun v3 v4 v5 v6 v7 v8 => lfix (fX7_hidden_b39 c_now_grid_size c_now_grid_marks) (fun _ _ _ _ _ _ _ _ _ _ => none) FU v4 v5 v6 v7 v8 c_row_length c_row_numbers (0 : Int32) (-1 : Int32) (0 : Int32)
set_option maxHeartbeats 4000000 in
set_option maxRecDepth 100000 in
theorem tX7_hidden (l : Launch) (D : va_G) (k : Nat → ClassId) (q_this q_text q_row q_now q_trial q_doors q_history q_kept q_doors_way q_doors_seen q_now_grid q_now_rule q_now_grid_marks q_row_numbers : Nat) (c_doors_length : Int32) (c_doors_cameOut : Int32) (c_doors_longest : Int32) (c_doors_seen : Nat → Int32) (c_doors_way : Nat → Int32) (c_now_grid_size : Int32) (c_now_grid_full : Int32) (c_now_grid_turns : Int32) (c_now_grid_firstFull : Int32) (c_now_grid_lastFull : Int32) (c_now_grid_marks : Nat → Int32) (c_row_length : Int32) (c_row_numbers : Nat → Int64) (x1 : Int32) (r_ : Int32) (w_doors_cameOut : Int32) (w_doors_length : Int32) (w_doors_longest : Int32) (w_doors_seen : Nat → Int32) (w_doors_way : Nat → Int32) (w_row_length : Int32) (w_row_numbers : Nat → Int64) (hf : fX7_hidden c_now_grid_size c_now_grid_marks c_doors_cameOut c_doors_length c_doors_longest c_doors_seen c_doors_way c_row_length c_row_numbers x1 = some (r_, w_doors_cameOut, w_doors_length, w_doors_longest, w_doors_seen, w_doors_way, w_row_length, w_row_numbers)) : MI l yX7_hidden cX7_hidden 5 .int (RM 6 150) D k [.ref q_this, .int x1] [oX7 q_this q_text q_row q_now q_trial q_doors q_history q_kept, oX0 q_doors q_doors_way q_doors_seen c_doors_length c_doors_cameOut c_doors_longest, aI k q_doors_seen 512 c_doors_seen, aI k q_doors_way 512 c_doors_way, oX5 q_now q_now_grid q_now_rule, oX1 q_now_grid q_now_grid_marks c_now_grid_size c_now_grid_full c_now_grid_turns c_now_grid_firstFull c_now_grid_lastFull, aI k q_now_grid_marks 153 c_now_grid_marks, oX3 q_row q_row_numbers c_row_length, aJ k q_row_numbers 16 c_row_numbers] r_ [oX7 q_this q_text q_row q_now q_trial q_doors q_history q_kept, oX0 q_doors q_doors_way q_doors_seen w_doors_length w_doors_cameOut w_doors_longest, aI k q_doors_seen 512 w_doors_seen, aI k q_doors_way 512 w_doors_way, oX5 q_now q_now_grid q_now_rule, oX1 q_now_grid q_now_grid_marks c_now_grid_size c_now_grid_full c_now_grid_turns c_now_grid_firstFull c_now_grid_lastFull, aI k q_now_grid_marks 153 c_now_grid_marks, oX3 q_row q_row_numbers w_row_length, aJ k q_row_numbers 16 w_row_numbers] := by
  refine mkMI' (own := "DoorWalk") (by decide) rfl (Nat.le_of_ble_eq_true rfl) ?_
  intro p e s m args below meth c Q A hret C
  refine ww_lv (lv' := [(0, .ref q_this), (1, .int x1)]) [0, 1] rfl ?_
  have hL39 : ∀ (n : Nat) (c_doors_cameOut : Int32) (c_doors_length : Int32) (c_doors_longest : Int32) (c_doors_seen : Nat → Int32) (c_doors_way : Nat → Int32) (c_row_length : Int32) (c_row_numbers : Nat → Int64) (n2 : Int32) (n3 : Int32) (n4 : Int32), lfix (fX7_hidden_b39 c_now_grid_size c_now_grid_marks) (fun _ _ _ _ _ _ _ _ _ _ => none) n c_doors_cameOut c_doors_length c_doors_longest c_doors_seen c_doors_way c_row_length c_row_numbers n2 n3 n4 = some (r_, w_doors_cameOut, w_doors_length, w_doors_longest, w_doors_seen, w_doors_way, w_row_length, w_row_numbers) → WW p l e (RM 6 150) s m args below meth c Q 5 D A 0 0 [oX7 q_this q_text q_row q_now q_trial q_doors q_history q_kept, oX0 q_doors q_doors_way q_doors_seen c_doors_length c_doors_cameOut c_doors_longest, aI k q_doors_seen 512 c_doors_seen, aI k q_doors_way 512 c_doors_way, oX5 q_now q_now_grid q_now_rule, oX1 q_now_grid q_now_grid_marks c_now_grid_size c_now_grid_full c_now_grid_turns c_now_grid_firstFull c_now_grid_lastFull, aI k q_now_grid_marks 153 c_now_grid_marks, oX3 q_row q_row_numbers c_row_length, aJ k q_row_numbers 16 c_row_numbers] [(0, .ref q_this), (2, .int n2), (3, .int n3), (4, .int n4)] 39 [] := by
    intro n
    induction n with
    | zero => intro c_doors_cameOut c_doors_length c_doors_longest c_doors_seen c_doors_way c_row_length c_row_numbers n2 n3 n4 hf; cases hf
    | succ n ih39 =>
      obtain ⟨rc39, hrc39⟩ : ∃ f9, f9 = lfix (fX7_hidden_b39 c_now_grid_size c_now_grid_marks) (fun _ _ _ _ _ _ _ _ _ _ => none) n := ⟨_, rfl⟩
      rw [← hrc39] at ih39
      have hJ95 : ∀ (c_doors_cameOut : Int32) (c_doors_length : Int32) (c_doors_longest : Int32) (c_doors_seen : Nat → Int32) (c_doors_way : Nat → Int32) (c_row_length : Int32) (c_row_numbers : Nat → Int64) (n2 : Int32) (n4 : Int32) (s0 : Int32), fX7_hidden_b95 c_now_grid_size c_now_grid_marks rc39 c_doors_cameOut c_doors_length c_doors_longest c_doors_seen c_doors_way c_row_length c_row_numbers n2 n4 s0 = some (r_, w_doors_cameOut, w_doors_length, w_doors_longest, w_doors_seen, w_doors_way, w_row_length, w_row_numbers) → WW p l e (RM 6 150) s m args below meth c Q 5 D A 0 0 [oX7 q_this q_text q_row q_now q_trial q_doors q_history q_kept, oX0 q_doors q_doors_way q_doors_seen c_doors_length c_doors_cameOut c_doors_longest, aI k q_doors_seen 512 c_doors_seen, aI k q_doors_way 512 c_doors_way, oX5 q_now q_now_grid q_now_rule, oX1 q_now_grid q_now_grid_marks c_now_grid_size c_now_grid_full c_now_grid_turns c_now_grid_firstFull c_now_grid_lastFull, aI k q_now_grid_marks 153 c_now_grid_marks, oX3 q_row q_row_numbers c_row_length, aJ k q_row_numbers 16 c_row_numbers] [(0, .ref q_this), (2, .int n2), (4, .int n4)] 95 [.int s0] := by
        intro c_doors_cameOut c_doors_length c_doors_longest c_doors_seen c_doors_way c_row_length c_row_numbers n2 n4 s0
        intro hf
        unfold fX7_hidden_b95 at hf
        refine ww_istore_n (pc := 95) (lv' := [(3, .int s0), (0, .ref q_this), (2, .int n2), (4, .int n4)]) C dX7_hidden_95 rfl (by decide) rfl ?_
        obtain ⟨v1, h1, hf⟩ := bsome hf
        refine ww_iincN (pc := 96) (lv' := [(4, .int v1), (3, .int s0), (0, .ref q_this), (2, .int n2)]) (j := 3) C dX7_hidden_96 kI_1 rfl h1 (by decide) rfl ?_
        refine ww_goto (pc := 99) (tgt := 39) C dX7_hidden_99 (by decide) ?_
        exact ww_lv [2, 3, 1, 0] rfl (ih39 c_doors_cameOut c_doors_length c_doors_longest c_doors_seen c_doors_way c_row_length c_row_numbers n2 s0 v1 hf)
      intro c_doors_cameOut c_doors_length c_doors_longest c_doors_seen c_doors_way c_row_length c_row_numbers n2 n3 n4 hf
      have hf : fX7_hidden_b39 c_now_grid_size c_now_grid_marks rc39 c_doors_cameOut c_doors_length c_doors_longest c_doors_seen c_doors_way c_row_length c_row_numbers n2 n3 n4 = some (r_, w_doors_cameOut, w_doors_length, w_doors_longest, w_doors_seen, w_doors_way, w_row_length, w_row_numbers) := by rw [hrc39]; exact hf
      unfold fX7_hidden_b39 at hf
      refine ww_iload (pc := 39) C dX7_hidden_39 3 rfl ?_
      refine ww_aload_n (pc := 41) C dX7_hidden_41 rfl 0 rfl ?_
      refine gf7_2 (pc := 42) C kf_X7_26 0 rfl rfl dX7_hidden_42 ?_
      refine gf5_0 (pc := 45) C kf_X7_74 4 rfl rfl dX7_hidden_45 ?_
      obtain ⟨v1, h1, hf⟩ := bsome hf
      refine ww_callVi0 (pc := 48) (As := []) (rest := [.int n4]) C (tX1_numbers l D k q_now_grid q_now_grid_marks c_now_grid_size c_now_grid_full c_now_grid_turns c_now_grid_firstFull c_now_grid_lastFull v1 h1) cv_X7_189 ⟨⟨by decide, by decide⟩, rfl, rfl⟩ 5 rfl rfl [5] rfl rfl rfl rfl (Nat.le_of_ble_eq_true rfl) ⟨Nat.zero_le _, Nat.zero_le _⟩ dX7_hidden_48 (fun hb1 => ?_)
      refine ww_icmp_ge (pc := 51) (tgt := 102) C dX7_hidden_51 (by decide) (fun hc => ?_) (fun hc => ?_)
      · have hf := ifT hc hf
        refine ww_aload_n (pc := 102) C dX7_hidden_102 rfl 0 rfl ?_
        refine gf7_1 (pc := 103) C kf_X7_19 0 rfl rfl dX7_hidden_103 ?_
        refine ww_iload_n (pc := 106) C dX7_hidden_106 rfl 2 rfl ?_
        refine ww_i2l (pc := 107) C dX7_hidden_107  ?_
        obtain ⟨v2, v3, h2, hf⟩ := bd2_some hf
        refine ww_callVv (pc := 108) (ws' := [oX7 q_this q_text q_row q_now q_trial q_doors q_history q_kept, oX0 q_doors q_doors_way q_doors_seen c_doors_length c_doors_cameOut c_doors_longest, aI k q_doors_seen 512 c_doors_seen, aI k q_doors_way 512 c_doors_way, oX5 q_now q_now_grid q_now_rule, oX1 q_now_grid q_now_grid_marks c_now_grid_size c_now_grid_full c_now_grid_turns c_now_grid_firstFull c_now_grid_lastFull, aI k q_now_grid_marks 153 c_now_grid_marks, oX3 q_row q_row_numbers v2, aJ k q_row_numbers 16 v3]) (As := [.long ((n3).toInt64)]) (rest := []) C (tX3_tell l D k q_row q_row_numbers c_row_length c_row_numbers ((n3).toInt64) v2 v3 h2) cv_X7_186 ⟨⟨by decide, by decide⟩, rfl, rfl⟩ 7 rfl rfl [7, 8] rfl rfl rfl rfl rfl rfl (Nat.le_of_ble_eq_true rfl) ⟨Nat.zero_le _, Nat.zero_le _⟩ dX7_hidden_108 ?_
        refine ww_iload_n (pc := 111) C dX7_hidden_111 rfl 1 rfl ?_
        obtain ⟨e0, e1, e2, e3, e4, e5, e6, e7⟩ := ij8 hf
        exact hret _ _ 112 _ dX7_hidden_112 rfl e0 (by rw [← e1, ← e2, ← e3, ← e4, ← e5, ← e6, ← e7])
      · have hf := ifF hc hf
        refine ww_aload_n (pc := 54) C dX7_hidden_54 rfl 0 rfl ?_
        refine gf7_2 (pc := 55) C kf_X7_26 0 rfl rfl dX7_hidden_55 ?_
        refine gf5_0 (pc := 58) C kf_X7_74 4 rfl rfl dX7_hidden_58 ?_
        refine ww_iload (pc := 61) C dX7_hidden_61 3 rfl ?_
        obtain ⟨v4, h4, hf⟩ := bsome hf
        refine ww_callVi0 (pc := 63) (As := [.int n4]) (rest := []) C (tX1_turn l D k q_now_grid q_now_grid_marks c_now_grid_size c_now_grid_full c_now_grid_turns c_now_grid_firstFull c_now_grid_lastFull c_now_grid_marks n4 v4 h4) cv_X7_159 ⟨⟨by decide, by decide⟩, rfl, rfl⟩ 5 rfl rfl [5, 6] rfl rfl rfl rfl (Nat.le_of_ble_eq_true rfl) ⟨Nat.zero_le _, Nat.zero_le _⟩ dX7_hidden_63 (fun hb4 => ?_)
        refine ww_if_eq (pc := 66) (tgt := 96) C dX7_hidden_66 (by decide) (fun hc => ?_) (fun hc => ?_)
        · have hf := ifT hc hf
          obtain ⟨v5, h5, hf⟩ := bsome hf
          refine ww_iincN (pc := 96) (lv' := [(4, .int v5), (0, .ref q_this), (2, .int n2), (3, .int n3)]) (j := 3) C dX7_hidden_96 kI_1 rfl h5 (by decide) rfl ?_
          refine ww_goto (pc := 99) (tgt := 39) C dX7_hidden_99 (by decide) ?_
          exact ww_lv [1, 2, 3, 0] rfl (ih39 c_doors_cameOut c_doors_length c_doors_longest c_doors_seen c_doors_way c_row_length c_row_numbers n2 n3 v5 hf)
        · have hf := ifF hc hf
          refine ww_aload_n (pc := 69) C dX7_hidden_69 rfl 0 rfl ?_
          refine gf7_4 (pc := 70) C kf_X7_40 0 rfl rfl dX7_hidden_70 ?_
          refine ww_iload (pc := 73) C dX7_hidden_73 3 rfl ?_
          obtain ⟨v6, h6, hf⟩ := bsome hf
          refine ww_callVi0 (pc := 75) (As := [.int n4]) (rest := []) C (tX0_seenBy l D k q_doors q_doors_way q_doors_seen c_doors_length c_doors_cameOut c_doors_longest c_doors_seen n4 v6 h6) cv_X7_267 ⟨⟨by decide, by decide⟩, rfl, rfl⟩ 1 rfl rfl [1, 2] rfl rfl rfl rfl (Nat.le_of_ble_eq_true rfl) ⟨Nat.zero_le _, Nat.zero_le _⟩ dX7_hidden_75 (fun hb6 => ?_)
          refine ww_if_ne (pc := 78) (tgt := 96) C dX7_hidden_78 (by decide) (fun hc => ?_) (fun hc => ?_)
          · have hf := ifF hc hf
            obtain ⟨v7, h7, hf⟩ := bsome hf
            refine ww_iincN (pc := 96) (lv' := [(4, .int v7), (0, .ref q_this), (2, .int n2), (3, .int n3)]) (j := 3) C dX7_hidden_96 kI_1 rfl h7 (by decide) rfl ?_
            refine ww_goto (pc := 99) (tgt := 39) C dX7_hidden_99 (by decide) ?_
            exact ww_lv [1, 2, 3, 0] rfl (ih39 c_doors_cameOut c_doors_length c_doors_longest c_doors_seen c_doors_way c_row_length c_row_numbers n2 n3 v7 hf)
          · have hf := ifT hc hf
            obtain ⟨v8, h8, hf⟩ := bsome hf
            refine ww_iincN (pc := 81) (lv' := [(2, .int v8), (0, .ref q_this), (3, .int n3), (4, .int n4)]) (j := 1) C dX7_hidden_81 kI_1 rfl h8 (by decide) rfl ?_
            refine ww_iload_n (pc := 84) C dX7_hidden_84 rfl 2 rfl ?_
            refine ww_iconst (pc := 85) C dX7_hidden_85 kI_m1 ?_
            refine ww_icmp_ne (pc := 86) (tgt := 94) C dX7_hidden_86 (by decide) (fun hc => ?_) (fun hc => ?_)
            · have hf := ifF hc hf
              refine ww_iload_n (pc := 94) C dX7_hidden_94 rfl 2 rfl ?_
              exact ww_lv [1, 0, 3] rfl (hJ95 c_doors_cameOut c_doors_length c_doors_longest c_doors_seen c_doors_way c_row_length c_row_numbers v8 n4 n3 hf)
            · have hf := ifT hc hf
              refine ww_iload (pc := 89) C dX7_hidden_89 3 rfl ?_
              refine ww_goto (pc := 91) (tgt := 95) C dX7_hidden_91 (by decide) ?_
              exact ww_lv [1, 0, 3] rfl (hJ95 c_doors_cameOut c_doors_length c_doors_longest c_doors_seen c_doors_way c_row_length c_row_numbers v8 n4 n4 hf)
  unfold fX7_hidden at hf
  refine ww_iload_n (pc := 0) C dX7_hidden_0 rfl 1 rfl ?_
  obtain ⟨v1, h1, hf⟩ := bsome hf
  refine ww_callSi0 (pc := 1) (As := [.int x1]) (rest := []) C (tX7_isGood l D k x1 v1 h1) cs_X7_195 ⟨⟨by decide, by decide⟩, rfl, rfl⟩ [] rfl rfl rfl rfl (Nat.le_of_ble_eq_true rfl) ⟨Nat.zero_le _, Nat.zero_le _⟩ dX7_hidden_1 (fun hb1 => ?_)
  refine ww_if_ne (pc := 4) (tgt := 9) C dX7_hidden_4 (by decide) (fun hc => ?_) (fun hc => ?_)
  · have hf := ifF hc hf
    refine ww_aload_n (pc := 9) C dX7_hidden_9 rfl 0 rfl ?_
    refine gf7_4 (pc := 10) C kf_X7_40 0 rfl rfl dX7_hidden_10 ?_
    obtain ⟨v2, h2, hf⟩ := bsome hf
    refine ww_callVv (pc := 13) (ws' := [oX7 q_this q_text q_row q_now q_trial q_doors q_history q_kept, oX0 q_doors q_doors_way q_doors_seen c_doors_length c_doors_cameOut c_doors_longest, aI k q_doors_seen 512 v2, aI k q_doors_way 512 c_doors_way, oX5 q_now q_now_grid q_now_rule, oX1 q_now_grid q_now_grid_marks c_now_grid_size c_now_grid_full c_now_grid_turns c_now_grid_firstFull c_now_grid_lastFull, aI k q_now_grid_marks 153 c_now_grid_marks, oX3 q_row q_row_numbers c_row_length, aJ k q_row_numbers 16 c_row_numbers]) (As := []) (rest := []) C (tX0_clearSeen l D k q_doors q_doors_way q_doors_seen c_doors_length c_doors_cameOut c_doors_longest c_doors_seen v2 h2) cv_X7_261 ⟨⟨by decide, by decide⟩, rfl, rfl⟩ 1 rfl rfl [1, 2] rfl rfl rfl rfl rfl rfl (Nat.le_of_ble_eq_true rfl) ⟨Nat.zero_le _, Nat.zero_le _⟩ dX7_hidden_13 ?_
    refine ww_aload_n (pc := 16) C dX7_hidden_16 rfl 0 rfl ?_
    refine gf7_4 (pc := 17) C kf_X7_40 0 rfl rfl dX7_hidden_17 ?_
    refine ww_aload_n (pc := 20) C dX7_hidden_20 rfl 0 rfl ?_
    refine gf7_2 (pc := 21) C kf_X7_26 0 rfl rfl dX7_hidden_21 ?_
    refine gf5_0 (pc := 24) C kf_X7_74 4 rfl rfl dX7_hidden_24 ?_
    refine ww_iload_n (pc := 27) C dX7_hidden_27 rfl 1 rfl ?_
    obtain ⟨v3, v4, v5, v6, v7, v8, h3, hf⟩ := bd6_some hf
    refine ww_callVi (pc := 28) (ws' := [oX7 q_this q_text q_row q_now q_trial q_doors q_history q_kept, oX0 q_doors q_doors_way q_doors_seen v5 v4 v6, aI k q_doors_seen 512 v7, aI k q_doors_way 512 v8, oX5 q_now q_now_grid q_now_rule, oX1 q_now_grid q_now_grid_marks c_now_grid_size c_now_grid_full c_now_grid_turns c_now_grid_firstFull c_now_grid_lastFull, aI k q_now_grid_marks 153 c_now_grid_marks, oX3 q_row q_row_numbers c_row_length, aJ k q_row_numbers 16 c_row_numbers]) (As := [.ref q_now_grid, .int x1]) (rest := []) C (tX0_seeWalks l D k q_doors q_doors_way q_doors_seen q_now_grid q_now_grid_marks c_doors_length c_doors_cameOut c_doors_longest v2 c_doors_way c_now_grid_size c_now_grid_full c_now_grid_turns c_now_grid_firstFull c_now_grid_lastFull c_now_grid_marks x1 v3 v4 v5 v6 v7 v8 h3) cv_X7_264 ⟨⟨by decide, by decide⟩, rfl, rfl⟩ 1 rfl rfl [1, 2, 3, 5, 6] rfl rfl rfl rfl rfl rfl (Nat.le_of_ble_eq_true rfl) ⟨Nat.zero_le _, Nat.zero_le _⟩ dX7_hidden_28 (fun hb3 => ?_)
    refine ww_pop (pc := 31) C dX7_hidden_31 rfl ?_
    refine ww_iconst (pc := 32) C dX7_hidden_32 kI_0 ?_
    refine ww_istore_n (pc := 33) (lv' := [(2, .int (0 : Int32)), (0, .ref q_this), (1, .int x1)]) C dX7_hidden_33 rfl (by decide) rfl ?_
    refine ww_iconst (pc := 34) C dX7_hidden_34 kI_m1 ?_
    refine ww_istore_n (pc := 35) (lv' := [(3, .int (-1 : Int32)), (2, .int (0 : Int32)), (0, .ref q_this), (1, .int x1)]) C dX7_hidden_35 rfl (by decide) rfl ?_
    refine ww_iconst (pc := 36) C dX7_hidden_36 kI_0 ?_
    refine ww_istore (pc := 37) (lv' := [(4, .int (0 : Int32)), (3, .int (-1 : Int32)), (2, .int (0 : Int32)), (0, .ref q_this), (1, .int x1)]) C dX7_hidden_37 (by decide) rfl ?_
    exact ww_lv [3, 2, 1, 0] rfl (hL39 FU v4 v5 v6 v7 v8 c_row_length c_row_numbers (0 : Int32) (-1 : Int32) (0 : Int32) hf)
  · have hf := ifT hc hf
    refine ww_iconst (pc := 7) C dX7_hidden_7 kI_m1 ?_
    obtain ⟨e0, e1, e2, e3, e4, e5, e6, e7⟩ := ij8 hf
    exact hret _ _ 8 _ dX7_hidden_8 rfl e0 (by rw [← e1, ← e2, ← e3, ← e4, ← e5, ← e6, ← e7])
def fX7_longest_b93 (c_now_grid_size : Int32) (c_now_grid_marks : Nat → Int32) (rc45 : Int32 → Int32 → Int32 → (Nat → Int32) → (Nat → Int32) → Int32 → (Nat → Int64) → Int32 → Int32 → Int32 → Option (Int32 × Int32 × Int32 × Int32 × (Nat → Int32) × (Nat → Int32) × Int32 × (Nat → Int64))) (c_doors_cameOut : Int32) (c_doors_length : Int32) (c_doors_longest : Int32) (c_doors_seen : Nat → Int32) (c_doors_way : Nat → Int32) (c_row_length : Int32) (c_row_numbers : Nat → Int64) (n2 : Int32) (n4 : Int32) (s0 : Int32) (s1 : Int32) : Option (Int32 × Int32 × Int32 × Int32 × (Nat → Int32) × (Nat → Int32) × Int32 × (Nat → Int64)) := (some (s0 + s1)).bind fun v1 => (some (n4 + (1 : Int32))).bind fun v2 => rc45 c_doors_cameOut c_doors_length c_doors_longest c_doors_seen c_doors_way c_row_length c_row_numbers n2 v1 v2
def fX7_longest_b92 (c_now_grid_size : Int32) (c_now_grid_marks : Nat → Int32) (rc45 : Int32 → Int32 → Int32 → (Nat → Int32) → (Nat → Int32) → Int32 → (Nat → Int64) → Int32 → Int32 → Int32 → Option (Int32 × Int32 × Int32 × Int32 × (Nat → Int32) × (Nat → Int32) × Int32 × (Nat → Int64))) (c_doors_cameOut : Int32) (c_doors_length : Int32) (c_doors_longest : Int32) (c_doors_seen : Nat → Int32) (c_doors_way : Nat → Int32) (c_row_length : Int32) (c_row_numbers : Nat → Int64) (n2 : Int32) (n4 : Int32) (s0 : Int32) : Option (Int32 × Int32 × Int32 × Int32 × (Nat → Int32) × (Nat → Int32) × Int32 × (Nat → Int64)) := fX7_longest_b93 c_now_grid_size c_now_grid_marks rc45 c_doors_cameOut c_doors_length c_doors_longest c_doors_seen c_doors_way c_row_length c_row_numbers n2 n4 s0 (0 : Int32)
def fX7_longest_b45 (c_now_grid_size : Int32) (c_now_grid_marks : Nat → Int32) (rc45 : Int32 → Int32 → Int32 → (Nat → Int32) → (Nat → Int32) → Int32 → (Nat → Int64) → Int32 → Int32 → Int32 → Option (Int32 × Int32 × Int32 × Int32 × (Nat → Int32) × (Nat → Int32) × Int32 × (Nat → Int64))) (c_doors_cameOut : Int32) (c_doors_length : Int32) (c_doors_longest : Int32) (c_doors_seen : Nat → Int32) (c_doors_way : Nat → Int32) (c_row_length : Int32) (c_row_numbers : Nat → Int64) (n2 : Int32) (n3 : Int32) (n4 : Int32) : Option (Int32 × Int32 × Int32 × Int32 × (Nat → Int32) × (Nat → Int32) × Int32 × (Nat → Int64)) := (fX1_numbers c_now_grid_size).bind fun v1 => if v1 ≤ n4 then bd2 (fX3_tell_ c_row_length c_row_numbers ((c_doors_longest).toInt64) ((n3).toInt64)) fun v2 v3 => some (n2, c_doors_cameOut, c_doors_length, c_doors_longest, c_doors_seen, c_doors_way, v2, v3) else (fX1_isCell c_now_grid_size n4).bind fun v4 => if v4 = 0 then fX7_longest_b92 c_now_grid_size c_now_grid_marks rc45 c_doors_cameOut c_doors_length c_doors_longest c_doors_seen c_doors_way c_row_length c_row_numbers n2 n4 n3 else (fX0_seenBy c_doors_seen n4).bind fun v5 => if v5 = 0 then fX7_longest_b93 c_now_grid_size c_now_grid_marks rc45 c_doors_cameOut c_doors_length c_doors_longest c_doors_seen c_doors_way c_row_length c_row_numbers n2 n4 n3 (1 : Int32) else fX7_longest_b92 c_now_grid_size c_now_grid_marks rc45 c_doors_cameOut c_doors_length c_doors_longest c_doors_seen c_doors_way c_row_length c_row_numbers n2 n4 n3
def fX7_longest (c_now_grid_size : Int32) (c_now_grid_marks : Nat → Int32) (c_doors_cameOut : Int32) (c_doors_length : Int32) (c_doors_longest : Int32) (c_doors_seen : Nat → Int32) (c_doors_way : Nat → Int32) (c_row_length : Int32) (c_row_numbers : Nat → Int64) (x1 : Int32) : Option (Int32 × Int32 × Int32 × Int32 × (Nat → Int32) × (Nat → Int32) × Int32 × (Nat → Int64)) := (fX7_isGood x1).bind fun v1 => if v1 = 0 then some ((-1 : Int32), c_doors_cameOut, c_doors_length, c_doors_longest, c_doors_seen, c_doors_way, c_row_length, c_row_numbers) else (fX0_clearSeen c_doors_seen).bind fun v2 => bd6 (fX0_seeWalks c_now_grid_size c_now_grid_marks c_doors_cameOut c_doors_length c_doors_longest v2 c_doors_way x1) fun v3 v4 v5 v6 v7 v8 => if v3 = (-1 : Int32) then some ((-2 : Int32), v4, v5, v6, v7, v8, c_row_length, c_row_numbers) else lfix (fX7_longest_b45 c_now_grid_size c_now_grid_marks) (fun _ _ _ _ _ _ _ _ _ _ => none) FU v4 v5 v6 v7 v8 c_row_length c_row_numbers v3 (0 : Int32) (0 : Int32)
set_option maxHeartbeats 4000000 in
set_option maxRecDepth 100000 in
theorem tX7_longest (l : Launch) (D : va_G) (k : Nat → ClassId) (q_this q_text q_row q_now q_trial q_doors q_history q_kept q_doors_way q_doors_seen q_now_grid q_now_rule q_now_grid_marks q_row_numbers : Nat) (c_doors_length : Int32) (c_doors_cameOut : Int32) (c_doors_longest : Int32) (c_doors_seen : Nat → Int32) (c_doors_way : Nat → Int32) (c_now_grid_size : Int32) (c_now_grid_full : Int32) (c_now_grid_turns : Int32) (c_now_grid_firstFull : Int32) (c_now_grid_lastFull : Int32) (c_now_grid_marks : Nat → Int32) (c_row_length : Int32) (c_row_numbers : Nat → Int64) (x1 : Int32) (r_ : Int32) (w_doors_cameOut : Int32) (w_doors_length : Int32) (w_doors_longest : Int32) (w_doors_seen : Nat → Int32) (w_doors_way : Nat → Int32) (w_row_length : Int32) (w_row_numbers : Nat → Int64) (hf : fX7_longest c_now_grid_size c_now_grid_marks c_doors_cameOut c_doors_length c_doors_longest c_doors_seen c_doors_way c_row_length c_row_numbers x1 = some (r_, w_doors_cameOut, w_doors_length, w_doors_longest, w_doors_seen, w_doors_way, w_row_length, w_row_numbers)) : MI l yX7_longest cX7_longest 5 .int (RM 6 150) D k [.ref q_this, .int x1] [oX7 q_this q_text q_row q_now q_trial q_doors q_history q_kept, oX0 q_doors q_doors_way q_doors_seen c_doors_length c_doors_cameOut c_doors_longest, aI k q_doors_seen 512 c_doors_seen, aI k q_doors_way 512 c_doors_way, oX5 q_now q_now_grid q_now_rule, oX1 q_now_grid q_now_grid_marks c_now_grid_size c_now_grid_full c_now_grid_turns c_now_grid_firstFull c_now_grid_lastFull, aI k q_now_grid_marks 153 c_now_grid_marks, oX3 q_row q_row_numbers c_row_length, aJ k q_row_numbers 16 c_row_numbers] r_ [oX7 q_this q_text q_row q_now q_trial q_doors q_history q_kept, oX0 q_doors q_doors_way q_doors_seen w_doors_length w_doors_cameOut w_doors_longest, aI k q_doors_seen 512 w_doors_seen, aI k q_doors_way 512 w_doors_way, oX5 q_now q_now_grid q_now_rule, oX1 q_now_grid q_now_grid_marks c_now_grid_size c_now_grid_full c_now_grid_turns c_now_grid_firstFull c_now_grid_lastFull, aI k q_now_grid_marks 153 c_now_grid_marks, oX3 q_row q_row_numbers w_row_length, aJ k q_row_numbers 16 w_row_numbers] := by
  refine mkMI' (own := "DoorWalk") (by decide) rfl (Nat.le_of_ble_eq_true rfl) ?_
  intro p e s m args below meth c Q A hret C
  refine ww_lv (lv' := [(0, .ref q_this), (1, .int x1)]) [0, 1] rfl ?_
  have hL45 : ∀ (n : Nat) (c_doors_cameOut : Int32) (c_doors_length : Int32) (c_doors_longest : Int32) (c_doors_seen : Nat → Int32) (c_doors_way : Nat → Int32) (c_row_length : Int32) (c_row_numbers : Nat → Int64) (n2 : Int32) (n3 : Int32) (n4 : Int32), lfix (fX7_longest_b45 c_now_grid_size c_now_grid_marks) (fun _ _ _ _ _ _ _ _ _ _ => none) n c_doors_cameOut c_doors_length c_doors_longest c_doors_seen c_doors_way c_row_length c_row_numbers n2 n3 n4 = some (r_, w_doors_cameOut, w_doors_length, w_doors_longest, w_doors_seen, w_doors_way, w_row_length, w_row_numbers) → WW p l e (RM 6 150) s m args below meth c Q 5 D A 0 0 [oX7 q_this q_text q_row q_now q_trial q_doors q_history q_kept, oX0 q_doors q_doors_way q_doors_seen c_doors_length c_doors_cameOut c_doors_longest, aI k q_doors_seen 512 c_doors_seen, aI k q_doors_way 512 c_doors_way, oX5 q_now q_now_grid q_now_rule, oX1 q_now_grid q_now_grid_marks c_now_grid_size c_now_grid_full c_now_grid_turns c_now_grid_firstFull c_now_grid_lastFull, aI k q_now_grid_marks 153 c_now_grid_marks, oX3 q_row q_row_numbers c_row_length, aJ k q_row_numbers 16 c_row_numbers] [(0, .ref q_this), (2, .int n2), (3, .int n3), (4, .int n4)] 45 [] := by
    intro n
    induction n with
    | zero => intro c_doors_cameOut c_doors_length c_doors_longest c_doors_seen c_doors_way c_row_length c_row_numbers n2 n3 n4 hf; cases hf
    | succ n ih45 =>
      obtain ⟨rc45, hrc45⟩ : ∃ f9, f9 = lfix (fX7_longest_b45 c_now_grid_size c_now_grid_marks) (fun _ _ _ _ _ _ _ _ _ _ => none) n := ⟨_, rfl⟩
      rw [← hrc45] at ih45
      have hJ93 : ∀ (c_doors_cameOut : Int32) (c_doors_length : Int32) (c_doors_longest : Int32) (c_doors_seen : Nat → Int32) (c_doors_way : Nat → Int32) (c_row_length : Int32) (c_row_numbers : Nat → Int64) (n2 : Int32) (n4 : Int32) (s0 : Int32) (s1 : Int32), fX7_longest_b93 c_now_grid_size c_now_grid_marks rc45 c_doors_cameOut c_doors_length c_doors_longest c_doors_seen c_doors_way c_row_length c_row_numbers n2 n4 s0 s1 = some (r_, w_doors_cameOut, w_doors_length, w_doors_longest, w_doors_seen, w_doors_way, w_row_length, w_row_numbers) → WW p l e (RM 6 150) s m args below meth c Q 5 D A 0 0 [oX7 q_this q_text q_row q_now q_trial q_doors q_history q_kept, oX0 q_doors q_doors_way q_doors_seen c_doors_length c_doors_cameOut c_doors_longest, aI k q_doors_seen 512 c_doors_seen, aI k q_doors_way 512 c_doors_way, oX5 q_now q_now_grid q_now_rule, oX1 q_now_grid q_now_grid_marks c_now_grid_size c_now_grid_full c_now_grid_turns c_now_grid_firstFull c_now_grid_lastFull, aI k q_now_grid_marks 153 c_now_grid_marks, oX3 q_row q_row_numbers c_row_length, aJ k q_row_numbers 16 c_row_numbers] [(0, .ref q_this), (2, .int n2), (4, .int n4)] 93 [.int s1, .int s0] := by
        intro c_doors_cameOut c_doors_length c_doors_longest c_doors_seen c_doors_way c_row_length c_row_numbers n2 n4 s0 s1
        intro hf
        unfold fX7_longest_b93 at hf
        refine ww_iadd (pc := 93) C dX7_longest_93  ?_
        obtain ⟨v1, h1, hf⟩ := bsome hf
        refine ww_nmi h1 ?_
        refine ww_istore_n (pc := 94) (lv' := [(3, .int v1), (0, .ref q_this), (2, .int n2), (4, .int n4)]) C dX7_longest_94 rfl (by decide) rfl ?_
        obtain ⟨v2, h2, hf⟩ := bsome hf
        refine ww_iincN (pc := 95) (lv' := [(4, .int v2), (3, .int v1), (0, .ref q_this), (2, .int n2)]) (j := 3) C dX7_longest_95 kI_1 rfl h2 (by decide) rfl ?_
        refine ww_goto (pc := 98) (tgt := 45) C dX7_longest_98 (by decide) ?_
        exact ww_lv [2, 3, 1, 0] rfl (ih45 c_doors_cameOut c_doors_length c_doors_longest c_doors_seen c_doors_way c_row_length c_row_numbers n2 v1 v2 hf)
      have hJ92 : ∀ (c_doors_cameOut : Int32) (c_doors_length : Int32) (c_doors_longest : Int32) (c_doors_seen : Nat → Int32) (c_doors_way : Nat → Int32) (c_row_length : Int32) (c_row_numbers : Nat → Int64) (n2 : Int32) (n4 : Int32) (s0 : Int32), fX7_longest_b92 c_now_grid_size c_now_grid_marks rc45 c_doors_cameOut c_doors_length c_doors_longest c_doors_seen c_doors_way c_row_length c_row_numbers n2 n4 s0 = some (r_, w_doors_cameOut, w_doors_length, w_doors_longest, w_doors_seen, w_doors_way, w_row_length, w_row_numbers) → WW p l e (RM 6 150) s m args below meth c Q 5 D A 0 0 [oX7 q_this q_text q_row q_now q_trial q_doors q_history q_kept, oX0 q_doors q_doors_way q_doors_seen c_doors_length c_doors_cameOut c_doors_longest, aI k q_doors_seen 512 c_doors_seen, aI k q_doors_way 512 c_doors_way, oX5 q_now q_now_grid q_now_rule, oX1 q_now_grid q_now_grid_marks c_now_grid_size c_now_grid_full c_now_grid_turns c_now_grid_firstFull c_now_grid_lastFull, aI k q_now_grid_marks 153 c_now_grid_marks, oX3 q_row q_row_numbers c_row_length, aJ k q_row_numbers 16 c_row_numbers] [(0, .ref q_this), (2, .int n2), (4, .int n4)] 92 [.int s0] := by
        intro c_doors_cameOut c_doors_length c_doors_longest c_doors_seen c_doors_way c_row_length c_row_numbers n2 n4 s0
        intro hf
        unfold fX7_longest_b92 at hf
        refine ww_iconst (pc := 92) C dX7_longest_92 kI_0 ?_
        exact hJ93 c_doors_cameOut c_doors_length c_doors_longest c_doors_seen c_doors_way c_row_length c_row_numbers n2 n4 s0 (0 : Int32) hf
      intro c_doors_cameOut c_doors_length c_doors_longest c_doors_seen c_doors_way c_row_length c_row_numbers n2 n3 n4 hf
      have hf : fX7_longest_b45 c_now_grid_size c_now_grid_marks rc45 c_doors_cameOut c_doors_length c_doors_longest c_doors_seen c_doors_way c_row_length c_row_numbers n2 n3 n4 = some (r_, w_doors_cameOut, w_doors_length, w_doors_longest, w_doors_seen, w_doors_way, w_row_length, w_row_numbers) := by rw [hrc45]; exact hf
      unfold fX7_longest_b45 at hf
      refine ww_iload (pc := 45) C dX7_longest_45 3 rfl ?_
      refine ww_aload_n (pc := 47) C dX7_longest_47 rfl 0 rfl ?_
      refine gf7_2 (pc := 48) C kf_X7_26 0 rfl rfl dX7_longest_48 ?_
      refine gf5_0 (pc := 51) C kf_X7_74 4 rfl rfl dX7_longest_51 ?_
      obtain ⟨v1, h1, hf⟩ := bsome hf
      refine ww_callVi0 (pc := 54) (As := []) (rest := [.int n4]) C (tX1_numbers l D k q_now_grid q_now_grid_marks c_now_grid_size c_now_grid_full c_now_grid_turns c_now_grid_firstFull c_now_grid_lastFull v1 h1) cv_X7_189 ⟨⟨by decide, by decide⟩, rfl, rfl⟩ 5 rfl rfl [5] rfl rfl rfl rfl (Nat.le_of_ble_eq_true rfl) ⟨Nat.zero_le _, Nat.zero_le _⟩ dX7_longest_54 (fun hb1 => ?_)
      refine ww_icmp_ge (pc := 57) (tgt := 101) C dX7_longest_57 (by decide) (fun hc => ?_) (fun hc => ?_)
      · have hf := ifT hc hf
        refine ww_aload_n (pc := 101) C dX7_longest_101 rfl 0 rfl ?_
        refine gf7_1 (pc := 102) C kf_X7_19 0 rfl rfl dX7_longest_102 ?_
        refine ww_aload_n (pc := 105) C dX7_longest_105 rfl 0 rfl ?_
        refine gf7_4 (pc := 106) C kf_X7_40 0 rfl rfl dX7_longest_106 ?_
        refine gf0_4 (pc := 109) C kf_X7_270 1 rfl rfl dX7_longest_109 ?_
        refine ww_i2l (pc := 112) C dX7_longest_112  ?_
        refine ww_iload_n (pc := 113) C dX7_longest_113 rfl 2 rfl ?_
        refine ww_i2l (pc := 114) C dX7_longest_114  ?_
        obtain ⟨v2, v3, h2, hf⟩ := bd2_some hf
        refine ww_callVv (pc := 115) (ws' := [oX7 q_this q_text q_row q_now q_trial q_doors q_history q_kept, oX0 q_doors q_doors_way q_doors_seen c_doors_length c_doors_cameOut c_doors_longest, aI k q_doors_seen 512 c_doors_seen, aI k q_doors_way 512 c_doors_way, oX5 q_now q_now_grid q_now_rule, oX1 q_now_grid q_now_grid_marks c_now_grid_size c_now_grid_full c_now_grid_turns c_now_grid_firstFull c_now_grid_lastFull, aI k q_now_grid_marks 153 c_now_grid_marks, oX3 q_row q_row_numbers v2, aJ k q_row_numbers 16 v3]) (As := [.long ((c_doors_longest).toInt64), .long ((n3).toInt64)]) (rest := []) C (tX3_tell_ l D k q_row q_row_numbers c_row_length c_row_numbers ((c_doors_longest).toInt64) ((n3).toInt64) v2 v3 h2) cv_X7_120 ⟨⟨by decide, by decide⟩, rfl, rfl⟩ 7 rfl rfl [7, 8] rfl rfl rfl rfl rfl rfl (Nat.le_of_ble_eq_true rfl) ⟨Nat.zero_le _, Nat.zero_le _⟩ dX7_longest_115 ?_
        refine ww_iload_n (pc := 118) C dX7_longest_118 rfl 1 rfl ?_
        obtain ⟨e0, e1, e2, e3, e4, e5, e6, e7⟩ := ij8 hf
        exact hret _ _ 119 _ dX7_longest_119 rfl e0 (by rw [← e1, ← e2, ← e3, ← e4, ← e5, ← e6, ← e7])
      · have hf := ifF hc hf
        refine ww_iload_n (pc := 60) C dX7_longest_60 rfl 2 rfl ?_
        refine ww_aload_n (pc := 61) C dX7_longest_61 rfl 0 rfl ?_
        refine gf7_2 (pc := 62) C kf_X7_26 0 rfl rfl dX7_longest_62 ?_
        refine gf5_0 (pc := 65) C kf_X7_74 4 rfl rfl dX7_longest_65 ?_
        refine ww_iload (pc := 68) C dX7_longest_68 3 rfl ?_
        obtain ⟨v4, h4, hf⟩ := bsome hf
        refine ww_callVi0 (pc := 70) (As := [.int n4]) (rest := [.int n3]) C (tX1_isCell l D k q_now_grid q_now_grid_marks c_now_grid_size c_now_grid_full c_now_grid_turns c_now_grid_firstFull c_now_grid_lastFull n4 v4 h4) cv_X7_156 ⟨⟨by decide, by decide⟩, rfl, rfl⟩ 5 rfl rfl [5] rfl rfl rfl rfl (Nat.le_of_ble_eq_true rfl) ⟨Nat.zero_le _, Nat.zero_le _⟩ dX7_longest_70 (fun hb4 => ?_)
        refine ww_if_eq (pc := 73) (tgt := 92) C dX7_longest_73 (by decide) (fun hc => ?_) (fun hc => ?_)
        · have hf := ifT hc hf
          exact ww_lv [0, 1, 3] rfl (hJ92 c_doors_cameOut c_doors_length c_doors_longest c_doors_seen c_doors_way c_row_length c_row_numbers n2 n4 n3 hf)
        · have hf := ifF hc hf
          refine ww_aload_n (pc := 76) C dX7_longest_76 rfl 0 rfl ?_
          refine gf7_4 (pc := 77) C kf_X7_40 0 rfl rfl dX7_longest_77 ?_
          refine ww_iload (pc := 80) C dX7_longest_80 3 rfl ?_
          obtain ⟨v5, h5, hf⟩ := bsome hf
          refine ww_callVi0 (pc := 82) (As := [.int n4]) (rest := [.int n3]) C (tX0_seenBy l D k q_doors q_doors_way q_doors_seen c_doors_length c_doors_cameOut c_doors_longest c_doors_seen n4 v5 h5) cv_X7_267 ⟨⟨by decide, by decide⟩, rfl, rfl⟩ 1 rfl rfl [1, 2] rfl rfl rfl rfl (Nat.le_of_ble_eq_true rfl) ⟨Nat.zero_le _, Nat.zero_le _⟩ dX7_longest_82 (fun hb5 => ?_)
          refine ww_if_ne (pc := 85) (tgt := 92) C dX7_longest_85 (by decide) (fun hc => ?_) (fun hc => ?_)
          · have hf := ifF hc hf
            exact ww_lv [0, 1, 3] rfl (hJ92 c_doors_cameOut c_doors_length c_doors_longest c_doors_seen c_doors_way c_row_length c_row_numbers n2 n4 n3 hf)
          · have hf := ifT hc hf
            refine ww_iconst (pc := 88) C dX7_longest_88 kI_1 ?_
            refine ww_goto (pc := 89) (tgt := 93) C dX7_longest_89 (by decide) ?_
            exact ww_lv [0, 1, 3] rfl (hJ93 c_doors_cameOut c_doors_length c_doors_longest c_doors_seen c_doors_way c_row_length c_row_numbers n2 n4 n3 (1 : Int32) hf)
  unfold fX7_longest at hf
  refine ww_iload_n (pc := 0) C dX7_longest_0 rfl 1 rfl ?_
  obtain ⟨v1, h1, hf⟩ := bsome hf
  refine ww_callSi0 (pc := 1) (As := [.int x1]) (rest := []) C (tX7_isGood l D k x1 v1 h1) cs_X7_195 ⟨⟨by decide, by decide⟩, rfl, rfl⟩ [] rfl rfl rfl rfl (Nat.le_of_ble_eq_true rfl) ⟨Nat.zero_le _, Nat.zero_le _⟩ dX7_longest_1 (fun hb1 => ?_)
  refine ww_if_ne (pc := 4) (tgt := 9) C dX7_longest_4 (by decide) (fun hc => ?_) (fun hc => ?_)
  · have hf := ifF hc hf
    refine ww_aload_n (pc := 9) C dX7_longest_9 rfl 0 rfl ?_
    refine gf7_4 (pc := 10) C kf_X7_40 0 rfl rfl dX7_longest_10 ?_
    obtain ⟨v2, h2, hf⟩ := bsome hf
    refine ww_callVv (pc := 13) (ws' := [oX7 q_this q_text q_row q_now q_trial q_doors q_history q_kept, oX0 q_doors q_doors_way q_doors_seen c_doors_length c_doors_cameOut c_doors_longest, aI k q_doors_seen 512 v2, aI k q_doors_way 512 c_doors_way, oX5 q_now q_now_grid q_now_rule, oX1 q_now_grid q_now_grid_marks c_now_grid_size c_now_grid_full c_now_grid_turns c_now_grid_firstFull c_now_grid_lastFull, aI k q_now_grid_marks 153 c_now_grid_marks, oX3 q_row q_row_numbers c_row_length, aJ k q_row_numbers 16 c_row_numbers]) (As := []) (rest := []) C (tX0_clearSeen l D k q_doors q_doors_way q_doors_seen c_doors_length c_doors_cameOut c_doors_longest c_doors_seen v2 h2) cv_X7_261 ⟨⟨by decide, by decide⟩, rfl, rfl⟩ 1 rfl rfl [1, 2] rfl rfl rfl rfl rfl rfl (Nat.le_of_ble_eq_true rfl) ⟨Nat.zero_le _, Nat.zero_le _⟩ dX7_longest_13 ?_
    refine ww_aload_n (pc := 16) C dX7_longest_16 rfl 0 rfl ?_
    refine gf7_4 (pc := 17) C kf_X7_40 0 rfl rfl dX7_longest_17 ?_
    refine ww_aload_n (pc := 20) C dX7_longest_20 rfl 0 rfl ?_
    refine gf7_2 (pc := 21) C kf_X7_26 0 rfl rfl dX7_longest_21 ?_
    refine gf5_0 (pc := 24) C kf_X7_74 4 rfl rfl dX7_longest_24 ?_
    refine ww_iload_n (pc := 27) C dX7_longest_27 rfl 1 rfl ?_
    obtain ⟨v3, v4, v5, v6, v7, v8, h3, hf⟩ := bd6_some hf
    refine ww_callVi (pc := 28) (ws' := [oX7 q_this q_text q_row q_now q_trial q_doors q_history q_kept, oX0 q_doors q_doors_way q_doors_seen v5 v4 v6, aI k q_doors_seen 512 v7, aI k q_doors_way 512 v8, oX5 q_now q_now_grid q_now_rule, oX1 q_now_grid q_now_grid_marks c_now_grid_size c_now_grid_full c_now_grid_turns c_now_grid_firstFull c_now_grid_lastFull, aI k q_now_grid_marks 153 c_now_grid_marks, oX3 q_row q_row_numbers c_row_length, aJ k q_row_numbers 16 c_row_numbers]) (As := [.ref q_now_grid, .int x1]) (rest := []) C (tX0_seeWalks l D k q_doors q_doors_way q_doors_seen q_now_grid q_now_grid_marks c_doors_length c_doors_cameOut c_doors_longest v2 c_doors_way c_now_grid_size c_now_grid_full c_now_grid_turns c_now_grid_firstFull c_now_grid_lastFull c_now_grid_marks x1 v3 v4 v5 v6 v7 v8 h3) cv_X7_264 ⟨⟨by decide, by decide⟩, rfl, rfl⟩ 1 rfl rfl [1, 2, 3, 5, 6] rfl rfl rfl rfl rfl rfl (Nat.le_of_ble_eq_true rfl) ⟨Nat.zero_le _, Nat.zero_le _⟩ dX7_longest_28 (fun hb3 => ?_)
    refine ww_istore_n (pc := 31) (lv' := [(2, .int v3), (0, .ref q_this), (1, .int x1)]) C dX7_longest_31 rfl (by decide) rfl ?_
    refine ww_iload_n (pc := 32) C dX7_longest_32 rfl 0 rfl ?_
    refine ww_iconst (pc := 33) C dX7_longest_33 kI_m1 ?_
    refine ww_icmp_ne (pc := 34) (tgt := 40) C dX7_longest_34 (by decide) (fun hc => ?_) (fun hc => ?_)
    · have hf := ifF hc hf
      refine ww_iconst (pc := 40) C dX7_longest_40 kI_0 ?_
      refine ww_istore_n (pc := 41) (lv' := [(3, .int (0 : Int32)), (2, .int v3), (0, .ref q_this), (1, .int x1)]) C dX7_longest_41 rfl (by decide) rfl ?_
      refine ww_iconst (pc := 42) C dX7_longest_42 kI_0 ?_
      refine ww_istore (pc := 43) (lv' := [(4, .int (0 : Int32)), (3, .int (0 : Int32)), (2, .int v3), (0, .ref q_this), (1, .int x1)]) C dX7_longest_43 (by decide) rfl ?_
      exact ww_lv [3, 2, 1, 0] rfl (hL45 FU v4 v5 v6 v7 v8 c_row_length c_row_numbers v3 (0 : Int32) (0 : Int32) hf)
    · have hf := ifT hc hf
      refine ww_bipush (pc := 37) C dX7_longest_37 kB_m2 ?_
      obtain ⟨e0, e1, e2, e3, e4, e5, e6, e7⟩ := ij8 hf
      exact hret _ _ 39 _ dX7_longest_39 rfl e0 (by rw [← e1, ← e2, ← e3, ← e4, ← e5, ← e6, ← e7])
  · have hf := ifT hc hf
    refine ww_iconst (pc := 7) C dX7_longest_7 kI_m1 ?_
    obtain ⟨e0, e1, e2, e3, e4, e5, e6, e7⟩ := ij8 hf
    exact hret _ _ 8 _ dX7_longest_8 rfl e0 (by rw [← e1, ← e2, ← e3, ← e4, ← e5, ← e6, ← e7])
def fX7_crossed_b92 (c_now_grid_size : Int32) (c_now_grid_marks : Nat → Int32) (rc42 : Int32 → Int32 → Int32 → (Nat → Int32) → (Nat → Int32) → Int32 → (Nat → Int64) → Int32 → Int32 → Int32 → Option (Int32 × Int32 × Int32 × Int32 × (Nat → Int32) × (Nat → Int32) × Int32 × (Nat → Int64))) (c_doors_cameOut : Int32) (c_doors_length : Int32) (c_doors_longest : Int32) (c_doors_seen : Nat → Int32) (c_doors_way : Nat → Int32) (c_row_length : Int32) (c_row_numbers : Nat → Int64) (n1 : Int32) (n3 : Int32) (s0 : Int32) (s1 : Int32) : Option (Int32 × Int32 × Int32 × Int32 × (Nat → Int32) × (Nat → Int32) × Int32 × (Nat → Int64)) := (some (s0 + s1)).bind fun v1 => (some (n3 + (1 : Int32))).bind fun v2 => rc42 c_doors_cameOut c_doors_length c_doors_longest c_doors_seen c_doors_way c_row_length c_row_numbers n1 v1 v2
def fX7_crossed_b42 (c_now_grid_size : Int32) (c_now_grid_marks : Nat → Int32) (rc42 : Int32 → Int32 → Int32 → (Nat → Int32) → (Nat → Int32) → Int32 → (Nat → Int64) → Int32 → Int32 → Int32 → Option (Int32 × Int32 × Int32 × Int32 × (Nat → Int32) × (Nat → Int32) × Int32 × (Nat → Int64))) (c_doors_cameOut : Int32) (c_doors_length : Int32) (c_doors_longest : Int32) (c_doors_seen : Nat → Int32) (c_doors_way : Nat → Int32) (c_row_length : Int32) (c_row_numbers : Nat → Int64) (n1 : Int32) (n2 : Int32) (n3 : Int32) : Option (Int32 × Int32 × Int32 × Int32 × (Nat → Int32) × (Nat → Int32) × Int32 × (Nat → Int64)) := (fX1_numbers c_now_grid_size).bind fun v1 => if v1 ≤ n3 then bd2 (fX3_tell c_row_length c_row_numbers ((n2).toInt64)) fun v2 v3 => some (n1, c_doors_cameOut, c_doors_length, c_doors_longest, c_doors_seen, c_doors_way, v2, v3) else (fX0_seenBy c_doors_seen n3).bind fun v4 => if v4 = (7 : Int32) then (some (n1 + (1 : Int32))).bind fun v6 => (fX1_turn c_now_grid_size c_now_grid_marks n3).bind fun v7 => if v7 = 0 then fX7_crossed_b92 c_now_grid_size c_now_grid_marks rc42 c_doors_cameOut c_doors_length c_doors_longest c_doors_seen c_doors_way c_row_length c_row_numbers v6 n3 n2 (0 : Int32) else fX7_crossed_b92 c_now_grid_size c_now_grid_marks rc42 c_doors_cameOut c_doors_length c_doors_longest c_doors_seen c_doors_way c_row_length c_row_numbers v6 n3 n2 (1 : Int32) else (some (n3 + (1 : Int32))).bind fun v5 => rc42 c_doors_cameOut c_doors_length c_doors_longest c_doors_seen c_doors_way c_row_length c_row_numbers n1 n2 v5
def fX7_crossed_b9 (c_now_grid_size : Int32) (c_now_grid_marks : Nat → Int32) (rc9 : Int32 → Int32 → Int32 → (Nat → Int32) → (Nat → Int32) → Int32 → (Nat → Int64) → Int32 → Option (Int32 × Int32 × Int32 × Int32 × (Nat → Int32) × (Nat → Int32) × Int32 × (Nat → Int64))) (c_doors_cameOut : Int32) (c_doors_length : Int32) (c_doors_longest : Int32) (c_doors_seen : Nat → Int32) (c_doors_way : Nat → Int32) (c_row_length : Int32) (c_row_numbers : Nat → Int64) (n1 : Int32) : Option (Int32 × Int32 × Int32 × Int32 × (Nat → Int32) × (Nat → Int32) × Int32 × (Nat → Int64)) := if (3 : Int32) ≤ n1 then lfix (fX7_crossed_b42 c_now_grid_size c_now_grid_marks) (fun _ _ _ _ _ _ _ _ _ _ => none) FU c_doors_cameOut c_doors_length c_doors_longest c_doors_seen c_doors_way c_row_length c_row_numbers (0 : Int32) (0 : Int32) (0 : Int32) else bd6 (fX0_seeWalks c_now_grid_size c_now_grid_marks c_doors_cameOut c_doors_length c_doors_longest c_doors_seen c_doors_way n1) fun v1 v2 v3 v4 v5 v6 => (some (n1 + (1 : Int32))).bind fun v7 => rc9 v2 v3 v4 v5 v6 c_row_length c_row_numbers v7
def fX7_crossed (c_now_grid_size : Int32) (c_now_grid_marks : Nat → Int32) (c_doors_cameOut : Int32) (c_doors_length : Int32) (c_doors_longest : Int32) (c_doors_seen : Nat → Int32) (c_doors_way : Nat → Int32) (c_row_length : Int32) (c_row_numbers : Nat → Int64) : Option (Int32 × Int32 × Int32 × Int32 × (Nat → Int32) × (Nat → Int32) × Int32 × (Nat → Int64)) := (fX0_clearSeen c_doors_seen).bind fun v1 => lfix (fX7_crossed_b9 c_now_grid_size c_now_grid_marks) (fun _ _ _ _ _ _ _ _ => none) FU c_doors_cameOut c_doors_length c_doors_longest v1 c_doors_way c_row_length c_row_numbers (0 : Int32)
set_option maxHeartbeats 4000000 in
set_option maxRecDepth 100000 in
theorem tX7_crossed (l : Launch) (D : va_G) (k : Nat → ClassId) (q_this q_text q_row q_now q_trial q_doors q_history q_kept q_doors_way q_doors_seen q_now_grid q_now_rule q_now_grid_marks q_row_numbers : Nat) (c_doors_length : Int32) (c_doors_cameOut : Int32) (c_doors_longest : Int32) (c_doors_seen : Nat → Int32) (c_doors_way : Nat → Int32) (c_now_grid_size : Int32) (c_now_grid_full : Int32) (c_now_grid_turns : Int32) (c_now_grid_firstFull : Int32) (c_now_grid_lastFull : Int32) (c_now_grid_marks : Nat → Int32) (c_row_length : Int32) (c_row_numbers : Nat → Int64)  (r_ : Int32) (w_doors_cameOut : Int32) (w_doors_length : Int32) (w_doors_longest : Int32) (w_doors_seen : Nat → Int32) (w_doors_way : Nat → Int32) (w_row_length : Int32) (w_row_numbers : Nat → Int64) (hf : fX7_crossed c_now_grid_size c_now_grid_marks c_doors_cameOut c_doors_length c_doors_longest c_doors_seen c_doors_way c_row_length c_row_numbers = some (r_, w_doors_cameOut, w_doors_length, w_doors_longest, w_doors_seen, w_doors_way, w_row_length, w_row_numbers)) : MI l yX7_crossed cX7_crossed 4 .int (RM 6 150) D k [.ref q_this] [oX7 q_this q_text q_row q_now q_trial q_doors q_history q_kept, oX0 q_doors q_doors_way q_doors_seen c_doors_length c_doors_cameOut c_doors_longest, aI k q_doors_seen 512 c_doors_seen, aI k q_doors_way 512 c_doors_way, oX5 q_now q_now_grid q_now_rule, oX1 q_now_grid q_now_grid_marks c_now_grid_size c_now_grid_full c_now_grid_turns c_now_grid_firstFull c_now_grid_lastFull, aI k q_now_grid_marks 153 c_now_grid_marks, oX3 q_row q_row_numbers c_row_length, aJ k q_row_numbers 16 c_row_numbers] r_ [oX7 q_this q_text q_row q_now q_trial q_doors q_history q_kept, oX0 q_doors q_doors_way q_doors_seen w_doors_length w_doors_cameOut w_doors_longest, aI k q_doors_seen 512 w_doors_seen, aI k q_doors_way 512 w_doors_way, oX5 q_now q_now_grid q_now_rule, oX1 q_now_grid q_now_grid_marks c_now_grid_size c_now_grid_full c_now_grid_turns c_now_grid_firstFull c_now_grid_lastFull, aI k q_now_grid_marks 153 c_now_grid_marks, oX3 q_row q_row_numbers w_row_length, aJ k q_row_numbers 16 w_row_numbers] := by
  refine mkMI' (own := "DoorWalk") (by decide) rfl (Nat.le_of_ble_eq_true rfl) ?_
  intro p e s m args below meth c Q A hret C
  refine ww_lv (lv' := [(0, .ref q_this)]) [0] rfl ?_
  have hL42 : ∀ (n : Nat) (c_doors_cameOut : Int32) (c_doors_length : Int32) (c_doors_longest : Int32) (c_doors_seen : Nat → Int32) (c_doors_way : Nat → Int32) (c_row_length : Int32) (c_row_numbers : Nat → Int64) (n1 : Int32) (n2 : Int32) (n3 : Int32), lfix (fX7_crossed_b42 c_now_grid_size c_now_grid_marks) (fun _ _ _ _ _ _ _ _ _ _ => none) n c_doors_cameOut c_doors_length c_doors_longest c_doors_seen c_doors_way c_row_length c_row_numbers n1 n2 n3 = some (r_, w_doors_cameOut, w_doors_length, w_doors_longest, w_doors_seen, w_doors_way, w_row_length, w_row_numbers) → WW p l e (RM 6 150) s m args below meth c Q 4 D A 0 0 [oX7 q_this q_text q_row q_now q_trial q_doors q_history q_kept, oX0 q_doors q_doors_way q_doors_seen c_doors_length c_doors_cameOut c_doors_longest, aI k q_doors_seen 512 c_doors_seen, aI k q_doors_way 512 c_doors_way, oX5 q_now q_now_grid q_now_rule, oX1 q_now_grid q_now_grid_marks c_now_grid_size c_now_grid_full c_now_grid_turns c_now_grid_firstFull c_now_grid_lastFull, aI k q_now_grid_marks 153 c_now_grid_marks, oX3 q_row q_row_numbers c_row_length, aJ k q_row_numbers 16 c_row_numbers] [(0, .ref q_this), (1, .int n1), (2, .int n2), (3, .int n3)] 42 [] := by
    intro n
    induction n with
    | zero => intro c_doors_cameOut c_doors_length c_doors_longest c_doors_seen c_doors_way c_row_length c_row_numbers n1 n2 n3 hf; cases hf
    | succ n ih42 =>
      obtain ⟨rc42, hrc42⟩ : ∃ f9, f9 = lfix (fX7_crossed_b42 c_now_grid_size c_now_grid_marks) (fun _ _ _ _ _ _ _ _ _ _ => none) n := ⟨_, rfl⟩
      rw [← hrc42] at ih42
      have hJ92 : ∀ (c_doors_cameOut : Int32) (c_doors_length : Int32) (c_doors_longest : Int32) (c_doors_seen : Nat → Int32) (c_doors_way : Nat → Int32) (c_row_length : Int32) (c_row_numbers : Nat → Int64) (n1 : Int32) (n3 : Int32) (s0 : Int32) (s1 : Int32), fX7_crossed_b92 c_now_grid_size c_now_grid_marks rc42 c_doors_cameOut c_doors_length c_doors_longest c_doors_seen c_doors_way c_row_length c_row_numbers n1 n3 s0 s1 = some (r_, w_doors_cameOut, w_doors_length, w_doors_longest, w_doors_seen, w_doors_way, w_row_length, w_row_numbers) → WW p l e (RM 6 150) s m args below meth c Q 4 D A 0 0 [oX7 q_this q_text q_row q_now q_trial q_doors q_history q_kept, oX0 q_doors q_doors_way q_doors_seen c_doors_length c_doors_cameOut c_doors_longest, aI k q_doors_seen 512 c_doors_seen, aI k q_doors_way 512 c_doors_way, oX5 q_now q_now_grid q_now_rule, oX1 q_now_grid q_now_grid_marks c_now_grid_size c_now_grid_full c_now_grid_turns c_now_grid_firstFull c_now_grid_lastFull, aI k q_now_grid_marks 153 c_now_grid_marks, oX3 q_row q_row_numbers c_row_length, aJ k q_row_numbers 16 c_row_numbers] [(0, .ref q_this), (1, .int n1), (3, .int n3)] 92 [.int s1, .int s0] := by
        intro c_doors_cameOut c_doors_length c_doors_longest c_doors_seen c_doors_way c_row_length c_row_numbers n1 n3 s0 s1
        intro hf
        unfold fX7_crossed_b92 at hf
        refine ww_iadd (pc := 92) C dX7_crossed_92  ?_
        obtain ⟨v1, h1, hf⟩ := bsome hf
        refine ww_nmi h1 ?_
        refine ww_istore_n (pc := 93) (lv' := [(2, .int v1), (0, .ref q_this), (1, .int n1), (3, .int n3)]) C dX7_crossed_93 rfl (by decide) rfl ?_
        obtain ⟨v2, h2, hf⟩ := bsome hf
        refine ww_iincN (pc := 94) (lv' := [(3, .int v2), (2, .int v1), (0, .ref q_this), (1, .int n1)]) (j := 3) C dX7_crossed_94 kI_1 rfl h2 (by decide) rfl ?_
        refine ww_goto (pc := 97) (tgt := 42) C dX7_crossed_97 (by decide) ?_
        exact ww_lv [2, 3, 1, 0] rfl (ih42 c_doors_cameOut c_doors_length c_doors_longest c_doors_seen c_doors_way c_row_length c_row_numbers n1 v1 v2 hf)
      intro c_doors_cameOut c_doors_length c_doors_longest c_doors_seen c_doors_way c_row_length c_row_numbers n1 n2 n3 hf
      have hf : fX7_crossed_b42 c_now_grid_size c_now_grid_marks rc42 c_doors_cameOut c_doors_length c_doors_longest c_doors_seen c_doors_way c_row_length c_row_numbers n1 n2 n3 = some (r_, w_doors_cameOut, w_doors_length, w_doors_longest, w_doors_seen, w_doors_way, w_row_length, w_row_numbers) := by rw [hrc42]; exact hf
      unfold fX7_crossed_b42 at hf
      refine ww_iload_n (pc := 42) C dX7_crossed_42 rfl 3 rfl ?_
      refine ww_aload_n (pc := 43) C dX7_crossed_43 rfl 0 rfl ?_
      refine gf7_2 (pc := 44) C kf_X7_26 0 rfl rfl dX7_crossed_44 ?_
      refine gf5_0 (pc := 47) C kf_X7_74 4 rfl rfl dX7_crossed_47 ?_
      obtain ⟨v1, h1, hf⟩ := bsome hf
      refine ww_callVi0 (pc := 50) (As := []) (rest := [.int n3]) C (tX1_numbers l D k q_now_grid q_now_grid_marks c_now_grid_size c_now_grid_full c_now_grid_turns c_now_grid_firstFull c_now_grid_lastFull v1 h1) cv_X7_189 ⟨⟨by decide, by decide⟩, rfl, rfl⟩ 5 rfl rfl [5] rfl rfl rfl rfl (Nat.le_of_ble_eq_true rfl) ⟨Nat.zero_le _, Nat.zero_le _⟩ dX7_crossed_50 (fun hb1 => ?_)
      refine ww_icmp_ge (pc := 53) (tgt := 100) C dX7_crossed_53 (by decide) (fun hc => ?_) (fun hc => ?_)
      · have hf := ifT hc hf
        refine ww_aload_n (pc := 100) C dX7_crossed_100 rfl 0 rfl ?_
        refine gf7_1 (pc := 101) C kf_X7_19 0 rfl rfl dX7_crossed_101 ?_
        refine ww_iload_n (pc := 104) C dX7_crossed_104 rfl 2 rfl ?_
        refine ww_i2l (pc := 105) C dX7_crossed_105  ?_
        obtain ⟨v2, v3, h2, hf⟩ := bd2_some hf
        refine ww_callVv (pc := 106) (ws' := [oX7 q_this q_text q_row q_now q_trial q_doors q_history q_kept, oX0 q_doors q_doors_way q_doors_seen c_doors_length c_doors_cameOut c_doors_longest, aI k q_doors_seen 512 c_doors_seen, aI k q_doors_way 512 c_doors_way, oX5 q_now q_now_grid q_now_rule, oX1 q_now_grid q_now_grid_marks c_now_grid_size c_now_grid_full c_now_grid_turns c_now_grid_firstFull c_now_grid_lastFull, aI k q_now_grid_marks 153 c_now_grid_marks, oX3 q_row q_row_numbers v2, aJ k q_row_numbers 16 v3]) (As := [.long ((n2).toInt64)]) (rest := []) C (tX3_tell l D k q_row q_row_numbers c_row_length c_row_numbers ((n2).toInt64) v2 v3 h2) cv_X7_186 ⟨⟨by decide, by decide⟩, rfl, rfl⟩ 7 rfl rfl [7, 8] rfl rfl rfl rfl rfl rfl (Nat.le_of_ble_eq_true rfl) ⟨Nat.zero_le _, Nat.zero_le _⟩ dX7_crossed_106 ?_
        refine ww_iload_n (pc := 109) C dX7_crossed_109 rfl 1 rfl ?_
        obtain ⟨e0, e1, e2, e3, e4, e5, e6, e7⟩ := ij8 hf
        exact hret _ _ 110 _ dX7_crossed_110 rfl e0 (by rw [← e1, ← e2, ← e3, ← e4, ← e5, ← e6, ← e7])
      · have hf := ifF hc hf
        refine ww_aload_n (pc := 56) C dX7_crossed_56 rfl 0 rfl ?_
        refine gf7_4 (pc := 57) C kf_X7_40 0 rfl rfl dX7_crossed_57 ?_
        refine ww_iload_n (pc := 60) C dX7_crossed_60 rfl 3 rfl ?_
        obtain ⟨v4, h4, hf⟩ := bsome hf
        refine ww_callVi0 (pc := 61) (As := [.int n3]) (rest := []) C (tX0_seenBy l D k q_doors q_doors_way q_doors_seen c_doors_length c_doors_cameOut c_doors_longest c_doors_seen n3 v4 h4) cv_X7_267 ⟨⟨by decide, by decide⟩, rfl, rfl⟩ 1 rfl rfl [1, 2] rfl rfl rfl rfl (Nat.le_of_ble_eq_true rfl) ⟨Nat.zero_le _, Nat.zero_le _⟩ dX7_crossed_61 (fun hb4 => ?_)
        refine ww_bipush (pc := 64) C dX7_crossed_64 kB_7 ?_
        refine ww_icmp_ne (pc := 66) (tgt := 94) C dX7_crossed_66 (by decide) (fun hc => ?_) (fun hc => ?_)
        · have hf := ifF hc hf
          obtain ⟨v5, h5, hf⟩ := bsome hf
          refine ww_iincN (pc := 94) (lv' := [(3, .int v5), (0, .ref q_this), (1, .int n1), (2, .int n2)]) (j := 3) C dX7_crossed_94 kI_1 rfl h5 (by decide) rfl ?_
          refine ww_goto (pc := 97) (tgt := 42) C dX7_crossed_97 (by decide) ?_
          exact ww_lv [1, 2, 3, 0] rfl (ih42 c_doors_cameOut c_doors_length c_doors_longest c_doors_seen c_doors_way c_row_length c_row_numbers n1 n2 v5 hf)
        · have hf := ifT hc hf
          obtain ⟨v6, h6, hf⟩ := bsome hf
          refine ww_iincN (pc := 69) (lv' := [(1, .int v6), (0, .ref q_this), (2, .int n2), (3, .int n3)]) (j := 1) C dX7_crossed_69 kI_1 rfl h6 (by decide) rfl ?_
          refine ww_iload_n (pc := 72) C dX7_crossed_72 rfl 2 rfl ?_
          refine ww_aload_n (pc := 73) C dX7_crossed_73 rfl 1 rfl ?_
          refine gf7_2 (pc := 74) C kf_X7_26 0 rfl rfl dX7_crossed_74 ?_
          refine gf5_0 (pc := 77) C kf_X7_74 4 rfl rfl dX7_crossed_77 ?_
          refine ww_iload_n (pc := 80) C dX7_crossed_80 rfl 3 rfl ?_
          obtain ⟨v7, h7, hf⟩ := bsome hf
          refine ww_callVi0 (pc := 81) (As := [.int n3]) (rest := [.int n2]) C (tX1_turn l D k q_now_grid q_now_grid_marks c_now_grid_size c_now_grid_full c_now_grid_turns c_now_grid_firstFull c_now_grid_lastFull c_now_grid_marks n3 v7 h7) cv_X7_159 ⟨⟨by decide, by decide⟩, rfl, rfl⟩ 5 rfl rfl [5, 6] rfl rfl rfl rfl (Nat.le_of_ble_eq_true rfl) ⟨Nat.zero_le _, Nat.zero_le _⟩ dX7_crossed_81 (fun hb7 => ?_)
          refine ww_if_ne (pc := 84) (tgt := 91) C dX7_crossed_84 (by decide) (fun hc => ?_) (fun hc => ?_)
          · have hf := ifF hc hf
            refine ww_iconst (pc := 91) C dX7_crossed_91 kI_1 ?_
            exact ww_lv [1, 0, 3] rfl (hJ92 c_doors_cameOut c_doors_length c_doors_longest c_doors_seen c_doors_way c_row_length c_row_numbers v6 n3 n2 (1 : Int32) hf)
          · have hf := ifT hc hf
            refine ww_iconst (pc := 87) C dX7_crossed_87 kI_0 ?_
            refine ww_goto (pc := 88) (tgt := 92) C dX7_crossed_88 (by decide) ?_
            exact ww_lv [1, 0, 3] rfl (hJ92 c_doors_cameOut c_doors_length c_doors_longest c_doors_seen c_doors_way c_row_length c_row_numbers v6 n3 n2 (0 : Int32) hf)
  have hL9 : ∀ (n : Nat) (c_doors_cameOut : Int32) (c_doors_length : Int32) (c_doors_longest : Int32) (c_doors_seen : Nat → Int32) (c_doors_way : Nat → Int32) (c_row_length : Int32) (c_row_numbers : Nat → Int64) (n1 : Int32), lfix (fX7_crossed_b9 c_now_grid_size c_now_grid_marks) (fun _ _ _ _ _ _ _ _ => none) n c_doors_cameOut c_doors_length c_doors_longest c_doors_seen c_doors_way c_row_length c_row_numbers n1 = some (r_, w_doors_cameOut, w_doors_length, w_doors_longest, w_doors_seen, w_doors_way, w_row_length, w_row_numbers) → WW p l e (RM 6 150) s m args below meth c Q 4 D A 0 0 [oX7 q_this q_text q_row q_now q_trial q_doors q_history q_kept, oX0 q_doors q_doors_way q_doors_seen c_doors_length c_doors_cameOut c_doors_longest, aI k q_doors_seen 512 c_doors_seen, aI k q_doors_way 512 c_doors_way, oX5 q_now q_now_grid q_now_rule, oX1 q_now_grid q_now_grid_marks c_now_grid_size c_now_grid_full c_now_grid_turns c_now_grid_firstFull c_now_grid_lastFull, aI k q_now_grid_marks 153 c_now_grid_marks, oX3 q_row q_row_numbers c_row_length, aJ k q_row_numbers 16 c_row_numbers] [(0, .ref q_this), (1, .int n1)] 9 [] := by
    intro n
    induction n with
    | zero => intro c_doors_cameOut c_doors_length c_doors_longest c_doors_seen c_doors_way c_row_length c_row_numbers n1 hf; cases hf
    | succ n ih9 =>
      obtain ⟨rc9, hrc9⟩ : ∃ f9, f9 = lfix (fX7_crossed_b9 c_now_grid_size c_now_grid_marks) (fun _ _ _ _ _ _ _ _ => none) n := ⟨_, rfl⟩
      rw [← hrc9] at ih9
      intro c_doors_cameOut c_doors_length c_doors_longest c_doors_seen c_doors_way c_row_length c_row_numbers n1 hf
      have hf : fX7_crossed_b9 c_now_grid_size c_now_grid_marks rc9 c_doors_cameOut c_doors_length c_doors_longest c_doors_seen c_doors_way c_row_length c_row_numbers n1 = some (r_, w_doors_cameOut, w_doors_length, w_doors_longest, w_doors_seen, w_doors_way, w_row_length, w_row_numbers) := by rw [hrc9]; exact hf
      unfold fX7_crossed_b9 at hf
      refine ww_iload_n (pc := 9) C dX7_crossed_9 rfl 1 rfl ?_
      refine ww_iconst (pc := 10) C dX7_crossed_10 kI_3 ?_
      refine ww_icmp_ge (pc := 11) (tgt := 36) C dX7_crossed_11 (by decide) (fun hc => ?_) (fun hc => ?_)
      · have hf := ifT hc hf
        refine ww_iconst (pc := 36) C dX7_crossed_36 kI_0 ?_
        refine ww_istore_n (pc := 37) (lv' := [(1, .int (0 : Int32)), (0, .ref q_this)]) C dX7_crossed_37 rfl (by decide) rfl ?_
        refine ww_iconst (pc := 38) C dX7_crossed_38 kI_0 ?_
        refine ww_istore_n (pc := 39) (lv' := [(2, .int (0 : Int32)), (1, .int (0 : Int32)), (0, .ref q_this)]) C dX7_crossed_39 rfl (by decide) rfl ?_
        refine ww_iconst (pc := 40) C dX7_crossed_40 kI_0 ?_
        refine ww_istore_n (pc := 41) (lv' := [(3, .int (0 : Int32)), (2, .int (0 : Int32)), (1, .int (0 : Int32)), (0, .ref q_this)]) C dX7_crossed_41 rfl (by decide) rfl ?_
        exact ww_lv [3, 2, 1, 0] rfl (hL42 FU c_doors_cameOut c_doors_length c_doors_longest c_doors_seen c_doors_way c_row_length c_row_numbers (0 : Int32) (0 : Int32) (0 : Int32) hf)
      · have hf := ifF hc hf
        refine ww_aload_n (pc := 14) C dX7_crossed_14 rfl 0 rfl ?_
        refine gf7_4 (pc := 15) C kf_X7_40 0 rfl rfl dX7_crossed_15 ?_
        refine ww_aload_n (pc := 18) C dX7_crossed_18 rfl 0 rfl ?_
        refine gf7_2 (pc := 19) C kf_X7_26 0 rfl rfl dX7_crossed_19 ?_
        refine gf5_0 (pc := 22) C kf_X7_74 4 rfl rfl dX7_crossed_22 ?_
        refine ww_iload_n (pc := 25) C dX7_crossed_25 rfl 1 rfl ?_
        obtain ⟨v1, v2, v3, v4, v5, v6, h1, hf⟩ := bd6_some hf
        refine ww_callVi (pc := 26) (ws' := [oX7 q_this q_text q_row q_now q_trial q_doors q_history q_kept, oX0 q_doors q_doors_way q_doors_seen v3 v2 v4, aI k q_doors_seen 512 v5, aI k q_doors_way 512 v6, oX5 q_now q_now_grid q_now_rule, oX1 q_now_grid q_now_grid_marks c_now_grid_size c_now_grid_full c_now_grid_turns c_now_grid_firstFull c_now_grid_lastFull, aI k q_now_grid_marks 153 c_now_grid_marks, oX3 q_row q_row_numbers c_row_length, aJ k q_row_numbers 16 c_row_numbers]) (As := [.ref q_now_grid, .int n1]) (rest := []) C (tX0_seeWalks l D k q_doors q_doors_way q_doors_seen q_now_grid q_now_grid_marks c_doors_length c_doors_cameOut c_doors_longest c_doors_seen c_doors_way c_now_grid_size c_now_grid_full c_now_grid_turns c_now_grid_firstFull c_now_grid_lastFull c_now_grid_marks n1 v1 v2 v3 v4 v5 v6 h1) cv_X7_264 ⟨⟨by decide, by decide⟩, rfl, rfl⟩ 1 rfl rfl [1, 2, 3, 5, 6] rfl rfl rfl rfl rfl rfl (Nat.le_of_ble_eq_true rfl) ⟨Nat.zero_le _, Nat.zero_le _⟩ dX7_crossed_26 (fun hb1 => ?_)
        refine ww_pop (pc := 29) C dX7_crossed_29 rfl ?_
        obtain ⟨v7, h7, hf⟩ := bsome hf
        refine ww_iincN (pc := 30) (lv' := [(1, .int v7), (0, .ref q_this)]) (j := 1) C dX7_crossed_30 kI_1 rfl h7 (by decide) rfl ?_
        refine ww_goto (pc := 33) (tgt := 9) C dX7_crossed_33 (by decide) ?_
        exact ww_lv [1, 0] rfl (ih9 v2 v3 v4 v5 v6 c_row_length c_row_numbers v7 hf)
  unfold fX7_crossed at hf
  refine ww_aload_n (pc := 0) C dX7_crossed_0 rfl 0 rfl ?_
  refine gf7_4 (pc := 1) C kf_X7_40 0 rfl rfl dX7_crossed_1 ?_
  obtain ⟨v1, h1, hf⟩ := bsome hf
  refine ww_callVv (pc := 4) (ws' := [oX7 q_this q_text q_row q_now q_trial q_doors q_history q_kept, oX0 q_doors q_doors_way q_doors_seen c_doors_length c_doors_cameOut c_doors_longest, aI k q_doors_seen 512 v1, aI k q_doors_way 512 c_doors_way, oX5 q_now q_now_grid q_now_rule, oX1 q_now_grid q_now_grid_marks c_now_grid_size c_now_grid_full c_now_grid_turns c_now_grid_firstFull c_now_grid_lastFull, aI k q_now_grid_marks 153 c_now_grid_marks, oX3 q_row q_row_numbers c_row_length, aJ k q_row_numbers 16 c_row_numbers]) (As := []) (rest := []) C (tX0_clearSeen l D k q_doors q_doors_way q_doors_seen c_doors_length c_doors_cameOut c_doors_longest c_doors_seen v1 h1) cv_X7_261 ⟨⟨by decide, by decide⟩, rfl, rfl⟩ 1 rfl rfl [1, 2] rfl rfl rfl rfl rfl rfl (Nat.le_of_ble_eq_true rfl) ⟨Nat.zero_le _, Nat.zero_le _⟩ dX7_crossed_4 ?_
  refine ww_iconst (pc := 7) C dX7_crossed_7 kI_0 ?_
  refine ww_istore_n (pc := 8) (lv' := [(1, .int (0 : Int32)), (0, .ref q_this)]) C dX7_crossed_8 rfl (by decide) rfl ?_
  exact ww_lv [1, 0] rfl (hL9 FU c_doors_cameOut c_doors_length c_doors_longest v1 c_doors_way c_row_length c_row_numbers (0 : Int32) hf)
def fX7_leads_b108 (c_now_grid_size : Int32) (c_now_grid_marks : Nat → Int32) (rc50 : Int32 → Int32 → Int32 → Int32 → Int32 → Option Int32) (n1 : Int32) (n2 : Int32) (n3 : Int32) (n6 : Int32) (n7 : Int32) : Option Int32 := (some (n6 + (1 : Int32))).bind fun v1 => rc50 n1 n2 n3 n7 v1
def fX7_leads_b50 (c_now_grid_size : Int32) (c_now_grid_marks : Nat → Int32) (rc50 : Int32 → Int32 → Int32 → Int32 → Int32 → Option Int32) (n1 : Int32) (n2 : Int32) (n3 : Int32) (n5 : Int32) (n6 : Int32) : Option Int32 := if (3 : Int32) ≤ n6 then some (n5) else (fX0_isDoor c_now_grid_size c_now_grid_marks n1 n6 n3).bind fun v1 => if v1 = 0 then (some (n6 + (1 : Int32))).bind fun v2 => rc50 n1 n2 n3 n5 v2 else (fX0_cellsTo c_now_grid_size c_now_grid_marks n3 n1 n6 n2).bind fun v3 => if v3 = (-1 : Int32) then (some (n6 + (1 : Int32))).bind fun v4 => rc50 n1 n2 n3 n5 v4 else if n5 = (-2 : Int32) then fX7_leads_b108 c_now_grid_size c_now_grid_marks rc50 n1 n2 n3 n6 v3 else if n5 ≤ v3 then (some (n6 + (1 : Int32))).bind fun v5 => rc50 n1 n2 n3 n5 v5 else fX7_leads_b108 c_now_grid_size c_now_grid_marks rc50 n1 n2 n3 n6 v3
def fX7_leads (c_now_grid_size : Int32) (c_now_grid_marks : Nat → Int32) (x1 : Int32) (x2 : Int32) (x3 : Int32) : Option Int32 := (fX1_isCell c_now_grid_size x1).bind fun v1 => if v1 = 0 then some ((-1 : Int32)) else (fX1_isCell c_now_grid_size x2).bind fun v2 => if v2 = 0 then some ((-1 : Int32)) else (fX7_isGood x3).bind fun v3 => if v3 = 0 then some ((-1 : Int32)) else if x1 = x2 then some ((1 : Int32)) else lfix (fX7_leads_b50 c_now_grid_size c_now_grid_marks) (fun _ _ _ _ _ => none) FU x1 x2 x3 (-2 : Int32) (0 : Int32)
set_option maxHeartbeats 4000000 in
set_option maxRecDepth 100000 in
theorem tX7_leads (l : Launch) (D : va_G) (k : Nat → ClassId) (q_this q_text q_row q_now q_trial q_doors q_history q_kept q_doors_way q_doors_seen q_now_grid q_now_rule q_now_grid_marks : Nat) (c_doors_length : Int32) (c_doors_cameOut : Int32) (c_doors_longest : Int32) (c_now_grid_size : Int32) (c_now_grid_full : Int32) (c_now_grid_turns : Int32) (c_now_grid_firstFull : Int32) (c_now_grid_lastFull : Int32) (c_now_grid_marks : Nat → Int32) (x1 : Int32) (x2 : Int32) (x3 : Int32) (r_ : Int32) (hf : fX7_leads c_now_grid_size c_now_grid_marks x1 x2 x3 = some (r_)) : MI l yX7_leads cX7_leads 8 .int (RM 5 127) D k [.ref q_this, .int x1, .int x2, .int x3] [oX7 q_this q_text q_row q_now q_trial q_doors q_history q_kept, oX0 q_doors q_doors_way q_doors_seen c_doors_length c_doors_cameOut c_doors_longest, oX5 q_now q_now_grid q_now_rule, oX1 q_now_grid q_now_grid_marks c_now_grid_size c_now_grid_full c_now_grid_turns c_now_grid_firstFull c_now_grid_lastFull, aI k q_now_grid_marks 153 c_now_grid_marks] r_ [oX7 q_this q_text q_row q_now q_trial q_doors q_history q_kept, oX0 q_doors q_doors_way q_doors_seen c_doors_length c_doors_cameOut c_doors_longest, oX5 q_now q_now_grid q_now_rule, oX1 q_now_grid q_now_grid_marks c_now_grid_size c_now_grid_full c_now_grid_turns c_now_grid_firstFull c_now_grid_lastFull, aI k q_now_grid_marks 153 c_now_grid_marks] := by
  refine mkMI' (own := "DoorWalk") (by decide) rfl (Nat.le_of_ble_eq_true rfl) ?_
  intro p e s m args below meth c Q A hret C
  refine ww_lv (lv' := [(0, .ref q_this), (1, .int x1), (2, .int x2), (3, .int x3)]) [0, 1, 2, 3] rfl ?_
  have hL50 : ∀ (n : Nat) (n1 : Int32) (n2 : Int32) (n3 : Int32) (n5 : Int32) (n6 : Int32), lfix (fX7_leads_b50 c_now_grid_size c_now_grid_marks) (fun _ _ _ _ _ => none) n n1 n2 n3 n5 n6 = some (r_) → WW p l e (RM 5 127) s m args below meth c Q 8 D A 0 0 [oX7 q_this q_text q_row q_now q_trial q_doors q_history q_kept, oX0 q_doors q_doors_way q_doors_seen c_doors_length c_doors_cameOut c_doors_longest, oX5 q_now q_now_grid q_now_rule, oX1 q_now_grid q_now_grid_marks c_now_grid_size c_now_grid_full c_now_grid_turns c_now_grid_firstFull c_now_grid_lastFull, aI k q_now_grid_marks 153 c_now_grid_marks] [(0, .ref q_this), (1, .int n1), (2, .int n2), (3, .int n3), (4, .ref q_now_grid), (5, .int n5), (6, .int n6)] 50 [] := by
    intro n
    induction n with
    | zero => intro n1 n2 n3 n5 n6 hf; cases hf
    | succ n ih50 =>
      obtain ⟨rc50, hrc50⟩ : ∃ f9, f9 = lfix (fX7_leads_b50 c_now_grid_size c_now_grid_marks) (fun _ _ _ _ _ => none) n := ⟨_, rfl⟩
      rw [← hrc50] at ih50
      have hJ108 : ∀ (n1 : Int32) (n2 : Int32) (n3 : Int32) (n6 : Int32) (n7 : Int32), fX7_leads_b108 c_now_grid_size c_now_grid_marks rc50 n1 n2 n3 n6 n7 = some (r_) → WW p l e (RM 5 127) s m args below meth c Q 8 D A 0 0 [oX7 q_this q_text q_row q_now q_trial q_doors q_history q_kept, oX0 q_doors q_doors_way q_doors_seen c_doors_length c_doors_cameOut c_doors_longest, oX5 q_now q_now_grid q_now_rule, oX1 q_now_grid q_now_grid_marks c_now_grid_size c_now_grid_full c_now_grid_turns c_now_grid_firstFull c_now_grid_lastFull, aI k q_now_grid_marks 153 c_now_grid_marks] [(0, .ref q_this), (1, .int n1), (2, .int n2), (3, .int n3), (4, .ref q_now_grid), (6, .int n6), (7, .int n7)] 108 [] := by
        intro n1 n2 n3 n6 n7
        intro hf
        unfold fX7_leads_b108 at hf
        refine ww_iload (pc := 108) C dX7_leads_108 6 rfl ?_
        refine ww_istore (pc := 110) (lv' := [(5, .int n7), (0, .ref q_this), (1, .int n1), (2, .int n2), (3, .int n3), (4, .ref q_now_grid), (6, .int n6), (7, .int n7)]) C dX7_leads_110 (by decide) rfl ?_
        obtain ⟨v1, h1, hf⟩ := bsome hf
        refine ww_iincN (pc := 112) (lv' := [(6, .int v1), (5, .int n7), (0, .ref q_this), (1, .int n1), (2, .int n2), (3, .int n3), (4, .ref q_now_grid), (7, .int n7)]) (j := 6) C dX7_leads_112 kI_1 rfl h1 (by decide) rfl ?_
        refine ww_goto (pc := 115) (tgt := 50) C dX7_leads_115 (by decide) ?_
        exact ww_lv [2, 3, 4, 5, 6, 1, 0] rfl (ih50 n1 n2 n3 n7 v1 hf)
      intro n1 n2 n3 n5 n6 hf
      have hf : fX7_leads_b50 c_now_grid_size c_now_grid_marks rc50 n1 n2 n3 n5 n6 = some (r_) := by rw [hrc50]; exact hf
      unfold fX7_leads_b50 at hf
      refine ww_iload (pc := 50) C dX7_leads_50 6 rfl ?_
      refine ww_iconst (pc := 52) C dX7_leads_52 kI_3 ?_
      refine ww_icmp_ge (pc := 53) (tgt := 118) C dX7_leads_53 (by decide) (fun hc => ?_) (fun hc => ?_)
      · have hf := ifT hc hf
        refine ww_iload (pc := 118) C dX7_leads_118 5 rfl ?_
        obtain e0 := ij1 hf
        exact hret _ _ 120 _ dX7_leads_120 rfl e0 rfl
      · have hf := ifF hc hf
        refine ww_aload_n (pc := 56) C dX7_leads_56 rfl 0 rfl ?_
        refine gf7_4 (pc := 57) C kf_X7_40 0 rfl rfl dX7_leads_57 ?_
        refine ww_aload (pc := 60) C dX7_leads_60 4 rfl ?_
        refine ww_iload_n (pc := 62) C dX7_leads_62 rfl 1 rfl ?_
        refine ww_iload (pc := 63) C dX7_leads_63 6 rfl ?_
        refine ww_iload_n (pc := 65) C dX7_leads_65 rfl 3 rfl ?_
        obtain ⟨v1, h1, hf⟩ := bsome hf
        refine ww_callVi0 (pc := 66) (As := [.ref q_now_grid, .int n1, .int n6, .int n3]) (rest := []) C (tX0_isDoor l D k q_doors q_doors_way q_doors_seen q_now_grid q_now_grid_marks c_doors_length c_doors_cameOut c_doors_longest c_now_grid_size c_now_grid_full c_now_grid_turns c_now_grid_firstFull c_now_grid_lastFull c_now_grid_marks n1 n6 n3 v1 h1) cv_X7_217 ⟨⟨by decide, by decide⟩, rfl, rfl⟩ 1 rfl rfl [1, 3, 4] rfl rfl rfl rfl (Nat.le_of_ble_eq_true rfl) ⟨Nat.zero_le _, Nat.zero_le _⟩ dX7_leads_66 (fun hb1 => ?_)
        refine ww_if_eq (pc := 69) (tgt := 112) C dX7_leads_69 (by decide) (fun hc => ?_) (fun hc => ?_)
        · have hf := ifT hc hf
          obtain ⟨v2, h2, hf⟩ := bsome hf
          refine ww_iincN (pc := 112) (lv' := [(6, .int v2), (0, .ref q_this), (1, .int n1), (2, .int n2), (3, .int n3), (4, .ref q_now_grid), (5, .int n5)]) (j := 6) C dX7_leads_112 kI_1 rfl h2 (by decide) rfl ?_
          refine ww_goto (pc := 115) (tgt := 50) C dX7_leads_115 (by decide) ?_
          exact ww_lv [1, 2, 3, 4, 5, 6, 0] rfl (ih50 n1 n2 n3 n5 v2 hf)
        · have hf := ifF hc hf
          refine ww_aload_n (pc := 72) C dX7_leads_72 rfl 0 rfl ?_
          refine gf7_4 (pc := 73) C kf_X7_40 0 rfl rfl dX7_leads_73 ?_
          refine ww_aload (pc := 76) C dX7_leads_76 4 rfl ?_
          refine ww_iload_n (pc := 78) C dX7_leads_78 rfl 3 rfl ?_
          refine ww_iload_n (pc := 79) C dX7_leads_79 rfl 1 rfl ?_
          refine ww_iload (pc := 80) C dX7_leads_80 6 rfl ?_
          refine ww_iload_n (pc := 82) C dX7_leads_82 rfl 2 rfl ?_
          obtain ⟨v3, h3, hf⟩ := bsome hf
          refine ww_callVi0 (pc := 83) (As := [.ref q_now_grid, .int n3, .int n1, .int n6, .int n2]) (rest := []) C (tX0_cellsTo l D k q_doors q_doors_way q_doors_seen q_now_grid q_now_grid_marks c_doors_length c_doors_cameOut c_doors_longest c_now_grid_size c_now_grid_full c_now_grid_turns c_now_grid_firstFull c_now_grid_lastFull c_now_grid_marks n3 n1 n6 n2 v3 h3) cv_X7_273 ⟨⟨by decide, by decide⟩, rfl, rfl⟩ 1 rfl rfl [1, 3, 4] rfl rfl rfl rfl (Nat.le_of_ble_eq_true rfl) ⟨Nat.zero_le _, Nat.zero_le _⟩ dX7_leads_83 (fun hb3 => ?_)
          refine ww_istore (pc := 86) (lv' := [(7, .int v3), (0, .ref q_this), (1, .int n1), (2, .int n2), (3, .int n3), (4, .ref q_now_grid), (5, .int n5), (6, .int n6)]) C dX7_leads_86 (by decide) rfl ?_
          refine ww_iload (pc := 88) C dX7_leads_88 0 rfl ?_
          refine ww_iconst (pc := 90) C dX7_leads_90 kI_m1 ?_
          refine ww_icmp_eq (pc := 91) (tgt := 112) C dX7_leads_91 (by decide) (fun hc => ?_) (fun hc => ?_)
          · have hf := ifT hc hf
            obtain ⟨v4, h4, hf⟩ := bsome hf
            refine ww_iincN (pc := 112) (lv' := [(6, .int v4), (7, .int v3), (0, .ref q_this), (1, .int n1), (2, .int n2), (3, .int n3), (4, .ref q_now_grid), (5, .int n5)]) (j := 7) C dX7_leads_112 kI_1 rfl h4 (by decide) rfl ?_
            refine ww_goto (pc := 115) (tgt := 50) C dX7_leads_115 (by decide) ?_
            exact ww_lv [2, 3, 4, 5, 6, 7, 0] rfl (ih50 n1 n2 n3 n5 v4 hf)
          · have hf := ifF hc hf
            refine ww_iload (pc := 94) C dX7_leads_94 6 rfl ?_
            refine ww_bipush (pc := 96) C dX7_leads_96 kB_m2 ?_
            refine ww_icmp_eq (pc := 98) (tgt := 108) C dX7_leads_98 (by decide) (fun hc => ?_) (fun hc => ?_)
            · have hf := ifT hc hf
              exact ww_lv [1, 2, 3, 4, 5, 7, 0] rfl (hJ108 n1 n2 n3 n6 v3 hf)
            · have hf := ifF hc hf
              refine ww_iload (pc := 101) C dX7_leads_101 0 rfl ?_
              refine ww_iload (pc := 103) C dX7_leads_103 6 rfl ?_
              refine ww_icmp_ge (pc := 105) (tgt := 112) C dX7_leads_105 (by decide) (fun hc => ?_) (fun hc => ?_)
              · have hf := ifT hc hf
                obtain ⟨v5, h5, hf⟩ := bsome hf
                refine ww_iincN (pc := 112) (lv' := [(6, .int v5), (7, .int v3), (0, .ref q_this), (1, .int n1), (2, .int n2), (3, .int n3), (4, .ref q_now_grid), (5, .int n5)]) (j := 7) C dX7_leads_112 kI_1 rfl h5 (by decide) rfl ?_
                refine ww_goto (pc := 115) (tgt := 50) C dX7_leads_115 (by decide) ?_
                exact ww_lv [2, 3, 4, 5, 6, 7, 0] rfl (ih50 n1 n2 n3 n5 v5 hf)
              · have hf := ifF hc hf
                exact ww_lv [1, 2, 3, 4, 5, 7, 0] rfl (hJ108 n1 n2 n3 n6 v3 hf)
  unfold fX7_leads at hf
  refine ww_aload_n (pc := 0) C dX7_leads_0 rfl 0 rfl ?_
  refine gf7_2 (pc := 1) C kf_X7_26 0 rfl rfl dX7_leads_1 ?_
  refine gf5_0 (pc := 4) C kf_X7_74 2 rfl rfl dX7_leads_4 ?_
  refine ww_astore (pc := 7) (lv' := [(4, .ref q_now_grid), (0, .ref q_this), (1, .int x1), (2, .int x2), (3, .int x3)]) C dX7_leads_7 (by decide) rfl ?_
  refine ww_aload (pc := 9) C dX7_leads_9 0 rfl ?_
  refine ww_iload_n (pc := 11) C dX7_leads_11 rfl 2 rfl ?_
  obtain ⟨v1, h1, hf⟩ := bsome hf
  refine ww_callVi0 (pc := 12) (As := [.int x1]) (rest := []) C (tX1_isCell l D k q_now_grid q_now_grid_marks c_now_grid_size c_now_grid_full c_now_grid_turns c_now_grid_firstFull c_now_grid_lastFull x1 v1 h1) cv_X7_156 ⟨⟨by decide, by decide⟩, rfl, rfl⟩ 3 rfl rfl [3] rfl rfl rfl rfl (Nat.le_of_ble_eq_true rfl) ⟨Nat.zero_le _, Nat.zero_le _⟩ dX7_leads_12 (fun hb1 => ?_)
  refine ww_if_eq (pc := 15) (tgt := 34) C dX7_leads_15 (by decide) (fun hc => ?_) (fun hc => ?_)
  · have hf := ifT hc hf
    refine ww_iconst (pc := 34) C dX7_leads_34 kI_m1 ?_
    obtain e0 := ij1 hf
    exact hret _ _ 35 _ dX7_leads_35 rfl e0 rfl
  · have hf := ifF hc hf
    refine ww_aload (pc := 18) C dX7_leads_18 0 rfl ?_
    refine ww_iload_n (pc := 20) C dX7_leads_20 rfl 3 rfl ?_
    obtain ⟨v2, h2, hf⟩ := bsome hf
    refine ww_callVi0 (pc := 21) (As := [.int x2]) (rest := []) C (tX1_isCell l D k q_now_grid q_now_grid_marks c_now_grid_size c_now_grid_full c_now_grid_turns c_now_grid_firstFull c_now_grid_lastFull x2 v2 h2) cv_X7_156 ⟨⟨by decide, by decide⟩, rfl, rfl⟩ 3 rfl rfl [3] rfl rfl rfl rfl (Nat.le_of_ble_eq_true rfl) ⟨Nat.zero_le _, Nat.zero_le _⟩ dX7_leads_21 (fun hb2 => ?_)
    refine ww_if_eq (pc := 24) (tgt := 34) C dX7_leads_24 (by decide) (fun hc => ?_) (fun hc => ?_)
    · have hf := ifT hc hf
      refine ww_iconst (pc := 34) C dX7_leads_34 kI_m1 ?_
      obtain e0 := ij1 hf
      exact hret _ _ 35 _ dX7_leads_35 rfl e0 rfl
    · have hf := ifF hc hf
      refine ww_iload_n (pc := 27) C dX7_leads_27 rfl 4 rfl ?_
      obtain ⟨v3, h3, hf⟩ := bsome hf
      refine ww_callSi0 (pc := 28) (As := [.int x3]) (rest := []) C (tX7_isGood l D k x3 v3 h3) cs_X7_195 ⟨⟨by decide, by decide⟩, rfl, rfl⟩ [] rfl rfl rfl rfl (Nat.le_of_ble_eq_true rfl) ⟨Nat.zero_le _, Nat.zero_le _⟩ dX7_leads_28 (fun hb3 => ?_)
      refine ww_if_ne (pc := 31) (tgt := 36) C dX7_leads_31 (by decide) (fun hc => ?_) (fun hc => ?_)
      · have hf := ifF hc hf
        refine ww_iload_n (pc := 36) C dX7_leads_36 rfl 2 rfl ?_
        refine ww_iload_n (pc := 37) C dX7_leads_37 rfl 3 rfl ?_
        refine ww_icmp_ne (pc := 38) (tgt := 43) C dX7_leads_38 (by decide) (fun hc => ?_) (fun hc => ?_)
        · have hf := ifF hc hf
          refine ww_bipush (pc := 43) C dX7_leads_43 kB_m2 ?_
          refine ww_istore (pc := 45) (lv' := [(5, .int (-2 : Int32)), (4, .ref q_now_grid), (0, .ref q_this), (1, .int x1), (2, .int x2), (3, .int x3)]) C dX7_leads_45 (by decide) rfl ?_
          refine ww_iconst (pc := 47) C dX7_leads_47 kI_0 ?_
          refine ww_istore (pc := 48) (lv' := [(6, .int (0 : Int32)), (5, .int (-2 : Int32)), (4, .ref q_now_grid), (0, .ref q_this), (1, .int x1), (2, .int x2), (3, .int x3)]) C dX7_leads_48 (by decide) rfl ?_
          exact ww_lv [3, 4, 5, 6, 2, 1, 0] rfl (hL50 FU x1 x2 x3 (-2 : Int32) (0 : Int32) hf)
        · have hf := ifT hc hf
          refine ww_iconst (pc := 41) C dX7_leads_41 kI_1 ?_
          obtain e0 := ij1 hf
          exact hret _ _ 42 _ dX7_leads_42 rfl e0 rfl
      · have hf := ifT hc hf
        refine ww_iconst (pc := 34) C dX7_leads_34 kI_m1 ?_
        obtain e0 := ij1 hf
        exact hret _ _ 35 _ dX7_leads_35 rfl e0 rfl
def fX7_isGrid (x1 : Int32) : Option Int32 := if x1 < (1 : Int32) then some ((0 : Int32)) else if (16 : Int32) < x1 then some ((0 : Int32)) else some ((1 : Int32))
set_option maxHeartbeats 4000000 in
set_option maxRecDepth 100000 in
theorem tX7_isGrid (l : Launch) (D : va_G) (k : Nat → ClassId)   (x1 : Int32) (r_ : Int32) (hf : fX7_isGrid x1 = some (r_)) : MI l yX7_isGrid cX7_isGrid 1 .boolean (RM 0 0) D k [.int x1] [] r_ [] := by
  refine mkMI' (own := "DoorWalk") (by decide) rfl (Nat.le_of_ble_eq_true rfl) ?_
  intro p e s m args below meth c Q A hret C
  refine ww_lv (lv' := [(0, .int x1)]) [0] rfl ?_
  unfold fX7_isGrid at hf
  refine ww_iload_n (pc := 0) C dX7_isGrid_0 rfl 0 rfl ?_
  refine ww_iconst (pc := 1) C dX7_isGrid_1 kI_1 ?_
  refine ww_icmp_lt (pc := 2) (tgt := 15) C dX7_isGrid_2 (by decide) (fun hc => ?_) (fun hc => ?_)
  · have hf := ifT hc hf
    refine ww_iconst (pc := 15) C dX7_isGrid_15 kI_0 ?_
    obtain e0 := ij1 hf
    exact hret _ _ 16 _ dX7_isGrid_16 (by decide) e0 rfl
  · have hf := ifF hc hf
    refine ww_iload_n (pc := 5) C dX7_isGrid_5 rfl 0 rfl ?_
    refine ww_bipush (pc := 6) C dX7_isGrid_6 kB_16 ?_
    refine ww_icmp_gt (pc := 8) (tgt := 15) C dX7_isGrid_8 (by decide) (fun hc => ?_) (fun hc => ?_)
    · have hf := ifT hc hf
      refine ww_iconst (pc := 15) C dX7_isGrid_15 kI_0 ?_
      obtain e0 := ij1 hf
      exact hret _ _ 16 _ dX7_isGrid_16 (by decide) e0 rfl
    · have hf := ifF hc hf
      refine ww_iconst (pc := 11) C dX7_isGrid_11 kI_1 ?_
      refine ww_goto (pc := 12) (tgt := 16) C dX7_isGrid_12 (by decide) ?_
      obtain e0 := ij1 hf
      exact hret _ _ 16 _ dX7_isGrid_16 (by decide) e0 rfl
