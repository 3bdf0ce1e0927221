def fJ7_fill_53178_b5 (rc5 : (Nat → Int32) → Int32 → Int32 → Int32 → Option ((Nat → Int32))) (c_p1 : Nat → Int32) (n1 : Int32) (n2 : Int32) (n3 : Int32) : Option ((Nat → Int32)) := if n3 ≤ n2 then some (c_p1) else (ast 512 n2 c_p1 n1).bind fun v1 => (some (n2 + (1 : Int32))).bind fun v2 => rc5 v1 n1 v2 n3
def fJ7_fill_53178 (c_p1 : Nat → Int32) (x2 : Int32) : Option ((Nat → Int32)) := lfix (fJ7_fill_53178_b5) (fun _ _ _ _ => none) FU c_p1 x2 (0 : Int32) (512 : Int32)
set_option maxHeartbeats 4000000 in
set_option maxRecDepth 100000 in
theorem tJ7_fill_53178 (l : Launch) (D : va_G) (k : Nat → ClassId) (q_p1 : Nat) (c_p1 : Nat → Int32) (x2 : Int32) (w_p1 : Nat → Int32) (hf : fJ7_fill_53178 c_p1 x2 = some (w_p1)) : MV l yJ7_fill_53178 cJ7_fill_53178 4 (RM 0 0) D k [.ref q_p1, .int x2] [aI k q_p1 512 c_p1] [aI k q_p1 512 w_p1] := by
  refine mkMV' (own := "java/util/Arrays") (by decide) rfl (Nat.le_of_ble_eq_true rfl) ?_
  intro p e s m args below meth c Q A hret C
  refine ww_lv (lv' := [(0, .ref q_p1), (1, .int x2)]) [0, 1] rfl ?_
  have hL5 : ∀ (n : Nat) (c_p1 : Nat → Int32) (n1 : Int32) (n2 : Int32) (n3 : Int32), lfix (fJ7_fill_53178_b5) (fun _ _ _ _ => none) n c_p1 n1 n2 n3 = some (w_p1) → WW p l e (RM 0 0) s m args below meth c Q 4 D A 0 0 [aI k q_p1 512 c_p1] [(0, .ref q_p1), (1, .int n1), (2, .int n2), (3, .int n3)] 5 [] := by
    intro n
    induction n with
    | zero => intro c_p1 n1 n2 n3 hf; cases hf
    | succ n ih5 =>
      obtain ⟨rc5, hrc5⟩ : ∃ f9, f9 = lfix (fJ7_fill_53178_b5) (fun _ _ _ _ => none) n := ⟨_, rfl⟩
      rw [← hrc5] at ih5
      intro c_p1 n1 n2 n3 hf
      have hf : fJ7_fill_53178_b5 rc5 c_p1 n1 n2 n3 = some (w_p1) := by rw [hrc5]; exact hf
      unfold fJ7_fill_53178_b5 at hf
      refine ww_iload_n (pc := 5) C dJ7_fill_53178_5 rfl 2 rfl ?_
      refine ww_iload_n (pc := 6) C dJ7_fill_53178_6 rfl 3 rfl ?_
      refine ww_icmp_ge (pc := 7) (tgt := 20) C dJ7_fill_53178_7 (by decide) (fun hc => ?_) (fun hc => ?_)
      · have hf := ifT hc hf
        obtain e0 := ij1 hf
        exact hret _ _ 20 dJ7_fill_53178_20 (by rw [← e0])
      · have hf := ifF hc hf
        refine ww_aload_n (pc := 10) C dJ7_fill_53178_10 rfl 0 rfl ?_
        refine ww_iload_n (pc := 11) C dJ7_fill_53178_11 rfl 2 rfl ?_
        refine ww_iload_n (pc := 12) C dJ7_fill_53178_12 rfl 1 rfl ?_
        obtain ⟨v1, h1, hf⟩ := bsome hf
        refine ww_iast (pc := 13) (ws' := [aI k q_p1 512 v1]) C 0 rfl h1 rfl dJ7_fill_53178_13 ?_
        obtain ⟨v2, h2, hf⟩ := bsome hf
        refine ww_iincN (pc := 14) (lv' := [(2, .int v2), (0, .ref q_p1), (1, .int n1), (3, .int n3)]) (j := 2) C dJ7_fill_53178_14 kI_1 rfl h2 (by decide) rfl ?_
        refine ww_goto (pc := 17) (tgt := 5) C dJ7_fill_53178_17 (by decide) ?_
        exact ww_lv [1, 2, 0, 3] rfl (ih5 v1 n1 v2 n3 hf)
  unfold fJ7_fill_53178 at hf
  refine ww_iconst (pc := 0) C dJ7_fill_53178_0 kI_0 ?_
  refine ww_istore_n (pc := 1) (lv' := [(2, .int (0 : Int32)), (0, .ref q_p1), (1, .int x2)]) C dJ7_fill_53178_1 rfl (by decide) rfl ?_
  refine ww_aload_n (pc := 2) C dJ7_fill_53178_2 rfl 1 rfl ?_
  refine ww_alen (pc := 3) C 0 1 rfl rfl kN_512 dJ7_fill_53178_3 ?_
  refine ww_istore_n (pc := 4) (lv' := [(3, .int (512 : Int32)), (2, .int (0 : Int32)), (0, .ref q_p1), (1, .int x2)]) C dJ7_fill_53178_4 rfl (by decide) rfl ?_
  exact ww_lv [2, 3, 1, 0] rfl (hL5 FU c_p1 x2 (0 : Int32) (512 : Int32) hf)
def fX3_clear (c_length : Int32) : Option Int32 := some ((0 : Int32))
set_option maxHeartbeats 4000000 in
set_option maxRecDepth 100000 in
theorem tX3_clear (l : Launch) (D : va_G) (k : Nat → ClassId) (q_this q_numbers : Nat) (c_length : Int32)  (w_length : Int32) (hf : fX3_clear c_length = some (w_length)) : MV l yX3_clear cX3_clear 1 (RM 0 0) D k [.ref q_this] [oX3 q_this q_numbers c_length] [oX3 q_this q_numbers w_length] := by
  refine mkMV' (own := "DoorWalk$Row") (by decide) rfl (Nat.le_of_ble_eq_true rfl) ?_
  intro p e s m args below meth c Q A hret C
  refine ww_lv (lv' := [(0, .ref q_this)]) [0] rfl ?_
  unfold fX3_clear at hf
  refine ww_aload_n (pc := 0) C dX3_clear_0 rfl 0 rfl ?_
  refine ww_iconst (pc := 1) C dX3_clear_1 kI_0 ?_
  refine pf3_1 (pc := 2) (ws' := [oX3 q_this q_numbers (0 : Int32)]) C kf_X3_15 0 rfl (Nat.le_of_ble_eq_true rfl) rfl dX3_clear_2 ?_
  obtain e0 := ij1 hf
  exact hret _ _ 5 dX3_clear_5 (by rw [← e0])
def fX3_add (c_length : Int32) (c_numbers : Nat → Int64) (x1 : Int64) : Option (Int32 × (Nat → Int64)) := if c_length < 0 then some (c_length, c_numbers) else if (16 : Int32) ≤ c_length then some (c_length, c_numbers) else (astL 16 c_length c_numbers x1).bind fun v1 => (some (c_length + (1 : Int32))).bind fun v2 => some (v2, v1)
set_option maxHeartbeats 4000000 in
set_option maxRecDepth 100000 in
theorem tX3_add (l : Launch) (D : va_G) (k : Nat → ClassId) (q_this q_numbers : Nat) (c_length : Int32) (c_numbers : Nat → Int64) (x1 : Int64) (w_length : Int32) (w_numbers : Nat → Int64) (hf : fX3_add c_length c_numbers x1 = some (w_length, w_numbers)) : MV l yX3_add cX3_add 3 (RM 0 0) D k [.ref q_this, .long x1] [oX3 q_this q_numbers c_length, aJ k q_numbers 16 c_numbers] [oX3 q_this q_numbers w_length, aJ k q_numbers 16 w_numbers] := by
  refine mkMV' (own := "DoorWalk$Row") (by decide) rfl (Nat.le_of_ble_eq_true rfl) ?_
  intro p e s m args below meth c Q A hret C
  refine ww_lv (lv' := [(0, .ref q_this), (1, .long x1)]) [0, 1] rfl ?_
  unfold fX3_add at hf
  refine ww_aload_n (pc := 0) C dX3_add_0 rfl 0 rfl ?_
  refine gf3_1 (pc := 1) C kf_X3_15 0 rfl rfl dX3_add_1 ?_
  refine ww_if_lt (pc := 4) (tgt := 36) C dX3_add_4 (by decide) (fun hc => ?_) (fun hc => ?_)
  · have hf := ifT hc hf
    obtain ⟨e0, e1⟩ := ij2 hf
    exact hret _ _ 36 dX3_add_36 (by rw [← e0, ← e1])
  · have hf := ifF hc hf
    refine ww_aload_n (pc := 7) C dX3_add_7 rfl 0 rfl ?_
    refine gf3_1 (pc := 8) C kf_X3_15 0 rfl rfl dX3_add_8 ?_
    refine ww_bipush (pc := 11) C dX3_add_11 kB_16 ?_
    refine ww_icmp_ge (pc := 13) (tgt := 36) C dX3_add_13 (by decide) (fun hc => ?_) (fun hc => ?_)
    · have hf := ifT hc hf
      obtain ⟨e0, e1⟩ := ij2 hf
      exact hret _ _ 36 dX3_add_36 (by rw [← e0, ← e1])
    · have hf := ifF hc hf
      refine ww_aload_n (pc := 16) C dX3_add_16 rfl 0 rfl ?_
      refine gf3_0 (pc := 17) C kf_X3_9 0 rfl rfl dX3_add_17 ?_
      refine ww_aload_n (pc := 20) C dX3_add_20 rfl 0 rfl ?_
      refine gf3_1 (pc := 21) C kf_X3_15 0 rfl rfl dX3_add_21 ?_
      refine ww_lload_n (pc := 24) C dX3_add_24 rfl 1 rfl ?_
      obtain ⟨v1, h1, hf⟩ := bsome hf
      refine ww_last (pc := 25) (ws' := [oX3 q_this q_numbers c_length, aJ k q_numbers 16 v1]) C 1 rfl h1 rfl dX3_add_25 ?_
      refine ww_aload_n (pc := 26) C dX3_add_26 rfl 0 rfl ?_
      refine ww_dup (pc := 27) C dX3_add_27 rfl ?_
      refine gf3_1 (pc := 28) C kf_X3_15 0 rfl rfl dX3_add_28 ?_
      refine ww_iconst (pc := 31) C dX3_add_31 kI_1 ?_
      refine ww_iadd (pc := 32) C dX3_add_32  ?_
      obtain ⟨v2, h2, hf⟩ := bsome hf
      refine ww_nmi h2 ?_
      refine pf3_1 (pc := 33) (ws' := [oX3 q_this q_numbers v2, aJ k q_numbers 16 v1]) C kf_X3_15 0 rfl (Nat.le_of_ble_eq_true rfl) rfl dX3_add_33 ?_
      obtain ⟨e0, e1⟩ := ij2 hf
      exact hret _ _ 36 dX3_add_36 (by rw [← e0, ← e1])
def fX3_tell (c_length : Int32) (c_numbers : Nat → Int64) (x1 : Int64) : Option (Int32 × (Nat → Int64)) := (fX3_clear c_length).bind fun v1 => bd2 (fX3_add v1 c_numbers x1) fun v2 v3 => some (v2, v3)
set_option maxHeartbeats 4000000 in
set_option maxRecDepth 100000 in
theorem tX3_tell (l : Launch) (D : va_G) (k : Nat → ClassId) (q_this q_numbers : Nat) (c_length : Int32) (c_numbers : Nat → Int64) (x1 : Int64) (w_length : Int32) (w_numbers : Nat → Int64) (hf : fX3_tell c_length c_numbers x1 = some (w_length, w_numbers)) : MV l yX3_tell cX3_tell 3 (RM 1 22) D k [.ref q_this, .long x1] [oX3 q_this q_numbers c_length, aJ k q_numbers 16 c_numbers] [oX3 q_this q_numbers w_length, aJ k q_numbers 16 w_numbers] := by
  refine mkMV' (own := "DoorWalk$Row") (by decide) rfl (Nat.le_of_ble_eq_true rfl) ?_
  intro p e s m args below meth c Q A hret C
  refine ww_lv (lv' := [(0, .ref q_this), (1, .long x1)]) [0, 1] rfl ?_
  unfold fX3_tell at hf
  refine ww_aload_n (pc := 0) C dX3_tell_0 rfl 0 rfl ?_
  obtain ⟨v1, h1, hf⟩ := bsome hf
  refine ww_callVv (pc := 1) (ws' := [oX3 q_this q_numbers v1, aJ k q_numbers 16 c_numbers]) (As := []) (rest := []) C (tX3_clear l D k q_this q_numbers c_length v1 h1) cv_X3_19 ⟨⟨by decide, by decide⟩, rfl, rfl⟩ 0 rfl rfl [0] rfl rfl rfl rfl rfl rfl (Nat.le_of_ble_eq_true rfl) ⟨Nat.zero_le _, Nat.zero_le _⟩ dX3_tell_1 ?_
  refine ww_aload_n (pc := 4) C dX3_tell_4 rfl 0 rfl ?_
  refine ww_lload_n (pc := 5) C dX3_tell_5 rfl 1 rfl ?_
  obtain ⟨v2, v3, h2, hf⟩ := bd2_some hf
  refine ww_callVv (pc := 6) (ws' := [oX3 q_this q_numbers v2, aJ k q_numbers 16 v3]) (As := [.long x1]) (rest := []) C (tX3_add l D k q_this q_numbers v1 c_numbers x1 v2 v3 h2) cv_X3_22 ⟨⟨by decide, by decide⟩, rfl, rfl⟩ 0 rfl rfl [0, 1] rfl rfl rfl rfl rfl rfl (Nat.le_of_ble_eq_true rfl) ⟨Nat.zero_le _, Nat.zero_le _⟩ dX3_tell_6 ?_
  obtain ⟨e0, e1⟩ := ij2 hf
  exact hret _ _ 9 dX3_tell_9 (by rw [← e0, ← e1])
def fX3_tell_ (c_length : Int32) (c_numbers : Nat → Int64) (x1 : Int64) (x2 : Int64) : Option (Int32 × (Nat → Int64)) := bd2 (fX3_tell c_length c_numbers x1) fun v1 v2 => bd2 (fX3_add v1 v2 x2) fun v3 v4 => some (v3, v4)
set_option maxHeartbeats 4000000 in
set_option maxRecDepth 100000 in
theorem tX3_tell_ (l : Launch) (D : va_G) (k : Nat → ClassId) (q_this q_numbers : Nat) (c_length : Int32) (c_numbers : Nat → Int64) (x1 : Int64) (x2 : Int64) (w_length : Int32) (w_numbers : Nat → Int64) (hf : fX3_tell_ c_length c_numbers x1 x2 = some (w_length, w_numbers)) : MV l yX3_tell_ cX3_tell_ 5 (RM 2 44) D k [.ref q_this, .long x1, .long x2] [oX3 q_this q_numbers c_length, aJ k q_numbers 16 c_numbers] [oX3 q_this q_numbers w_length, aJ k q_numbers 16 w_numbers] := by
  refine mkMV' (own := "DoorWalk$Row") (by decide) rfl (Nat.le_of_ble_eq_true rfl) ?_
  intro p e s m args below meth c Q A hret C
  refine ww_lv (lv' := [(0, .ref q_this), (1, .long x1), (3, .long x2)]) [0, 1, 2] rfl ?_
  unfold fX3_tell_ at hf
  refine ww_aload_n (pc := 0) C dX3_tell__0 rfl 0 rfl ?_
  refine ww_lload_n (pc := 1) C dX3_tell__1 rfl 1 rfl ?_
  obtain ⟨v1, v2, h1, hf⟩ := bd2_some hf
  refine ww_callVv (pc := 2) (ws' := [oX3 q_this q_numbers v1, aJ k q_numbers 16 v2]) (As := [.long x1]) (rest := []) C (tX3_tell l D k q_this q_numbers c_length c_numbers x1 v1 v2 h1) cv_X3_26 ⟨⟨by decide, by decide⟩, rfl, rfl⟩ 0 rfl rfl [0, 1] rfl rfl rfl rfl rfl rfl (Nat.le_of_ble_eq_true rfl) ⟨Nat.zero_le _, Nat.zero_le _⟩ dX3_tell__2 ?_
  refine ww_aload_n (pc := 5) C dX3_tell__5 rfl 0 rfl ?_
  refine ww_lload_n (pc := 6) C dX3_tell__6 rfl 2 rfl ?_
  obtain ⟨v3, v4, h3, hf⟩ := bd2_some hf
  refine ww_callVv (pc := 7) (ws' := [oX3 q_this q_numbers v3, aJ k q_numbers 16 v4]) (As := [.long x2]) (rest := []) C (tX3_add l D k q_this q_numbers v1 v2 x2 v3 v4 h3) cv_X3_22 ⟨⟨by decide, by decide⟩, rfl, rfl⟩ 0 rfl rfl [0, 1] rfl rfl rfl rfl rfl rfl (Nat.le_of_ble_eq_true rfl) ⟨Nat.zero_le _, Nat.zero_le _⟩ dX3_tell__7 ?_
  obtain ⟨e0, e1⟩ := ij2 hf
  exact hret _ _ 10 dX3_tell__10 (by rw [← e0, ← e1])
def fX3_tell__ (c_length : Int32) (c_numbers : Nat → Int64) (x1 : Int64) (x2 : Int64) (x3 : Int64) : Option (Int32 × (Nat → Int64)) := bd2 (fX3_tell_ c_length c_numbers x1 x2) fun v1 v2 => bd2 (fX3_add v1 v2 x3) fun v3 v4 => some (v3, v4)
set_option maxHeartbeats 4000000 in
set_option maxRecDepth 100000 in
theorem tX3_tell__ (l : Launch) (D : va_G) (k : Nat → ClassId) (q_this q_numbers : Nat) (c_length : Int32) (c_numbers : Nat → Int64) (x1 : Int64) (x2 : Int64) (x3 : Int64) (w_length : Int32) (w_numbers : Nat → Int64) (hf : fX3_tell__ c_length c_numbers x1 x2 x3 = some (w_length, w_numbers)) : MV l yX3_tell__ cX3_tell__ 7 (RM 3 68) D k [.ref q_this, .long x1, .long x2, .long x3] [oX3 q_this q_numbers c_length, aJ k q_numbers 16 c_numbers] [oX3 q_this q_numbers w_length, aJ k q_numbers 16 w_numbers] := by
  refine mkMV' (own := "DoorWalk$Row") (by decide) rfl (Nat.le_of_ble_eq_true rfl) ?_
  intro p e s m args below meth c Q A hret C
  refine ww_lv (lv' := [(0, .ref q_this), (1, .long x1), (3, .long x2), (5, .long x3)]) [0, 1, 2, 3] rfl ?_
  unfold fX3_tell__ at hf
  refine ww_aload_n (pc := 0) C dX3_tell___0 rfl 0 rfl ?_
  refine ww_lload_n (pc := 1) C dX3_tell___1 rfl 1 rfl ?_
  refine ww_lload_n (pc := 2) C dX3_tell___2 rfl 2 rfl ?_
  obtain ⟨v1, v2, h1, hf⟩ := bd2_some hf
  refine ww_callVv (pc := 3) (ws' := [oX3 q_this q_numbers v1, aJ k q_numbers 16 v2]) (As := [.long x1, .long x2]) (rest := []) C (tX3_tell_ l D k q_this q_numbers c_length c_numbers x1 x2 v1 v2 h1) cv_X3_29 ⟨⟨by decide, by decide⟩, rfl, rfl⟩ 0 rfl rfl [0, 1] rfl rfl rfl rfl rfl rfl (Nat.le_of_ble_eq_true rfl) ⟨Nat.zero_le _, Nat.zero_le _⟩ dX3_tell___3 ?_
  refine ww_aload_n (pc := 6) C dX3_tell___6 rfl 0 rfl ?_
  refine ww_lload (pc := 7) C dX3_tell___7 3 rfl ?_
  obtain ⟨v3, v4, h3, hf⟩ := bd2_some hf
  refine ww_callVv (pc := 9) (ws' := [oX3 q_this q_numbers v3, aJ k q_numbers 16 v4]) (As := [.long x3]) (rest := []) C (tX3_add l D k q_this q_numbers v1 v2 x3 v3 v4 h3) cv_X3_22 ⟨⟨by decide, by decide⟩, rfl, rfl⟩ 0 rfl rfl [0, 1] rfl rfl rfl rfl rfl rfl (Nat.le_of_ble_eq_true rfl) ⟨Nat.zero_le _, Nat.zero_le _⟩ dX3_tell___9 ?_
  obtain ⟨e0, e1⟩ := ij2 hf
  exact hret _ _ 12 dX3_tell___12 (by rw [← e0, ← e1])
def fX3_tell___ (c_length : Int32) (c_numbers : Nat → Int64) (x1 : Int64) (x2 : Int64) (x3 : Int64) (x4 : Int64) : Option (Int32 × (Nat → Int64)) := bd2 (fX3_tell__ c_length c_numbers x1 x2 x3) fun v1 v2 => bd2 (fX3_add v1 v2 x4) fun v3 v4 => some (v3, v4)
set_option maxHeartbeats 4000000 in
set_option maxRecDepth 100000 in
theorem tX3_tell___ (l : Launch) (D : va_G) (k : Nat → ClassId) (q_this q_numbers : Nat) (c_length : Int32) (c_numbers : Nat → Int64) (x1 : Int64) (x2 : Int64) (x3 : Int64) (x4 : Int64) (w_length : Int32) (w_numbers : Nat → Int64) (hf : fX3_tell___ c_length c_numbers x1 x2 x3 x4 = some (w_length, w_numbers)) : MV l yX3_tell___ cX3_tell___ 9 (RM 4 94) D k [.ref q_this, .long x1, .long x2, .long x3, .long x4] [oX3 q_this q_numbers c_length, aJ k q_numbers 16 c_numbers] [oX3 q_this q_numbers w_length, aJ k q_numbers 16 w_numbers] := by
  refine mkMV' (own := "DoorWalk$Row") (by decide) rfl (Nat.le_of_ble_eq_true rfl) ?_
  intro p e s m args below meth c Q A hret C
  refine ww_lv (lv' := [(0, .ref q_this), (1, .long x1), (3, .long x2), (5, .long x3), (7, .long x4)]) [0, 1, 2, 3, 4] rfl ?_
  unfold fX3_tell___ at hf
  refine ww_aload_n (pc := 0) C dX3_tell____0 rfl 0 rfl ?_
  refine ww_lload_n (pc := 1) C dX3_tell____1 rfl 1 rfl ?_
  refine ww_lload_n (pc := 2) C dX3_tell____2 rfl 2 rfl ?_
  refine ww_lload (pc := 3) C dX3_tell____3 3 rfl ?_
  obtain ⟨v1, v2, h1, hf⟩ := bd2_some hf
  refine ww_callVv (pc := 5) (ws' := [oX3 q_this q_numbers v1, aJ k q_numbers 16 v2]) (As := [.long x1, .long x2, .long x3]) (rest := []) C (tX3_tell__ l D k q_this q_numbers c_length c_numbers x1 x2 x3 v1 v2 h1) cv_X3_32 ⟨⟨by decide, by decide⟩, rfl, rfl⟩ 0 rfl rfl [0, 1] rfl rfl rfl rfl rfl rfl (Nat.le_of_ble_eq_true rfl) ⟨Nat.zero_le _, Nat.zero_le _⟩ dX3_tell____5 ?_
  refine ww_aload_n (pc := 8) C dX3_tell____8 rfl 0 rfl ?_
  refine ww_lload (pc := 9) C dX3_tell____9 4 rfl ?_
  obtain ⟨v3, v4, h3, hf⟩ := bd2_some hf
  refine ww_callVv (pc := 11) (ws' := [oX3 q_this q_numbers v3, aJ k q_numbers 16 v4]) (As := [.long x4]) (rest := []) C (tX3_add l D k q_this q_numbers v1 v2 x4 v3 v4 h3) cv_X3_22 ⟨⟨by decide, by decide⟩, rfl, rfl⟩ 0 rfl rfl [0, 1] rfl rfl rfl rfl rfl rfl (Nat.le_of_ble_eq_true rfl) ⟨Nat.zero_le _, Nat.zero_le _⟩ dX3_tell____11 ?_
  obtain ⟨e0, e1⟩ := ij2 hf
  exact hret _ _ 14 dX3_tell____14 (by rw [← e0, ← e1])
def fX3_at (c_length : Int32) (c_numbers : Nat → Int64) (x1 : Int32) : Option Int64 := if x1 < 0 then some ((-1 : Int64)) else if c_length ≤ x1 then some ((-1 : Int64)) else if (16 : Int32) ≤ x1 then some ((-1 : Int64)) else (ald 16 x1 c_numbers).bind fun v1 => some (v1)
set_option maxHeartbeats 4000000 in
set_option maxRecDepth 100000 in
theorem tX3_at (l : Launch) (D : va_G) (k : Nat → ClassId) (q_this q_numbers : Nat) (c_length : Int32) (c_numbers : Nat → Int64) (x1 : Int32) (r_ : Int64) (hf : fX3_at c_length c_numbers x1 = some (r_)) : ML l yX3_at cX3_at 2 (RM 0 0) D k [.ref q_this, .int x1] [oX3 q_this q_numbers c_length, aJ k q_numbers 16 c_numbers] r_ [oX3 q_this q_numbers c_length, aJ k q_numbers 16 c_numbers] := by
  refine mkML' (own := "DoorWalk$Row") (by decide) rfl (Nat.le_of_ble_eq_true rfl) ?_
  intro p e s m args below meth c Q A hret C
  refine ww_lv (lv' := [(0, .ref q_this), (1, .int x1)]) [0, 1] rfl ?_
  unfold fX3_at at hf
  refine ww_iload_n (pc := 0) C dX3_at_0 rfl 1 rfl ?_
  refine ww_if_lt (pc := 1) (tgt := 27) C dX3_at_1 (by decide) (fun hc => ?_) (fun hc => ?_)
  · have hf := ifT hc hf
    refine ww_ldc2 (pc := 27) C dX3_at_27 kc_X3_35 ?_
    obtain e0 := ij1 hf
    exact hret _ _ 30 _ dX3_at_30 e0 rfl
  · have hf := ifF hc hf
    refine ww_iload_n (pc := 4) C dX3_at_4 rfl 1 rfl ?_
    refine ww_aload_n (pc := 5) C dX3_at_5 rfl 0 rfl ?_
    refine gf3_1 (pc := 6) C kf_X3_15 0 rfl rfl dX3_at_6 ?_
    refine ww_icmp_ge (pc := 9) (tgt := 27) C dX3_at_9 (by decide) (fun hc => ?_) (fun hc => ?_)
    · have hf := ifT hc hf
      refine ww_ldc2 (pc := 27) C dX3_at_27 kc_X3_35 ?_
      obtain e0 := ij1 hf
      exact hret _ _ 30 _ dX3_at_30 e0 rfl
    · have hf := ifF hc hf
      refine ww_iload_n (pc := 12) C dX3_at_12 rfl 1 rfl ?_
      refine ww_bipush (pc := 13) C dX3_at_13 kB_16 ?_
      refine ww_icmp_ge (pc := 15) (tgt := 27) C dX3_at_15 (by decide) (fun hc => ?_) (fun hc => ?_)
      · have hf := ifT hc hf
        refine ww_ldc2 (pc := 27) C dX3_at_27 kc_X3_35 ?_
        obtain e0 := ij1 hf
        exact hret _ _ 30 _ dX3_at_30 e0 rfl
      · have hf := ifF hc hf
        refine ww_aload_n (pc := 18) C dX3_at_18 rfl 0 rfl ?_
        refine gf3_0 (pc := 19) C kf_X3_9 0 rfl rfl dX3_at_19 ?_
        refine ww_iload_n (pc := 22) C dX3_at_22 rfl 1 rfl ?_
        obtain ⟨v1, h1, hf⟩ := bsome hf
        refine ww_lald (pc := 23) C 1 rfl h1 dX3_at_23 ?_
        refine ww_goto (pc := 24) (tgt := 30) C dX3_at_24 (by decide) ?_
        obtain e0 := ij1 hf
        exact hret _ _ 30 _ dX3_at_30 e0 rfl
def fX6_at (c_length : Int32) (c_signs : Nat → Int32) (x1 : Int32) : Option Int32 := if x1 < 0 then some ((-1 : Int32)) else if c_length ≤ x1 then some ((-1 : Int32)) else if (80 : Int32) ≤ x1 then some ((-1 : Int32)) else (ald 80 x1 c_signs).bind fun v1 => some (v1)
set_option maxHeartbeats 4000000 in
set_option maxRecDepth 100000 in
theorem tX6_at (l : Launch) (D : va_G) (k : Nat → ClassId) (q_this q_signs : Nat) (c_length : Int32) (c_signs : Nat → Int32) (x1 : Int32) (r_ : Int32) (hf : fX6_at c_length c_signs x1 = some (r_)) : MI l yX6_at cX6_at 2 .int (RM 0 0) D k [.ref q_this, .int x1] [oX6 q_this q_signs c_length, aI k q_signs 80 c_signs] r_ [oX6 q_this q_signs c_length, aI k q_signs 80 c_signs] := by
  refine mkMI' (own := "DoorWalk$Text") (by decide) rfl (Nat.le_of_ble_eq_true rfl) ?_
  intro p e s m args below meth c Q A hret C
  refine ww_lv (lv' := [(0, .ref q_this), (1, .int x1)]) [0, 1] rfl ?_
  unfold fX6_at at hf
  refine ww_iload_n (pc := 0) C dX6_at_0 rfl 1 rfl ?_
  refine ww_if_lt (pc := 1) (tgt := 27) C dX6_at_1 (by decide) (fun hc => ?_) (fun hc => ?_)
  · have hf := ifT hc hf
    refine ww_iconst (pc := 27) C dX6_at_27 kI_m1 ?_
    obtain e0 := ij1 hf
    exact hret _ _ 28 _ dX6_at_28 rfl e0 rfl
  · have hf := ifF hc hf
    refine ww_iload_n (pc := 4) C dX6_at_4 rfl 1 rfl ?_
    refine ww_aload_n (pc := 5) C dX6_at_5 rfl 0 rfl ?_
    refine gf6_1 (pc := 6) C kf_X6_15 0 rfl rfl dX6_at_6 ?_
    refine ww_icmp_ge (pc := 9) (tgt := 27) C dX6_at_9 (by decide) (fun hc => ?_) (fun hc => ?_)
    · have hf := ifT hc hf
      refine ww_iconst (pc := 27) C dX6_at_27 kI_m1 ?_
      obtain e0 := ij1 hf
      exact hret _ _ 28 _ dX6_at_28 rfl e0 rfl
    · have hf := ifF hc hf
      refine ww_iload_n (pc := 12) C dX6_at_12 rfl 1 rfl ?_
      refine ww_bipush (pc := 13) C dX6_at_13 kB_80 ?_
      refine ww_icmp_ge (pc := 15) (tgt := 27) C dX6_at_15 (by decide) (fun hc => ?_) (fun hc => ?_)
      · have hf := ifT hc hf
        refine ww_iconst (pc := 27) C dX6_at_27 kI_m1 ?_
        obtain e0 := ij1 hf
        exact hret _ _ 28 _ dX6_at_28 rfl e0 rfl
      · have hf := ifF hc hf
        refine ww_aload_n (pc := 18) C dX6_at_18 rfl 0 rfl ?_
        refine gf6_0 (pc := 19) C kf_X6_9 0 rfl rfl dX6_at_19 ?_
        refine ww_iload_n (pc := 22) C dX6_at_22 rfl 1 rfl ?_
        obtain ⟨v1, h1, hf⟩ := bsome hf
        refine ww_iald (pc := 23) C 1 rfl h1 dX6_at_23 ?_
        refine ww_goto (pc := 24) (tgt := 28) C dX6_at_24 (by decide) ?_
        obtain e0 := ij1 hf
        exact hret _ _ 28 _ dX6_at_28 rfl e0 rfl
def fX6_digit (c_length : Int32) (c_signs : Nat → Int32) (x1 : Int32) : Option Int32 := (fX6_at c_length c_signs x1).bind fun v1 => if v1 < (48 : Int32) then some ((-1 : Int32)) else if (57 : Int32) < v1 then some ((-1 : Int32)) else some ((v1 - (48 : Int32)))
set_option maxHeartbeats 4000000 in
set_option maxRecDepth 100000 in
theorem tX6_digit (l : Launch) (D : va_G) (k : Nat → ClassId) (q_this q_signs : Nat) (c_length : Int32) (c_signs : Nat → Int32) (x1 : Int32) (r_ : Int32) (hf : fX6_digit c_length c_signs x1 = some (r_)) : MI l yX6_digit cX6_digit 3 .int (RM 1 21) D k [.ref q_this, .int x1] [oX6 q_this q_signs c_length, aI k q_signs 80 c_signs] r_ [oX6 q_this q_signs c_length, aI k q_signs 80 c_signs] := by
  refine mkMI' (own := "DoorWalk$Text") (by decide) rfl (Nat.le_of_ble_eq_true rfl) ?_
  intro p e s m args below meth c Q A hret C
  refine ww_lv (lv' := [(0, .ref q_this), (1, .int x1)]) [0, 1] rfl ?_
  unfold fX6_digit at hf
  refine ww_aload_n (pc := 0) C dX6_digit_0 rfl 0 rfl ?_
  refine ww_iload_n (pc := 1) C dX6_digit_1 rfl 1 rfl ?_
  obtain ⟨v1, h1, hf⟩ := bsome hf
  refine ww_callVi0 (pc := 2) (As := [.int x1]) (rest := []) C (tX6_at l D k q_this q_signs c_length c_signs x1 v1 h1) cv_X6_19 ⟨⟨by decide, by decide⟩, rfl, rfl⟩ 0 rfl rfl [0, 1] rfl rfl rfl rfl (Nat.le_of_ble_eq_true rfl) ⟨Nat.zero_le _, Nat.zero_le _⟩ dX6_digit_2 (fun hb1 => ?_)
  refine ww_istore_n (pc := 5) (lv' := [(2, .int v1), (0, .ref q_this), (1, .int x1)]) C dX6_digit_5 rfl (by decide) rfl ?_
  refine ww_iload_n (pc := 6) C dX6_digit_6 rfl 0 rfl ?_
  refine ww_bipush (pc := 7) C dX6_digit_7 kB_48 ?_
  refine ww_icmp_lt (pc := 9) (tgt := 25) C dX6_digit_9 (by decide) (fun hc => ?_) (fun hc => ?_)
  · have hf := ifT hc hf
    refine ww_iconst (pc := 25) C dX6_digit_25 kI_m1 ?_
    obtain e0 := ij1 hf
    exact hret _ _ 26 _ dX6_digit_26 rfl e0 rfl
  · have hf := ifF hc hf
    refine ww_iload_n (pc := 12) C dX6_digit_12 rfl 0 rfl ?_
    refine ww_bipush (pc := 13) C dX6_digit_13 kB_57 ?_
    refine ww_icmp_gt (pc := 15) (tgt := 25) C dX6_digit_15 (by decide) (fun hc => ?_) (fun hc => ?_)
    · have hf := ifT hc hf
      refine ww_iconst (pc := 25) C dX6_digit_25 kI_m1 ?_
      obtain e0 := ij1 hf
      exact hret _ _ 26 _ dX6_digit_26 rfl e0 rfl
    · have hf := ifF hc hf
      refine ww_iload_n (pc := 18) C dX6_digit_18 rfl 0 rfl ?_
      refine ww_bipush (pc := 19) C dX6_digit_19 kB_48 ?_
      refine ww_isub (pc := 21) C dX6_digit_21  ?_
      refine ww_goto (pc := 22) (tgt := 26) C dX6_digit_22 (by decide) ?_
      obtain e0 := ij1 hf
      exact hret _ _ 26 _ dX6_digit_26 rfl e0 rfl
def fX6_push (c_length : Int32) (c_signs : Nat → Int32) (x1 : Int32) : Option (Int32 × Int32 × (Nat → Int32)) := if c_length < 0 then some ((0 : Int32), c_length, c_signs) else if (c_length + (4 : Int32)) ≤ (80 : Int32) then (ast 80 c_length c_signs (((x1).toUInt32 >>> (((24 : Int32)).toUInt32 &&& Int32.toUInt32 31)).toInt32)).bind fun v1 => (ast 80 (c_length + (1 : Int32)) v1 ((((x1).toUInt32 >>> (((16 : Int32)).toUInt32 &&& Int32.toUInt32 31)).toInt32) &&& (255 : Int32))).bind fun v2 => (ast 80 (c_length + (2 : Int32)) v2 ((((x1).toUInt32 >>> (((8 : Int32)).toUInt32 &&& Int32.toUInt32 31)).toInt32) &&& (255 : Int32))).bind fun v3 => (ast 80 (c_length + (3 : Int32)) v3 (x1 &&& (255 : Int32))).bind fun v4 => (some (c_length + (4 : Int32))).bind fun v5 => some ((1 : Int32), v5, v4) else some ((0 : Int32), c_length, c_signs)
set_option maxHeartbeats 4000000 in
set_option maxRecDepth 100000 in
theorem tX6_push (l : Launch) (D : va_G) (k : Nat → ClassId) (q_this q_signs : Nat) (c_length : Int32) (c_signs : Nat → Int32) (x1 : Int32) (r_ : Int32) (w_length : Int32) (w_signs : Nat → Int32) (hf : fX6_push c_length c_signs x1 = some (r_, w_length, w_signs)) : MI l yX6_push cX6_push 2 .boolean (RM 0 0) D k [.ref q_this, .int x1] [oX6 q_this q_signs c_length, aI k q_signs 80 c_signs] r_ [oX6 q_this q_signs w_length, aI k q_signs 80 w_signs] := by
  refine mkMI' (own := "DoorWalk$Text") (by decide) rfl (Nat.le_of_ble_eq_true rfl) ?_
  intro p e s m args below meth c Q A hret C
  refine ww_lv (lv' := [(0, .ref q_this), (1, .int x1)]) [0, 1] rfl ?_
  unfold fX6_push at hf
  refine ww_aload_n (pc := 0) C dX6_push_0 rfl 0 rfl ?_
  refine gf6_1 (pc := 1) C kf_X6_15 0 rfl rfl dX6_push_1 ?_
  refine ww_if_lt (pc := 4) (tgt := 18) C dX6_push_4 (by decide) (fun hc => ?_) (fun hc => ?_)
  · have hf := ifT hc hf
    refine ww_iconst (pc := 18) C dX6_push_18 kI_0 ?_
    obtain ⟨e0, e1, e2⟩ := ij3 hf
    exact hret _ _ 19 _ dX6_push_19 (by decide) e0 (by rw [← e1, ← e2])
  · have hf := ifF hc hf
    refine ww_aload_n (pc := 7) C dX6_push_7 rfl 0 rfl ?_
    refine gf6_1 (pc := 8) C kf_X6_15 0 rfl rfl dX6_push_8 ?_
    refine ww_iconst (pc := 11) C dX6_push_11 kI_4 ?_
    refine ww_iadd (pc := 12) C dX6_push_12  ?_
    refine ww_bipush (pc := 13) C dX6_push_13 kB_80 ?_
    refine ww_icmp_le (pc := 15) (tgt := 20) C dX6_push_15 (by decide) (fun hc => ?_) (fun hc => ?_)
    · have hf := ifT hc hf
      refine ww_aload_n (pc := 20) C dX6_push_20 rfl 0 rfl ?_
      refine gf6_0 (pc := 21) C kf_X6_9 0 rfl rfl dX6_push_21 ?_
      refine ww_aload_n (pc := 24) C dX6_push_24 rfl 0 rfl ?_
      refine gf6_1 (pc := 25) C kf_X6_15 0 rfl rfl dX6_push_25 ?_
      refine ww_iload_n (pc := 28) C dX6_push_28 rfl 1 rfl ?_
      refine ww_bipush (pc := 29) C dX6_push_29 kB_24 ?_
      refine ww_iushr (pc := 31) C dX6_push_31 rfl ?_
      obtain ⟨v1, h1, hf⟩ := bsome hf
      refine ww_iast (pc := 32) (ws' := [oX6 q_this q_signs c_length, aI k q_signs 80 v1]) C 1 rfl h1 rfl dX6_push_32 ?_
      refine ww_aload_n (pc := 33) C dX6_push_33 rfl 0 rfl ?_
      refine gf6_0 (pc := 34) C kf_X6_9 0 rfl rfl dX6_push_34 ?_
      refine ww_aload_n (pc := 37) C dX6_push_37 rfl 0 rfl ?_
      refine gf6_1 (pc := 38) C kf_X6_15 0 rfl rfl dX6_push_38 ?_
      refine ww_iconst (pc := 41) C dX6_push_41 kI_1 ?_
      refine ww_iadd (pc := 42) C dX6_push_42  ?_
      refine ww_iload_n (pc := 43) C dX6_push_43 rfl 1 rfl ?_
      refine ww_bipush (pc := 44) C dX6_push_44 kB_16 ?_
      refine ww_iushr (pc := 46) C dX6_push_46 rfl ?_
      refine ww_sipush (pc := 47) C dX6_push_47 kS_255 ?_
      refine ww_iand (pc := 50) C dX6_push_50  ?_
      obtain ⟨v2, h2, hf⟩ := bsome hf
      refine ww_iast (pc := 51) (ws' := [oX6 q_this q_signs c_length, aI k q_signs 80 v2]) C 1 rfl h2 rfl dX6_push_51 ?_
      refine ww_aload_n (pc := 52) C dX6_push_52 rfl 0 rfl ?_
      refine gf6_0 (pc := 53) C kf_X6_9 0 rfl rfl dX6_push_53 ?_
      refine ww_aload_n (pc := 56) C dX6_push_56 rfl 0 rfl ?_
      refine gf6_1 (pc := 57) C kf_X6_15 0 rfl rfl dX6_push_57 ?_
      refine ww_iconst (pc := 60) C dX6_push_60 kI_2 ?_
      refine ww_iadd (pc := 61) C dX6_push_61  ?_
      refine ww_iload_n (pc := 62) C dX6_push_62 rfl 1 rfl ?_
      refine ww_bipush (pc := 63) C dX6_push_63 kB_8 ?_
      refine ww_iushr (pc := 65) C dX6_push_65 rfl ?_
      refine ww_sipush (pc := 66) C dX6_push_66 kS_255 ?_
      refine ww_iand (pc := 69) C dX6_push_69  ?_
      obtain ⟨v3, h3, hf⟩ := bsome hf
      refine ww_iast (pc := 70) (ws' := [oX6 q_this q_signs c_length, aI k q_signs 80 v3]) C 1 rfl h3 rfl dX6_push_70 ?_
      refine ww_aload_n (pc := 71) C dX6_push_71 rfl 0 rfl ?_
      refine gf6_0 (pc := 72) C kf_X6_9 0 rfl rfl dX6_push_72 ?_
      refine ww_aload_n (pc := 75) C dX6_push_75 rfl 0 rfl ?_
      refine gf6_1 (pc := 76) C kf_X6_15 0 rfl rfl dX6_push_76 ?_
      refine ww_iconst (pc := 79) C dX6_push_79 kI_3 ?_
      refine ww_iadd (pc := 80) C dX6_push_80  ?_
      refine ww_iload_n (pc := 81) C dX6_push_81 rfl 1 rfl ?_
      refine ww_sipush (pc := 82) C dX6_push_82 kS_255 ?_
      refine ww_iand (pc := 85) C dX6_push_85  ?_
      obtain ⟨v4, h4, hf⟩ := bsome hf
      refine ww_iast (pc := 86) (ws' := [oX6 q_this q_signs c_length, aI k q_signs 80 v4]) C 1 rfl h4 rfl dX6_push_86 ?_
      refine ww_aload_n (pc := 87) C dX6_push_87 rfl 0 rfl ?_
      refine ww_dup (pc := 88) C dX6_push_88 rfl ?_
      refine gf6_1 (pc := 89) C kf_X6_15 0 rfl rfl dX6_push_89 ?_
      refine ww_iconst (pc := 92) C dX6_push_92 kI_4 ?_
      refine ww_iadd (pc := 93) C dX6_push_93  ?_
      obtain ⟨v5, h5, hf⟩ := bsome hf
      refine ww_nmi h5 ?_
      refine pf6_1 (pc := 94) (ws' := [oX6 q_this q_signs v5, aI k q_signs 80 v4]) C kf_X6_15 0 rfl (Nat.le_of_ble_eq_true rfl) rfl dX6_push_94 ?_
      refine ww_iconst (pc := 97) C dX6_push_97 kI_1 ?_
      obtain ⟨e0, e1, e2⟩ := ij3 hf
      exact hret _ _ 98 _ dX6_push_98 (by decide) e0 (by rw [← e1, ← e2])
    · have hf := ifF hc hf
      refine ww_iconst (pc := 18) C dX6_push_18 kI_0 ?_
      obtain ⟨e0, e1, e2⟩ := ij3 hf
      exact hret _ _ 19 _ dX6_push_19 (by decide) e0 (by rw [← e1, ← e2])
def fX6_twoDigits (c_length : Int32) (c_signs : Nat → Int32) (x1 : Int32) : Option Int32 := (fX6_digit c_length c_signs x1).bind fun v1 => (fX6_digit c_length c_signs (x1 + (1 : Int32))).bind fun v2 => some ((((10 : Int32) * v1) + v2))
set_option maxHeartbeats 4000000 in
set_option maxRecDepth 100000 in
theorem tX6_twoDigits (l : Launch) (D : va_G) (k : Nat → ClassId) (q_this q_signs : Nat) (c_length : Int32) (c_signs : Nat → Int32) (x1 : Int32) (r_ : Int32) (hf : fX6_twoDigits c_length c_signs x1 = some (r_)) : MI l yX6_twoDigits cX6_twoDigits 2 .int (RM 2 43) D k [.ref q_this, .int x1] [oX6 q_this q_signs c_length, aI k q_signs 80 c_signs] r_ [oX6 q_this q_signs c_length, aI k q_signs 80 c_signs] := by
  refine mkMI' (own := "DoorWalk$Text") (by decide) rfl (Nat.le_of_ble_eq_true rfl) ?_
  intro p e s m args below meth c Q A hret C
  refine ww_lv (lv' := [(0, .ref q_this), (1, .int x1)]) [0, 1] rfl ?_
  unfold fX6_twoDigits at hf
  refine ww_bipush (pc := 0) C dX6_twoDigits_0 kB_10 ?_
  refine ww_aload_n (pc := 2) C dX6_twoDigits_2 rfl 0 rfl ?_
  refine ww_iload_n (pc := 3) C dX6_twoDigits_3 rfl 1 rfl ?_
  obtain ⟨v1, h1, hf⟩ := bsome hf
  refine ww_callVi0 (pc := 4) (As := [.int x1]) (rest := [.int (10 : Int32)]) C (tX6_digit l D k q_this q_signs c_length c_signs x1 v1 h1) cv_X6_23 ⟨⟨by decide, by decide⟩, rfl, rfl⟩ 0 rfl rfl [0, 1] rfl rfl rfl rfl (Nat.le_of_ble_eq_true rfl) ⟨Nat.zero_le _, Nat.zero_le _⟩ dX6_twoDigits_4 (fun hb1 => ?_)
  refine ww_imul (pc := 7) C dX6_twoDigits_7  ?_
  refine ww_aload_n (pc := 8) C dX6_twoDigits_8 rfl 0 rfl ?_
  refine ww_iload_n (pc := 9) C dX6_twoDigits_9 rfl 1 rfl ?_
  refine ww_iconst (pc := 10) C dX6_twoDigits_10 kI_1 ?_
  refine ww_iadd (pc := 11) C dX6_twoDigits_11  ?_
  obtain ⟨v2, h2, hf⟩ := bsome hf
  refine ww_callVi0 (pc := 12) (As := [.int (x1 + (1 : Int32))]) (rest := [.int ((10 : Int32) * v1)]) C (tX6_digit l D k q_this q_signs c_length c_signs (x1 + (1 : Int32)) v2 h2) cv_X6_23 ⟨⟨by decide, by decide⟩, rfl, rfl⟩ 0 rfl rfl [0, 1] rfl rfl rfl rfl (Nat.le_of_ble_eq_true rfl) ⟨Nat.zero_le _, Nat.zero_le _⟩ dX6_twoDigits_12 (fun hb2 => ?_)
  refine ww_iadd (pc := 15) C dX6_twoDigits_15  ?_
  obtain e0 := ij1 hf
  exact hret _ _ 16 _ dX6_twoDigits_16 rfl e0 rfl
def fJ6_bitCount_0f7a4 (x1 : Int32) : Option Int32 := (some (x1 - ((((x1).toUInt32 >>> (((1 : Int32)).toUInt32 &&& Int32.toUInt32 31)).toInt32) &&& (1431655765 : Int32)))).bind fun v1 => (some ((v1 &&& (858993459 : Int32)) + ((((v1).toUInt32 >>> (((2 : Int32)).toUInt32 &&& Int32.toUInt32 31)).toInt32) &&& (858993459 : Int32)))).bind fun v2 => (some ((v2 + (((v2).toUInt32 >>> (((4 : Int32)).toUInt32 &&& Int32.toUInt32 31)).toInt32)) &&& (252645135 : Int32))).bind fun v3 => (some (v3 + (((v3).toUInt32 >>> (((8 : Int32)).toUInt32 &&& Int32.toUInt32 31)).toInt32))).bind fun v4 => (some (v4 + (((v4).toUInt32 >>> (((16 : Int32)).toUInt32 &&& Int32.toUInt32 31)).toInt32))).bind fun v5 => some ((v5 &&& (63 : Int32)))
set_option maxHeartbeats 4000000 in
set_option maxRecDepth 100000 in
theorem tJ6_bitCount_0f7a4 (l : Launch) (D : va_G) (k : Nat → ClassId)   (x1 : Int32) (r_ : Int32) (hf : fJ6_bitCount_0f7a4 x1 = some (r_)) : MI l yJ6_bitCount_0f7a4 cJ6_bitCount_0f7a4 1 .int (RM 0 0) D k [.int x1] [] r_ [] := by
  refine mkMI' (own := "java/lang/Integer") (by decide) rfl (Nat.le_of_ble_eq_true rfl) ?_
  intro p e s m args below meth c Q A hret C
  refine ww_lv (lv' := [(0, .int x1)]) [0] rfl ?_
  unfold fJ6_bitCount_0f7a4 at hf
  refine ww_iload_n (pc := 0) C dJ6_bitCount_0f7a4_0 rfl 0 rfl ?_
  refine ww_iload_n (pc := 1) C dJ6_bitCount_0f7a4_1 rfl 0 rfl ?_
  refine ww_iconst (pc := 2) C dJ6_bitCount_0f7a4_2 kI_1 ?_
  refine ww_iushr (pc := 3) C dJ6_bitCount_0f7a4_3 rfl ?_
  refine ww_ldcw (pc := 4) C dJ6_bitCount_0f7a4_4 kc_J6_265 ?_
  refine ww_iand (pc := 7) C dJ6_bitCount_0f7a4_7  ?_
  refine ww_isub (pc := 8) C dJ6_bitCount_0f7a4_8  ?_
  obtain ⟨v1, h1, hf⟩ := bsome hf
  refine ww_nmi h1 ?_
  refine ww_istore_n (pc := 9) (lv' := [(0, .int v1)]) C dJ6_bitCount_0f7a4_9 rfl (by decide) rfl ?_
  refine ww_iload_n (pc := 10) C dJ6_bitCount_0f7a4_10 rfl 0 rfl ?_
  refine ww_ldcw (pc := 11) C dJ6_bitCount_0f7a4_11 kc_J6_266 ?_
  refine ww_iand (pc := 14) C dJ6_bitCount_0f7a4_14  ?_
  refine ww_iload_n (pc := 15) C dJ6_bitCount_0f7a4_15 rfl 0 rfl ?_
  refine ww_iconst (pc := 16) C dJ6_bitCount_0f7a4_16 kI_2 ?_
  refine ww_iushr (pc := 17) C dJ6_bitCount_0f7a4_17 rfl ?_
  refine ww_ldcw (pc := 18) C dJ6_bitCount_0f7a4_18 kc_J6_266 ?_
  refine ww_iand (pc := 21) C dJ6_bitCount_0f7a4_21  ?_
  refine ww_iadd (pc := 22) C dJ6_bitCount_0f7a4_22  ?_
  obtain ⟨v2, h2, hf⟩ := bsome hf
  refine ww_nmi h2 ?_
  refine ww_istore_n (pc := 23) (lv' := [(0, .int v2)]) C dJ6_bitCount_0f7a4_23 rfl (by decide) rfl ?_
  refine ww_iload_n (pc := 24) C dJ6_bitCount_0f7a4_24 rfl 0 rfl ?_
  refine ww_iload_n (pc := 25) C dJ6_bitCount_0f7a4_25 rfl 0 rfl ?_
  refine ww_iconst (pc := 26) C dJ6_bitCount_0f7a4_26 kI_4 ?_
  refine ww_iushr (pc := 27) C dJ6_bitCount_0f7a4_27 rfl ?_
  refine ww_iadd (pc := 28) C dJ6_bitCount_0f7a4_28  ?_
  refine ww_ldcw (pc := 29) C dJ6_bitCount_0f7a4_29 kc_J6_267 ?_
  refine ww_iand (pc := 32) C dJ6_bitCount_0f7a4_32  ?_
  obtain ⟨v3, h3, hf⟩ := bsome hf
  refine ww_nmi h3 ?_
  refine ww_istore_n (pc := 33) (lv' := [(0, .int v3)]) C dJ6_bitCount_0f7a4_33 rfl (by decide) rfl ?_
  refine ww_iload_n (pc := 34) C dJ6_bitCount_0f7a4_34 rfl 0 rfl ?_
  refine ww_iload_n (pc := 35) C dJ6_bitCount_0f7a4_35 rfl 0 rfl ?_
  refine ww_bipush (pc := 36) C dJ6_bitCount_0f7a4_36 kB_8 ?_
  refine ww_iushr (pc := 38) C dJ6_bitCount_0f7a4_38 rfl ?_
  refine ww_iadd (pc := 39) C dJ6_bitCount_0f7a4_39  ?_
  obtain ⟨v4, h4, hf⟩ := bsome hf
  refine ww_nmi h4 ?_
  refine ww_istore_n (pc := 40) (lv' := [(0, .int v4)]) C dJ6_bitCount_0f7a4_40 rfl (by decide) rfl ?_
  refine ww_iload_n (pc := 41) C dJ6_bitCount_0f7a4_41 rfl 0 rfl ?_
  refine ww_iload_n (pc := 42) C dJ6_bitCount_0f7a4_42 rfl 0 rfl ?_
  refine ww_bipush (pc := 43) C dJ6_bitCount_0f7a4_43 kB_16 ?_
  refine ww_iushr (pc := 45) C dJ6_bitCount_0f7a4_45 rfl ?_
  refine ww_iadd (pc := 46) C dJ6_bitCount_0f7a4_46  ?_
  obtain ⟨v5, h5, hf⟩ := bsome hf
  refine ww_nmi h5 ?_
  refine ww_istore_n (pc := 47) (lv' := [(0, .int v5)]) C dJ6_bitCount_0f7a4_47 rfl (by decide) rfl ?_
  refine ww_iload_n (pc := 48) C dJ6_bitCount_0f7a4_48 rfl 0 rfl ?_
  refine ww_bipush (pc := 49) C dJ6_bitCount_0f7a4_49 kB_63 ?_
  refine ww_iand (pc := 51) C dJ6_bitCount_0f7a4_51  ?_
  obtain e0 := ij1 hf
  exact hret _ _ 52 _ dJ6_bitCount_0f7a4_52 rfl e0 rfl
