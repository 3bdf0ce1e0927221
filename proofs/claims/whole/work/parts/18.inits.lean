theorem perm_n {X Y : va_W} {n : Nat} (is : List Nat) (hn : X.length = n) (h : is.Perm (List.range n)) (hX : is.map (fun i => X[i]?) = Y.map some) : X.Perm Y := perm_idx is (hn ▸ h) hX
theorem kB_12 : (Int8.ofInt (12)).toInt32 = (12 : Int32) := by decide
theorem kB_64 : (Int8.ofInt (64)).toInt32 = (64 : Int32) := by decide
theorem kS_378 : (Int16.ofInt (378)).toInt32 = (378 : Int32) := by decide
theorem kS_720 : (Int16.ofInt (720)).toInt32 = (720 : Int32) := by decide
theorem kS_1512 : (Int16.ofInt (1512)).toInt32 = (1512 : Int32) := by decide
set_option maxHeartbeats 4000000 in
set_option maxRecDepth 100000 in
theorem tX6_init (l : Launch) (D : va_G) (k : Nat → ClassId) (q_this : Nat) : MVx l yX6_init cX6_init 1 (RMa 1 1 80 20) D k [.ref q_this] [(q_this, .inr (6, [.null, .int (0 : Int32)]))] (fun w => ∃ q1 : Nat, w = [oX6 q_this q1 (0 : Int32), aI k q1 80 (fun _ => 0)]) 1 80 := by
  refine mkMVx (own := "DoorWalk$Text") (by decide) rfl (Nat.le_of_ble_eq_true rfl) ?_
  intro p e s m args below meth c Q A hret hnm C
  refine ww_lv (lv' := [(0, .ref q_this)]) [0] rfl ?_
  refine ww_aload_n (pc := 0) C dX6_init_0 rfl 0 rfl ?_
  refine ww_objInit (pc := 1) C koi_X6 ⟨Nat.le_of_ble_eq_true rfl, Nat.le_of_ble_eq_true rfl⟩ dX6_init_1 ?_
  refine ww_aload_n (pc := 4) C dX6_init_4 rfl 0 rfl ?_
  refine ww_bipush (pc := 5) C dX6_init_5 kB_80 ?_
  refine ww_newaI (pc := 7) (N := 80) C (by decide) (by decide) (by decide) ⟨Nat.le_of_ble_eq_true rfl, Nat.le_of_ble_eq_true rfl⟩ dX6_init_7 (fun q1 => ?_)
  refine ww_perm (ws' := [(q_this, .inr (6, [.null, .int (0 : Int32)])), aI k q1 80 (fun _ => 0)]) (List.Perm.refl _) ?_
  refine pr6_0 (pc := 9) (ws' := [oX6 q_this q1 (0 : Int32), aI k q1 80 (fun _ => 0)]) C hnm kf_X6_9 0 rfl (Nat.le_of_ble_eq_true rfl) rfl dX6_init_9 ?_
  refine ww_aload_n (pc := 12) C dX6_init_12 rfl 0 rfl ?_
  refine ww_iconst (pc := 13) C dX6_init_13 kI_0 ?_
  refine pf6_1 (pc := 14) (ws' := [oX6 q_this q1 (0 : Int32), aI k q1 80 (fun _ => 0)]) C kf_X6_15 0 rfl (Nat.le_of_ble_eq_true rfl) rfl dX6_init_14 ?_
  exact hret _ _ 17 dX6_init_17 ⟨q1, rfl⟩
set_option maxHeartbeats 4000000 in
set_option maxRecDepth 100000 in
theorem tX3_init (l : Launch) (D : va_G) (k : Nat → ClassId) (q_this : Nat) : MVx l yX3_init cX3_init 1 (RMa 1 1 16 20) D k [.ref q_this] [(q_this, .inr (3, [.null, .int (0 : Int32)]))] (fun w => ∃ q1 : Nat, w = [oX3 q_this q1 (0 : Int32), aJ k q1 16 (fun _ => 0)]) 1 16 := by
  refine mkMVx (own := "DoorWalk$Row") (by decide) rfl (Nat.le_of_ble_eq_true rfl) ?_
  intro p e s m args below meth c Q A hret hnm C
  refine ww_lv (lv' := [(0, .ref q_this)]) [0] rfl ?_
  refine ww_aload_n (pc := 0) C dX3_init_0 rfl 0 rfl ?_
  refine ww_objInit (pc := 1) C koi_X3 ⟨Nat.le_of_ble_eq_true rfl, Nat.le_of_ble_eq_true rfl⟩ dX3_init_1 ?_
  refine ww_aload_n (pc := 4) C dX3_init_4 rfl 0 rfl ?_
  refine ww_bipush (pc := 5) C dX3_init_5 kB_16 ?_
  refine ww_newaJ (pc := 7) (N := 16) C (by decide) (by decide) (by decide) ⟨Nat.le_of_ble_eq_true rfl, Nat.le_of_ble_eq_true rfl⟩ dX3_init_7 (fun q1 => ?_)
  refine ww_perm (ws' := [(q_this, .inr (3, [.null, .int (0 : Int32)])), aJ k q1 16 (fun _ => 0)]) (List.Perm.refl _) ?_
  refine pr3_0 (pc := 9) (ws' := [oX3 q_this q1 (0 : Int32), aJ k q1 16 (fun _ => 0)]) C hnm kf_X3_9 0 rfl (Nat.le_of_ble_eq_true rfl) rfl dX3_init_9 ?_
  refine ww_aload_n (pc := 12) C dX3_init_12 rfl 0 rfl ?_
  refine ww_iconst (pc := 13) C dX3_init_13 kI_0 ?_
  refine pf3_1 (pc := 14) (ws' := [oX3 q_this q1 (0 : Int32), aJ k q1 16 (fun _ => 0)]) C kf_X3_15 0 rfl (Nat.le_of_ble_eq_true rfl) rfl dX3_init_14 ?_
  exact hret _ _ 17 dX3_init_17 ⟨q1, rfl⟩
set_option maxHeartbeats 4000000 in
set_option maxRecDepth 100000 in
theorem tX0_init (l : Launch) (D : va_G) (k : Nat → ClassId) (q_this : Nat) : MVx l yX0_init cX0_init 1 (RMa 1 2 1024 20) D k [.ref q_this] [(q_this, .inr (0, [.null, .null, .int (0 : Int32), .int (0 : Int32), .int (0 : Int32)]))] (fun w => ∃ q1 q2 : Nat, w = [oX0 q_this q1 q2 (0 : Int32) (0 : Int32) (0 : Int32), aI k q1 512 (fun _ => 0), aI k q2 512 (fun _ => 0)]) 2 1024 := by
  refine mkMVx (own := "DoorWalk$Doors") (by decide) rfl (Nat.le_of_ble_eq_true rfl) ?_
  intro p e s m args below meth c Q A hret hnm C
  refine ww_lv (lv' := [(0, .ref q_this)]) [0] rfl ?_
  refine ww_aload_n (pc := 0) C dX0_init_0 rfl 0 rfl ?_
  refine ww_objInit (pc := 1) C koi_X0 ⟨Nat.le_of_ble_eq_true rfl, Nat.le_of_ble_eq_true rfl⟩ dX0_init_1 ?_
  refine ww_aload_n (pc := 4) C dX0_init_4 rfl 0 rfl ?_
  refine ww_sipush (pc := 5) C dX0_init_5 kS_512 ?_
  refine ww_newaI (pc := 8) (N := 512) C (by decide) (by decide) (by decide) ⟨Nat.le_of_ble_eq_true rfl, Nat.le_of_ble_eq_true rfl⟩ dX0_init_8 (fun q1 => ?_)
  refine ww_perm (ws' := [(q_this, .inr (0, [.null, .null, .int (0 : Int32), .int (0 : Int32), .int (0 : Int32)])), aI k q1 512 (fun _ => 0)]) (List.Perm.refl _) ?_
  refine pr0_0 (pc := 10) (ws' := [(q_this, .inr (0, [.ref q1, .null, .int (0 : Int32), .int (0 : Int32), .int (0 : Int32)])), aI k q1 512 (fun _ => 0)]) C hnm kf_X0_9 0 rfl (Nat.le_of_ble_eq_true rfl) rfl dX0_init_10 ?_
  refine ww_aload_n (pc := 13) C dX0_init_13 rfl 0 rfl ?_
  refine ww_sipush (pc := 14) C dX0_init_14 kS_512 ?_
  refine ww_newaI (pc := 17) (N := 512) C (by decide) (by decide) (by decide) ⟨Nat.le_of_ble_eq_true rfl, Nat.le_of_ble_eq_true rfl⟩ dX0_init_17 (fun q2 => ?_)
  refine ww_perm (ws' := [(q_this, .inr (0, [.ref q1, .null, .int (0 : Int32), .int (0 : Int32), .int (0 : Int32)])), aI k q1 512 (fun _ => 0), aI k q2 512 (fun _ => 0)]) (List.Perm.refl _) ?_
  refine pr0_1 (pc := 19) (ws' := [oX0 q_this q1 q2 (0 : Int32) (0 : Int32) (0 : Int32), aI k q1 512 (fun _ => 0), aI k q2 512 (fun _ => 0)]) C hnm kf_X0_15 0 rfl (Nat.le_of_ble_eq_true rfl) rfl dX0_init_19 ?_
  refine ww_aload_n (pc := 22) C dX0_init_22 rfl 0 rfl ?_
  refine ww_iconst (pc := 23) C dX0_init_23 kI_0 ?_
  refine pf0_2 (pc := 24) (ws' := [oX0 q_this q1 q2 (0 : Int32) (0 : Int32) (0 : Int32), aI k q1 512 (fun _ => 0), aI k q2 512 (fun _ => 0)]) C kf_X0_18 0 rfl (Nat.le_of_ble_eq_true rfl) rfl dX0_init_24 ?_
  refine ww_aload_n (pc := 27) C dX0_init_27 rfl 0 rfl ?_
  refine ww_iconst (pc := 28) C dX0_init_28 kI_0 ?_
  refine pf0_3 (pc := 29) (ws' := [oX0 q_this q1 q2 (0 : Int32) (0 : Int32) (0 : Int32), aI k q1 512 (fun _ => 0), aI k q2 512 (fun _ => 0)]) C kf_X0_22 0 rfl (Nat.le_of_ble_eq_true rfl) (by decide) (by decide) rfl dX0_init_29 ?_
  refine ww_aload_n (pc := 32) C dX0_init_32 rfl 0 rfl ?_
  refine ww_iconst (pc := 33) C dX0_init_33 kI_0 ?_
  refine pf0_4 (pc := 34) (ws' := [oX0 q_this q1 q2 (0 : Int32) (0 : Int32) (0 : Int32), aI k q1 512 (fun _ => 0), aI k q2 512 (fun _ => 0)]) C kf_X0_26 0 rfl (Nat.le_of_ble_eq_true rfl) rfl dX0_init_34 ?_
  exact hret _ _ 37 dX0_init_37 ⟨q1, q2, rfl⟩
set_option maxHeartbeats 4000000 in
set_option maxRecDepth 100000 in
theorem tX2_init (l : Launch) (D : va_G) (k : Nat → ClassId) (q_this : Nat) : MVx l yX2_init cX2_init 1 (RMa 1 1 9 20) D k [.ref q_this] [(q_this, .inr (2, [.null, .int (0 : Int32), .int (0 : Int32)]))] (fun w => ∃ q1 : Nat, w = [oX2 q_this q1 (0 : Int32) (0 : Int32), aS k q1 9 (fun _ => none)]) 1 9 := by
  refine mkMVx (own := "DoorWalk$History") (by decide) rfl (Nat.le_of_ble_eq_true rfl) ?_
  intro p e s m args below meth c Q A hret hnm C
  refine ww_lv (lv' := [(0, .ref q_this)]) [0] rfl ?_
  refine ww_aload_n (pc := 0) C dX2_init_0 rfl 0 rfl ?_
  refine ww_objInit (pc := 1) C koi_X2 ⟨Nat.le_of_ble_eq_true rfl, Nat.le_of_ble_eq_true rfl⟩ dX2_init_1 ?_
  refine ww_aload_n (pc := 4) C dX2_init_4 rfl 0 rfl ?_
  refine ww_bipush (pc := 5) C dX2_init_5 kB_9 ?_
  refine ww_newS (pc := 7) (N := 9) C kcl_X2_9 (by decide) (by decide) (by decide) ⟨Nat.le_of_ble_eq_true rfl, Nat.le_of_ble_eq_true rfl⟩ dX2_init_7 (fun q1 => ?_)
  refine ww_perm (ws' := [(q_this, .inr (2, [.null, .int (0 : Int32), .int (0 : Int32)])), aS k q1 9 (fun _ => none)]) (List.Perm.refl _) ?_
  refine pr2_0 (pc := 10) (ws' := [oX2 q_this q1 (0 : Int32) (0 : Int32), aS k q1 9 (fun _ => none)]) C hnm kf_X2_11 0 rfl (Nat.le_of_ble_eq_true rfl) rfl dX2_init_10 ?_
  refine ww_aload_n (pc := 13) C dX2_init_13 rfl 0 rfl ?_
  refine ww_iconst (pc := 14) C dX2_init_14 kI_0 ?_
  refine pf2_1 (pc := 15) (ws' := [oX2 q_this q1 (0 : Int32) (0 : Int32), aS k q1 9 (fun _ => none)]) C kf_X2_17 0 rfl (Nat.le_of_ble_eq_true rfl) rfl dX2_init_15 ?_
  refine ww_aload_n (pc := 18) C dX2_init_18 rfl 0 rfl ?_
  refine ww_iconst (pc := 19) C dX2_init_19 kI_0 ?_
  refine pf2_2 (pc := 20) (ws' := [oX2 q_this q1 (0 : Int32) (0 : Int32), aS k q1 9 (fun _ => none)]) C kf_X2_21 0 rfl (Nat.le_of_ble_eq_true rfl) rfl dX2_init_20 ?_
  exact hret _ _ 23 dX2_init_23 ⟨q1, rfl⟩
set_option maxHeartbeats 4000000 in
set_option maxRecDepth 100000 in
theorem tX4_init (l : Launch) (D : va_G) (k : Nat → ClassId) (q_this : Nat) : MVx l yX4_init cX4_init 1 (RMa 1 3 33 20) D k [.ref q_this] [(q_this, .inr (4, [.null, .null, .null, .int (0 : Int32), .int (0 : Int32)]))] (fun w => ∃ q1 q2 q3 : Nat, w = [oX4 q_this q1 q2 q3 (0 : Int32) (0 : Int32), aI k q1 12 (fun _ => 0), aI k q2 12 (fun _ => 0), aJ k q3 9 (fun _ => 0)]) 3 33 := by
  refine mkMVx (own := "DoorWalk$Rule") (by decide) rfl (Nat.le_of_ble_eq_true rfl) ?_
  intro p e s m args below meth c Q A hret hnm C
  refine ww_lv (lv' := [(0, .ref q_this)]) [0] rfl ?_
  refine ww_aload_n (pc := 0) C dX4_init_0 rfl 0 rfl ?_
  refine ww_objInit (pc := 1) C koi_X4 ⟨Nat.le_of_ble_eq_true rfl, Nat.le_of_ble_eq_true rfl⟩ dX4_init_1 ?_
  refine ww_aload_n (pc := 4) C dX4_init_4 rfl 0 rfl ?_
  refine ww_bipush (pc := 5) C dX4_init_5 kB_12 ?_
  refine ww_newaI (pc := 7) (N := 12) C (by decide) (by decide) (by decide) ⟨Nat.le_of_ble_eq_true rfl, Nat.le_of_ble_eq_true rfl⟩ dX4_init_7 (fun q1 => ?_)
  refine ww_perm (ws' := [(q_this, .inr (4, [.null, .null, .null, .int (0 : Int32), .int (0 : Int32)])), aI k q1 12 (fun _ => 0)]) (List.Perm.refl _) ?_
  refine pr4_0 (pc := 9) (ws' := [(q_this, .inr (4, [.ref q1, .null, .null, .int (0 : Int32), .int (0 : Int32)])), aI k q1 12 (fun _ => 0)]) C hnm kf_X4_9 0 rfl (Nat.le_of_ble_eq_true rfl) rfl dX4_init_9 ?_
  refine ww_aload_n (pc := 12) C dX4_init_12 rfl 0 rfl ?_
  refine ww_bipush (pc := 13) C dX4_init_13 kB_12 ?_
  refine ww_newaI (pc := 15) (N := 12) C (by decide) (by decide) (by decide) ⟨Nat.le_of_ble_eq_true rfl, Nat.le_of_ble_eq_true rfl⟩ dX4_init_15 (fun q2 => ?_)
  refine ww_perm (ws' := [(q_this, .inr (4, [.ref q1, .null, .null, .int (0 : Int32), .int (0 : Int32)])), aI k q1 12 (fun _ => 0), aI k q2 12 (fun _ => 0)]) (List.Perm.refl _) ?_
  refine pr4_1 (pc := 17) (ws' := [(q_this, .inr (4, [.ref q1, .ref q2, .null, .int (0 : Int32), .int (0 : Int32)])), aI k q1 12 (fun _ => 0), aI k q2 12 (fun _ => 0)]) C hnm kf_X4_15 0 rfl (Nat.le_of_ble_eq_true rfl) rfl dX4_init_17 ?_
  refine ww_aload_n (pc := 20) C dX4_init_20 rfl 0 rfl ?_
  refine ww_bipush (pc := 21) C dX4_init_21 kB_9 ?_
  refine ww_newaJ (pc := 23) (N := 9) C (by decide) (by decide) (by decide) ⟨Nat.le_of_ble_eq_true rfl, Nat.le_of_ble_eq_true rfl⟩ dX4_init_23 (fun q3 => ?_)
  refine ww_perm (ws' := [(q_this, .inr (4, [.ref q1, .ref q2, .null, .int (0 : Int32), .int (0 : Int32)])), aI k q1 12 (fun _ => 0), aI k q2 12 (fun _ => 0), aJ k q3 9 (fun _ => 0)]) (List.Perm.refl _) ?_
  refine pr4_2 (pc := 25) (ws' := [oX4 q_this q1 q2 q3 (0 : Int32) (0 : Int32), aI k q1 12 (fun _ => 0), aI k q2 12 (fun _ => 0), aJ k q3 9 (fun _ => 0)]) C hnm kf_X4_18 0 rfl (Nat.le_of_ble_eq_true rfl) rfl dX4_init_25 ?_
  refine ww_aload_n (pc := 28) C dX4_init_28 rfl 0 rfl ?_
  refine ww_iconst (pc := 29) C dX4_init_29 kI_0 ?_
  refine pf4_3 (pc := 30) (ws' := [oX4 q_this q1 q2 q3 (0 : Int32) (0 : Int32), aI k q1 12 (fun _ => 0), aI k q2 12 (fun _ => 0), aJ k q3 9 (fun _ => 0)]) C kf_X4_22 0 rfl (Nat.le_of_ble_eq_true rfl) rfl dX4_init_30 ?_
  refine ww_aload_n (pc := 33) C dX4_init_33 rfl 0 rfl ?_
  refine ww_iconst (pc := 34) C dX4_init_34 kI_0 ?_
  refine pf4_4 (pc := 35) (ws' := [oX4 q_this q1 q2 q3 (0 : Int32) (0 : Int32), aI k q1 12 (fun _ => 0), aI k q2 12 (fun _ => 0), aJ k q3 9 (fun _ => 0)]) C kf_X4_26 0 rfl (Nat.le_of_ble_eq_true rfl) rfl dX4_init_35 ?_
  exact hret _ _ 38 dX4_init_38 ⟨q1, q2, q3, rfl⟩
def fX1_init_b80 (c_size : Int32) (rc40 : (Nat → Int32) → Int32 → Option ((Nat → Int32))) (rc50 : (Nat → Int32) → Int32 → Int32 → Option ((Nat → Int32))) (c_marks : Nat → Int32) (n1 : Int32) (n2 : Int32) (s1 : Int32) (s2 : Int32) (s3 : Int32) : Option ((Nat → Int32)) := (fX1_put c_size c_marks s1 s2 s3).bind fun v1 => (some (n2 + (1 : Int32))).bind fun v2 => rc50 v1 n1 v2
def fX1_init_b50 (c_size : Int32) (rc40 : (Nat → Int32) → Int32 → Option ((Nat → Int32))) (rc50 : (Nat → Int32) → Int32 → Int32 → Option ((Nat → Int32))) (c_marks : Nat → Int32) (n1 : Int32) (n2 : Int32) : Option ((Nat → Int32)) := if (c_size - n1) < n2 then (some (n1 + (1 : Int32))).bind fun v1 => rc40 c_marks v1 else if n1 ≤ 0 then if n2 ≤ 0 then fX1_init_b80 c_size rc40 rc50 c_marks n1 n2 n1 n2 (2 : Int32) else fX1_init_b80 c_size rc40 rc50 c_marks n1 n2 n1 n2 (1 : Int32) else fX1_init_b80 c_size rc40 rc50 c_marks n1 n2 n1 n2 (0 : Int32)
def fX1_init_b40 (c_size : Int32) (rc40 : (Nat → Int32) → Int32 → Option ((Nat → Int32))) (c_marks : Nat → Int32) (n1 : Int32) : Option ((Nat → Int32)) := if c_size < n1 then some (c_marks) else lfix (fX1_init_b50 c_size rc40) (fun _ _ _ => none) FU c_marks n1 (0 : Int32)
def fX1_init (c_size : Int32) (c_marks : Nat → Int32) : Option ((Nat → Int32)) := lfix (fX1_init_b40 c_size) (fun _ _ => none) FU c_marks (0 : Int32)
set_option maxHeartbeats 4000000 in
set_option maxRecDepth 100000 in
theorem tX1_init (l : Launch) (D : va_G) (k : Nat → ClassId) (q_this : Nat) (w_marks : Nat → Int32) (hf0 : fX1_init (4 : Int32) (fun _ => 0) = some w_marks) : MVx l yX1_init cX1_init 3 (RMa 2 1 153 45) D k [.ref q_this] [(q_this, .inr (1, [.null, .int (0 : Int32), .int (0 : Int32), .int (0 : Int32), .int (0 : Int32), .int (0 : Int32)]))] (fun w => ∃ q1 : Nat, w = [oX1 q_this q1 (4 : Int32) (0 : Int32) (0 : Int32) (-1 : Int32) (-1 : Int32), aI k q1 153 w_marks]) 1 153 := by
  refine mkMVx (own := "DoorWalk$Grid") (by decide) rfl (Nat.le_of_ble_eq_true rfl) ?_
  intro p e s m args below meth c Q A hret hnm C
  refine ww_lv (lv' := [(0, .ref q_this)]) [0] rfl ?_
  have main : ∀ (q_marks : Nat) (c_size : Int32) (c_full : Int32) (c_turns : Int32) (c_firstFull : Int32) (c_lastFull : Int32) (c_marks : Nat → Int32), fX1_init c_size c_marks = some w_marks → (∀ (lv2 : List (Nat × Value)) (pc2 : Nat), decode cX1_init pc2 = .ok (.return_, 1) → WW p l e (RMa 2 1 153 45) s m args below meth c Q 3 D A 1 153 [oX1 q_this q_marks c_size c_full c_turns c_firstFull c_lastFull, aI k q_marks 153 w_marks] lv2 pc2 []) → WW p l e (RMa 2 1 153 45) s m args below meth c Q 3 D A 1 153 [oX1 q_this q_marks c_size c_full c_turns c_firstFull c_lastFull, aI k q_marks 153 c_marks] [(0, .ref q_this)] 38 [] := by
    intro q_marks c_size c_full c_turns c_firstFull c_lastFull c_marks hf hend
    have hL40 : ∀ (n : Nat) (c_marks : Nat → Int32) (n1 : Int32), lfix (fX1_init_b40 c_size) (fun _ _ => none) n c_marks n1 = some w_marks → WW p l e (RMa 2 1 153 45) s m args below meth c Q 3 D A 1 153 [oX1 q_this q_marks c_size c_full c_turns c_firstFull c_lastFull, aI k q_marks 153 c_marks] [(0, .ref q_this), (1, .int n1)] 40 [] := by
      intro n
      induction n with
      | zero => intro c_marks n1 hf; cases hf
      | succ n ih40 =>
        obtain ⟨rc40, hrc40⟩ : ∃ f9, f9 = lfix (fX1_init_b40 c_size) (fun _ _ => none) n := ⟨_, rfl⟩
        rw [← hrc40] at ih40
        have hL50 : ∀ (n : Nat) (c_marks : Nat → Int32) (n1 : Int32) (n2 : Int32), lfix (fX1_init_b50 c_size rc40) (fun _ _ _ => none) n c_marks n1 n2 = some w_marks → WW p l e (RMa 2 1 153 45) s m args below meth c Q 3 D A 1 153 [oX1 q_this q_marks c_size c_full c_turns c_firstFull c_lastFull, aI k q_marks 153 c_marks] [(0, .ref q_this), (1, .int n1), (2, .int n2)] 50 [] := by
          intro n
          induction n with
          | zero => intro c_marks n1 n2 hf; cases hf
          | succ n ih50 =>
            obtain ⟨rc50, hrc50⟩ : ∃ f9, f9 = lfix (fX1_init_b50 c_size rc40) (fun _ _ _ => none) n := ⟨_, rfl⟩
            rw [← hrc50] at ih50
            have hJ80 : ∀ (c_marks : Nat → Int32) (n1 : Int32) (n2 : Int32) (s1 : Int32) (s2 : Int32) (s3 : Int32), fX1_init_b80 c_size rc40 rc50 c_marks n1 n2 s1 s2 s3 = some w_marks → WW p l e (RMa 2 1 153 45) s m args below meth c Q 3 D A 1 153 [oX1 q_this q_marks c_size c_full c_turns c_firstFull c_lastFull, aI k q_marks 153 c_marks] [(0, .ref q_this), (1, .int n1), (2, .int n2)] 80 [.int s3, .int s2, .int s1, .ref q_this] := by
              intro c_marks n1 n2 s1 s2 s3
              intro hf
              unfold fX1_init_b80 at hf
              obtain ⟨v1, h1, hf⟩ := bsome hf
              refine ww_callVv (pc := 80) (ws' := [oX1 q_this q_marks c_size c_full c_turns c_firstFull c_lastFull, aI k q_marks 153 v1]) (As := [.int s1, .int s2, .int s3]) (rest := []) C (tX1_put l D k q_this q_marks c_size c_full c_turns c_firstFull c_lastFull c_marks s1 s2 s3 v1 h1) cv_X1_31 ⟨⟨by decide, by decide⟩, rfl, rfl⟩ 0 rfl rfl [0, 1] rfl rfl rfl rfl rfl rfl (Nat.le_of_ble_eq_true rfl) ⟨Nat.le_of_ble_eq_true rfl, Nat.le_of_ble_eq_true rfl⟩ dX1_init_80 ?_
              obtain ⟨v2, h2, hf⟩ := bsome hf
              refine ww_iincN (pc := 83) (lv' := [(2, .int v2), (0, .ref q_this), (1, .int n1)]) (j := 2) C dX1_init_83 kI_1 rfl h2 (by decide) rfl ?_
              refine ww_goto (pc := 86) (tgt := 50) C dX1_init_86 (by decide) ?_
              exact ww_lv [1, 2, 0] rfl (ih50 v1 n1 v2 hf)
            intro c_marks n1 n2 hf
            have hf : fX1_init_b50 c_size rc40 rc50 c_marks n1 n2 = some w_marks := by rw [hrc50]; exact hf
            unfold fX1_init_b50 at hf
            refine ww_iload_n (pc := 50) C dX1_init_50 rfl 2 rfl ?_
            refine ww_aload_n (pc := 51) C dX1_init_51 rfl 0 rfl ?_
            refine gf1_1 (pc := 52) C kf_X1_15 0 rfl rfl dX1_init_52 ?_
            refine ww_iload_n (pc := 55) C dX1_init_55 rfl 1 rfl ?_
            refine ww_isub (pc := 56) C dX1_init_56  ?_
            refine ww_icmp_gt (pc := 57) (tgt := 89) C dX1_init_57 (by decide) (fun hc => ?_) (fun hc => ?_)
            · have hf := ifT hc hf
              obtain ⟨v1, h1, hf⟩ := bsome hf
              refine ww_iincN (pc := 89) (lv' := [(1, .int v1), (0, .ref q_this), (2, .int n2)]) (j := 1) C dX1_init_89 kI_1 rfl h1 (by decide) rfl ?_
              refine ww_goto (pc := 92) (tgt := 40) C dX1_init_92 (by decide) ?_
              exact ww_lv [1, 0] rfl (ih40 c_marks v1 hf)
            · have hf := ifF hc hf
              refine ww_aload_n (pc := 60) C dX1_init_60 rfl 0 rfl ?_
              refine ww_iload_n (pc := 61) C dX1_init_61 rfl 1 rfl ?_
              refine ww_iload_n (pc := 62) C dX1_init_62 rfl 2 rfl ?_
              refine ww_iload_n (pc := 63) C dX1_init_63 rfl 1 rfl ?_
              refine ww_if_le (pc := 64) (tgt := 71) C dX1_init_64 (by decide) (fun hc => ?_) (fun hc => ?_)
              · have hf := ifT hc hf
                refine ww_iload_n (pc := 71) C dX1_init_71 rfl 2 rfl ?_
                refine ww_if_le (pc := 72) (tgt := 79) C dX1_init_72 (by decide) (fun hc => ?_) (fun hc => ?_)
                · have hf := ifT hc hf
                  refine ww_iconst (pc := 79) C dX1_init_79 kI_2 ?_
                  exact hJ80 c_marks n1 n2 n1 n2 (2 : Int32) hf
                · have hf := ifF hc hf
                  refine ww_iconst (pc := 75) C dX1_init_75 kI_1 ?_
                  refine ww_goto (pc := 76) (tgt := 80) C dX1_init_76 (by decide) ?_
                  exact hJ80 c_marks n1 n2 n1 n2 (1 : Int32) hf
              · have hf := ifF hc hf
                refine ww_iconst (pc := 67) C dX1_init_67 kI_0 ?_
                refine ww_goto (pc := 68) (tgt := 80) C dX1_init_68 (by decide) ?_
                exact hJ80 c_marks n1 n2 n1 n2 (0 : Int32) hf
        intro c_marks n1 hf
        have hf : fX1_init_b40 c_size rc40 c_marks n1 = some w_marks := by rw [hrc40]; exact hf
        unfold fX1_init_b40 at hf
        refine ww_iload_n (pc := 40) C dX1_init_40 rfl 1 rfl ?_
        refine ww_aload_n (pc := 41) C dX1_init_41 rfl 0 rfl ?_
        refine gf1_1 (pc := 42) C kf_X1_15 0 rfl rfl dX1_init_42 ?_
        refine ww_icmp_gt (pc := 45) (tgt := 95) C dX1_init_45 (by decide) (fun hc => ?_) (fun hc => ?_)
        · have hf := ifT hc hf
          obtain e0 := ij1 hf
          rw [e0]; exact hend _ 95 dX1_init_95
        · have hf := ifF hc hf
          refine ww_iconst (pc := 48) C dX1_init_48 kI_0 ?_
          refine ww_istore_n (pc := 49) (lv' := [(2, .int (0 : Int32)), (0, .ref q_this), (1, .int n1)]) C dX1_init_49 rfl (by decide) rfl ?_
          exact ww_lv [1, 2, 0] rfl (hL50 FU c_marks n1 (0 : Int32) hf)
    unfold fX1_init at hf
    refine ww_iconst (pc := 38) C dX1_init_38 kI_0 ?_
    refine ww_istore_n (pc := 39) (lv' := [(1, .int (0 : Int32)), (0, .ref q_this)]) C dX1_init_39 rfl (by decide) rfl ?_
    exact ww_lv [1, 0] rfl (hL40 FU c_marks (0 : Int32) hf)
  refine ww_aload_n (pc := 0) C dX1_init_0 rfl 0 rfl ?_
  refine ww_objInit (pc := 1) C koi_X1 ⟨Nat.le_of_ble_eq_true rfl, Nat.le_of_ble_eq_true rfl⟩ dX1_init_1 ?_
  refine ww_aload_n (pc := 4) C dX1_init_4 rfl 0 rfl ?_
  refine ww_sipush (pc := 5) C dX1_init_5 kS_153 ?_
  refine ww_newaI (pc := 8) (N := 153) C (by decide) (by decide) (by decide) ⟨Nat.le_of_ble_eq_true rfl, Nat.le_of_ble_eq_true rfl⟩ dX1_init_8 (fun q1 => ?_)
  refine ww_perm (ws' := [(q_this, .inr (1, [.null, .int (0 : Int32), .int (0 : Int32), .int (0 : Int32), .int (0 : Int32), .int (0 : Int32)])), aI k q1 153 (fun _ => 0)]) (List.Perm.refl _) ?_
  refine pr1_0 (pc := 10) (ws' := [oX1 q_this q1 (0 : Int32) (0 : Int32) (0 : Int32) (0 : Int32) (0 : Int32), aI k q1 153 (fun _ => 0)]) C hnm kf_X1_9 0 rfl (Nat.le_of_ble_eq_true rfl) rfl dX1_init_10 ?_
  refine ww_aload_n (pc := 13) C dX1_init_13 rfl 0 rfl ?_
  refine ww_iconst (pc := 14) C dX1_init_14 kI_4 ?_
  refine pf1_1 (pc := 15) (ws' := [oX1 q_this q1 (4 : Int32) (0 : Int32) (0 : Int32) (0 : Int32) (0 : Int32), aI k q1 153 (fun _ => 0)]) C kf_X1_15 0 rfl (Nat.le_of_ble_eq_true rfl) rfl dX1_init_15 ?_
  refine ww_aload_n (pc := 18) C dX1_init_18 rfl 0 rfl ?_
  refine ww_iconst (pc := 19) C dX1_init_19 kI_0 ?_
  refine pf1_2 (pc := 20) (ws' := [oX1 q_this q1 (4 : Int32) (0 : Int32) (0 : Int32) (0 : Int32) (0 : Int32), aI k q1 153 (fun _ => 0)]) C kf_X1_19 0 rfl (Nat.le_of_ble_eq_true rfl) rfl dX1_init_20 ?_
  refine ww_aload_n (pc := 23) C dX1_init_23 rfl 0 rfl ?_
  refine ww_iconst (pc := 24) C dX1_init_24 kI_0 ?_
  refine pf1_3 (pc := 25) (ws' := [oX1 q_this q1 (4 : Int32) (0 : Int32) (0 : Int32) (0 : Int32) (0 : Int32), aI k q1 153 (fun _ => 0)]) C kf_X1_22 0 rfl (Nat.le_of_ble_eq_true rfl) rfl dX1_init_25 ?_
  refine ww_aload_n (pc := 28) C dX1_init_28 rfl 0 rfl ?_
  refine ww_iconst (pc := 29) C dX1_init_29 kI_m1 ?_
  refine pf1_4 (pc := 30) (ws' := [oX1 q_this q1 (4 : Int32) (0 : Int32) (0 : Int32) (-1 : Int32) (0 : Int32), aI k q1 153 (fun _ => 0)]) C kf_X1_25 0 rfl (Nat.le_of_ble_eq_true rfl) rfl dX1_init_30 ?_
  refine ww_aload_n (pc := 33) C dX1_init_33 rfl 0 rfl ?_
  refine ww_iconst (pc := 34) C dX1_init_34 kI_m1 ?_
  refine pf1_5 (pc := 35) (ws' := [oX1 q_this q1 (4 : Int32) (0 : Int32) (0 : Int32) (-1 : Int32) (-1 : Int32), aI k q1 153 (fun _ => 0)]) C kf_X1_28 0 rfl (Nat.le_of_ble_eq_true rfl) rfl dX1_init_35 ?_
  exact main q1 _ _ _ _ _ _ hf0 (fun lv2 pc2 hd => hret _ lv2 pc2 hd ⟨q1, rfl⟩)
def mk0 : Nat → Int32 := (fX1_init (4 : Int32) (fun _ => 0)).getD (fun _ => 0)
theorem mk0_ok : fX1_init (4 : Int32) (fun _ => 0) = some mk0 := by
  have h : (fX1_init (4 : Int32) (fun _ => 0)).isSome = true := by decide +kernel
  obtain ⟨v, hv⟩ := Option.isSome_iff_exists.mp h
  unfold mk0; rw [hv]; rfl
set_option maxHeartbeats 4000000 in
set_option maxRecDepth 100000 in
theorem tX5_init (l : Launch) (D : va_G) (k : Nat → ClassId) (q_this : Nat) : MVx l yX5_init cX5_init 1 (RMa 3 6 197 67) D k [.ref q_this] [(q_this, .inr (5, [.null, .null]))] (fun w => ∃ q1 q2 q3 q4 q5 q6 : Nat, w = [oX5 q_this q1 q3, oX1 q1 q2 (4 : Int32) (0 : Int32) (0 : Int32) (-1 : Int32) (-1 : Int32), aI k q2 153 mk0, oX4 q3 q4 q5 q6 (0 : Int32) (0 : Int32), aI k q4 12 (fun _ => 0), aI k q5 12 (fun _ => 0), aJ k q6 9 (fun _ => 0)]) 6 197 := by
  refine mkMVx (own := "DoorWalk$State") (by decide) rfl (Nat.le_of_ble_eq_true rfl) ?_
  intro p e s m args below meth c Q A hret hnm C
  refine ww_lv (lv' := [(0, .ref q_this)]) [0] rfl ?_
  refine ww_aload_n (pc := 0) C dX5_init_0 rfl 0 rfl ?_
  refine ww_objInit (pc := 1) C koi_X5 ⟨Nat.le_of_ble_eq_true rfl, Nat.le_of_ble_eq_true rfl⟩ dX5_init_1 ?_
  refine ww_aload_n (pc := 4) C dX5_init_4 rfl 0 rfl ?_
  refine ww_new1 (pc := 5) C kcl_X5_7 ⟨Nat.le_of_ble_eq_true rfl, Nat.le_of_ble_eq_true rfl⟩ dX5_init_5 (fun q1 => ?_)
  refine ww_perm (ws' := [(q_this, .inr (5, [.null, .null])), (q1, .inr (1, [.null, .int (0 : Int32), .int (0 : Int32), .int (0 : Int32), .int (0 : Int32), .int (0 : Int32)]))]) (List.Perm.refl _) ?_
  refine ww_dup (pc := 8) C dX5_init_8 rfl ?_
  refine ww_callPI (pc := 9) (wr := [(q_this, .inr (5, [.null, .null]))]) (rest := [.ref q1, .ref q_this]) C (tX1_init l D k q1 mk0 mk0_ok) ci_X5_9 ⟨⟨Nat.le_of_ble_eq_true rfl, Nat.le_of_ble_eq_true rfl⟩, rfl, rfl⟩ (perm_n (n := 2) [1, 0] rfl (by decide) rfl) rfl (Nat.le_of_ble_eq_true rfl) ⟨Nat.le_of_ble_eq_true rfl, Nat.le_of_ble_eq_true rfl⟩ dX5_init_9 (fun wF hwF => ?_)
  obtain ⟨q2, rfl⟩ := hwF
  refine ww_perm (ws' := [(q_this, .inr (5, [.null, .null])), oX1 q1 q2 (4 : Int32) (0 : Int32) (0 : Int32) (-1 : Int32) (-1 : Int32), aI k q2 153 mk0]) (perm_n (n := 3) [2, 0, 1] rfl (by decide) rfl) ?_
  refine pr5_0 (pc := 12) (ws' := [(q_this, .inr (5, [.ref q1, .null])), oX1 q1 q2 (4 : Int32) (0 : Int32) (0 : Int32) (-1 : Int32) (-1 : Int32), aI k q2 153 mk0]) C hnm kf_X5_10 0 rfl (Nat.le_of_ble_eq_true rfl) rfl dX5_init_12 ?_
  refine ww_aload_n (pc := 15) C dX5_init_15 rfl 0 rfl ?_
  refine ww_new4 (pc := 16) C kcl_X5_16 ⟨Nat.le_of_ble_eq_true rfl, Nat.le_of_ble_eq_true rfl⟩ dX5_init_16 (fun q3 => ?_)
  refine ww_perm (ws' := [(q_this, .inr (5, [.ref q1, .null])), oX1 q1 q2 (4 : Int32) (0 : Int32) (0 : Int32) (-1 : Int32) (-1 : Int32), aI k q2 153 mk0, (q3, .inr (4, [.null, .null, .null, .int (0 : Int32), .int (0 : Int32)]))]) (List.Perm.refl _) ?_
  refine ww_dup (pc := 19) C dX5_init_19 rfl ?_
  refine ww_callPI (pc := 20) (wr := [(q_this, .inr (5, [.ref q1, .null])), oX1 q1 q2 (4 : Int32) (0 : Int32) (0 : Int32) (-1 : Int32) (-1 : Int32), aI k q2 153 mk0]) (rest := [.ref q3, .ref q_this]) C (tX4_init l D k q3) ci_X5_18 ⟨⟨Nat.le_of_ble_eq_true rfl, Nat.le_of_ble_eq_true rfl⟩, rfl, rfl⟩ (perm_n (n := 4) [3, 0, 1, 2] rfl (by decide) rfl) rfl (Nat.le_of_ble_eq_true rfl) ⟨Nat.le_of_ble_eq_true rfl, Nat.le_of_ble_eq_true rfl⟩ dX5_init_20 (fun wF hwF => ?_)
  obtain ⟨q4, q5, q6, rfl⟩ := hwF
  refine ww_perm (ws' := [(q_this, .inr (5, [.ref q1, .null])), oX1 q1 q2 (4 : Int32) (0 : Int32) (0 : Int32) (-1 : Int32) (-1 : Int32), aI k q2 153 mk0, oX4 q3 q4 q5 q6 (0 : Int32) (0 : Int32), aI k q4 12 (fun _ => 0), aI k q5 12 (fun _ => 0), aJ k q6 9 (fun _ => 0)]) (perm_n (n := 7) [4, 5, 6, 0, 1, 2, 3] rfl (by decide) rfl) ?_
  refine pr5_1 (pc := 23) (ws' := [oX5 q_this q1 q3, oX1 q1 q2 (4 : Int32) (0 : Int32) (0 : Int32) (-1 : Int32) (-1 : Int32), aI k q2 153 mk0, oX4 q3 q4 q5 q6 (0 : Int32) (0 : Int32), aI k q4 12 (fun _ => 0), aI k q5 12 (fun _ => 0), aJ k q6 9 (fun _ => 0)]) C hnm kf_X5_19 0 rfl (Nat.le_of_ble_eq_true rfl) rfl dX5_init_23 ?_
  exact hret _ _ 26 dX5_init_26 ⟨q1, q2, q3, q4, q5, q6, rfl⟩
set_option maxHeartbeats 4000000 in
set_option maxRecDepth 100000 in
theorem tX7_init (l : Launch) (D : va_G) (k : Nat → ClassId) (q_this : Nat) : MVx l yX7_init cX7_init 1 (RMa 4 19 1501 87) D k [.ref q_this] [(q_this, .inr (7, [.null, .null, .null, .null, .null, .null, .null]))] (fun w => ∃ q1 q2 q3 q4 q5 q6 q7 q8 q9 q10 q11 q12 q13 q14 q15 q16 q17 q18 q19 : Nat, w = [oX7 q_this q1 q3 q5 q12 q14 q17 q19, oX6 q1 q2 (0 : Int32), aI k q2 80 (fun _ => 0), oX3 q3 q4 (0 : Int32), aJ k q4 16 (fun _ => 0), oX5 q5 q6 q8, oX1 q6 q7 (4 : Int32) (0 : Int32) (0 : Int32) (-1 : Int32) (-1 : Int32), aI k q7 153 mk0, oX4 q8 q9 q10 q11 (0 : Int32) (0 : Int32), aI k q9 12 (fun _ => 0), aI k q10 12 (fun _ => 0), aJ k q11 9 (fun _ => 0), oX1 q12 q13 (4 : Int32) (0 : Int32) (0 : Int32) (-1 : Int32) (-1 : Int32), aI k q13 153 mk0, oX0 q14 q15 q16 (0 : Int32) (0 : Int32) (0 : Int32), aI k q15 512 (fun _ => 0), aI k q16 512 (fun _ => 0), oX2 q17 q18 (0 : Int32) (0 : Int32), aS k q18 9 (fun _ => none), aS k q19 2 (fun _ => none)]) 19 1501 := by
  refine mkMVx (own := "DoorWalk") (by decide) rfl (Nat.le_of_ble_eq_true rfl) ?_
  intro p e s m args below meth c Q A hret hnm C
  refine ww_lv (lv' := [(0, .ref q_this)]) [0] rfl ?_
  refine ww_aload_n (pc := 0) C dX7_init_0 rfl 0 rfl ?_
  refine ww_objInit (pc := 1) C koi_X7 ⟨Nat.le_of_ble_eq_true rfl, Nat.le_of_ble_eq_true rfl⟩ dX7_init_1 ?_
  refine ww_aload_n (pc := 4) C dX7_init_4 rfl 0 rfl ?_
  refine ww_new6 (pc := 5) C kcl_X7_9 ⟨Nat.le_of_ble_eq_true rfl, Nat.le_of_ble_eq_true rfl⟩ dX7_init_5 (fun q1 => ?_)
  refine ww_perm (ws' := [(q_this, .inr (7, [.null, .null, .null, .null, .null, .null, .null])), (q1, .inr (6, [.null, .int (0 : Int32)]))]) (List.Perm.refl _) ?_
  refine ww_dup (pc := 8) C dX7_init_8 rfl ?_
  refine ww_callPI (pc := 9) (wr := [(q_this, .inr (7, [.null, .null, .null, .null, .null, .null, .null]))]) (rest := [.ref q1, .ref q_this]) C (tX6_init l D k q1) ci_X7_11 ⟨⟨Nat.le_of_ble_eq_true rfl, Nat.le_of_ble_eq_true rfl⟩, rfl, rfl⟩ (perm_n (n := 2) [1, 0] rfl (by decide) rfl) rfl (Nat.le_of_ble_eq_true rfl) ⟨Nat.le_of_ble_eq_true rfl, Nat.le_of_ble_eq_true rfl⟩ dX7_init_9 (fun wF hwF => ?_)
  obtain ⟨q2, rfl⟩ := hwF
  refine ww_perm (ws' := [(q_this, .inr (7, [.null, .null, .null, .null, .null, .null, .null])), oX6 q1 q2 (0 : Int32), aI k q2 80 (fun _ => 0)]) (perm_n (n := 3) [2, 0, 1] rfl (by decide) rfl) ?_
  refine pr7_0 (pc := 12) (ws' := [(q_this, .inr (7, [.ref q1, .null, .null, .null, .null, .null, .null])), oX6 q1 q2 (0 : Int32), aI k q2 80 (fun _ => 0)]) C hnm kf_X7_12 0 rfl (Nat.le_of_ble_eq_true rfl) rfl dX7_init_12 ?_
  refine ww_aload_n (pc := 15) C dX7_init_15 rfl 0 rfl ?_
  refine ww_new3 (pc := 16) C kcl_X7_16 ⟨Nat.le_of_ble_eq_true rfl, Nat.le_of_ble_eq_true rfl⟩ dX7_init_16 (fun q3 => ?_)
  refine ww_perm (ws' := [(q_this, .inr (7, [.ref q1, .null, .null, .null, .null, .null, .null])), oX6 q1 q2 (0 : Int32), aI k q2 80 (fun _ => 0), (q3, .inr (3, [.null, .int (0 : Int32)]))]) (List.Perm.refl _) ?_
  refine ww_dup (pc := 19) C dX7_init_19 rfl ?_
  refine ww_callPI (pc := 20) (wr := [(q_this, .inr (7, [.ref q1, .null, .null, .null, .null, .null, .null])), oX6 q1 q2 (0 : Int32), aI k q2 80 (fun _ => 0)]) (rest := [.ref q3, .ref q_this]) C (tX3_init l D k q3) ci_X7_18 ⟨⟨Nat.le_of_ble_eq_true rfl, Nat.le_of_ble_eq_true rfl⟩, rfl, rfl⟩ (perm_n (n := 4) [3, 0, 1, 2] rfl (by decide) rfl) rfl (Nat.le_of_ble_eq_true rfl) ⟨Nat.le_of_ble_eq_true rfl, Nat.le_of_ble_eq_true rfl⟩ dX7_init_20 (fun wF hwF => ?_)
  obtain ⟨q4, rfl⟩ := hwF
  refine ww_perm (ws' := [(q_this, .inr (7, [.ref q1, .null, .null, .null, .null, .null, .null])), oX6 q1 q2 (0 : Int32), aI k q2 80 (fun _ => 0), oX3 q3 q4 (0 : Int32), aJ k q4 16 (fun _ => 0)]) (perm_n (n := 5) [2, 3, 4, 0, 1] rfl (by decide) rfl) ?_
  refine pr7_1 (pc := 23) (ws' := [(q_this, .inr (7, [.ref q1, .ref q3, .null, .null, .null, .null, .null])), oX6 q1 q2 (0 : Int32), aI k q2 80 (fun _ => 0), oX3 q3 q4 (0 : Int32), aJ k q4 16 (fun _ => 0)]) C hnm kf_X7_19 0 rfl (Nat.le_of_ble_eq_true rfl) rfl dX7_init_23 ?_
  refine ww_aload_n (pc := 26) C dX7_init_26 rfl 0 rfl ?_
  refine ww_new5 (pc := 27) C kcl_X7_23 ⟨Nat.le_of_ble_eq_true rfl, Nat.le_of_ble_eq_true rfl⟩ dX7_init_27 (fun q5 => ?_)
  refine ww_perm (ws' := [(q_this, .inr (7, [.ref q1, .ref q3, .null, .null, .null, .null, .null])), oX6 q1 q2 (0 : Int32), aI k q2 80 (fun _ => 0), oX3 q3 q4 (0 : Int32), aJ k q4 16 (fun _ => 0), (q5, .inr (5, [.null, .null]))]) (List.Perm.refl _) ?_
  refine ww_dup (pc := 30) C dX7_init_30 rfl ?_
  refine ww_callPI (pc := 31) (wr := [(q_this, .inr (7, [.ref q1, .ref q3, .null, .null, .null, .null, .null])), oX6 q1 q2 (0 : Int32), aI k q2 80 (fun _ => 0), oX3 q3 q4 (0 : Int32), aJ k q4 16 (fun _ => 0)]) (rest := [.ref q5, .ref q_this]) C (tX5_init l D k q5) ci_X7_25 ⟨⟨Nat.le_of_ble_eq_true rfl, Nat.le_of_ble_eq_true rfl⟩, rfl, rfl⟩ (perm_n (n := 6) [5, 0, 1, 2, 3, 4] rfl (by decide) rfl) rfl (Nat.le_of_ble_eq_true rfl) ⟨Nat.le_of_ble_eq_true rfl, Nat.le_of_ble_eq_true rfl⟩ dX7_init_31 (fun wF hwF => ?_)
  obtain ⟨q6, q7, q8, q9, q10, q11, rfl⟩ := hwF
  refine ww_perm (ws' := [(q_this, .inr (7, [.ref q1, .ref q3, .null, .null, .null, .null, .null])), oX6 q1 q2 (0 : Int32), aI k q2 80 (fun _ => 0), oX3 q3 q4 (0 : Int32), aJ k q4 16 (fun _ => 0), oX5 q5 q6 q8, oX1 q6 q7 (4 : Int32) (0 : Int32) (0 : Int32) (-1 : Int32) (-1 : Int32), aI k q7 153 mk0, oX4 q8 q9 q10 q11 (0 : Int32) (0 : Int32), aI k q9 12 (fun _ => 0), aI k q10 12 (fun _ => 0), aJ k q11 9 (fun _ => 0)]) (perm_n (n := 12) [7, 8, 9, 10, 11, 0, 1, 2, 3, 4, 5, 6] rfl (by decide) rfl) ?_
  refine pr7_2 (pc := 34) (ws' := [(q_this, .inr (7, [.ref q1, .ref q3, .ref q5, .null, .null, .null, .null])), oX6 q1 q2 (0 : Int32), aI k q2 80 (fun _ => 0), oX3 q3 q4 (0 : Int32), aJ k q4 16 (fun _ => 0), oX5 q5 q6 q8, oX1 q6 q7 (4 : Int32) (0 : Int32) (0 : Int32) (-1 : Int32) (-1 : Int32), aI k q7 153 mk0, oX4 q8 q9 q10 q11 (0 : Int32) (0 : Int32), aI k q9 12 (fun _ => 0), aI k q10 12 (fun _ => 0), aJ k q11 9 (fun _ => 0)]) C hnm kf_X7_26 0 rfl (Nat.le_of_ble_eq_true rfl) rfl dX7_init_34 ?_
  refine ww_aload_n (pc := 37) C dX7_init_37 rfl 0 rfl ?_
  refine ww_new1 (pc := 38) C kcl_X7_30 ⟨Nat.le_of_ble_eq_true rfl, Nat.le_of_ble_eq_true rfl⟩ dX7_init_38 (fun q12 => ?_)
  refine ww_perm (ws' := [(q_this, .inr (7, [.ref q1, .ref q3, .ref q5, .null, .null, .null, .null])), oX6 q1 q2 (0 : Int32), aI k q2 80 (fun _ => 0), oX3 q3 q4 (0 : Int32), aJ k q4 16 (fun _ => 0), oX5 q5 q6 q8, oX1 q6 q7 (4 : Int32) (0 : Int32) (0 : Int32) (-1 : Int32) (-1 : Int32), aI k q7 153 mk0, oX4 q8 q9 q10 q11 (0 : Int32) (0 : Int32), aI k q9 12 (fun _ => 0), aI k q10 12 (fun _ => 0), aJ k q11 9 (fun _ => 0), (q12, .inr (1, [.null, .int (0 : Int32), .int (0 : Int32), .int (0 : Int32), .int (0 : Int32), .int (0 : Int32)]))]) (List.Perm.refl _) ?_
  refine ww_dup (pc := 41) C dX7_init_41 rfl ?_
  refine ww_callPI (pc := 42) (wr := [(q_this, .inr (7, [.ref q1, .ref q3, .ref q5, .null, .null, .null, .null])), oX6 q1 q2 (0 : Int32), aI k q2 80 (fun _ => 0), oX3 q3 q4 (0 : Int32), aJ k q4 16 (fun _ => 0), oX5 q5 q6 q8, oX1 q6 q7 (4 : Int32) (0 : Int32) (0 : Int32) (-1 : Int32) (-1 : Int32), aI k q7 153 mk0, oX4 q8 q9 q10 q11 (0 : Int32) (0 : Int32), aI k q9 12 (fun _ => 0), aI k q10 12 (fun _ => 0), aJ k q11 9 (fun _ => 0)]) (rest := [.ref q12, .ref q_this]) C (tX1_init l D k q12 mk0 mk0_ok) ci_X7_32 ⟨⟨Nat.le_of_ble_eq_true rfl, Nat.le_of_ble_eq_true rfl⟩, rfl, rfl⟩ (perm_n (n := 13) [12, 0, 1, 2, 3, 4, 5, 6, 7, 8, 9, 10, 11] rfl (by decide) rfl) rfl (Nat.le_of_ble_eq_true rfl) ⟨Nat.le_of_ble_eq_true rfl, Nat.le_of_ble_eq_true rfl⟩ dX7_init_42 (fun wF hwF => ?_)
  obtain ⟨q13, rfl⟩ := hwF
  refine ww_perm (ws' := [(q_this, .inr (7, [.ref q1, .ref q3, .ref q5, .null, .null, .null, .null])), oX6 q1 q2 (0 : Int32), aI k q2 80 (fun _ => 0), oX3 q3 q4 (0 : Int32), aJ k q4 16 (fun _ => 0), oX5 q5 q6 q8, oX1 q6 q7 (4 : Int32) (0 : Int32) (0 : Int32) (-1 : Int32) (-1 : Int32), aI k q7 153 mk0, oX4 q8 q9 q10 q11 (0 : Int32) (0 : Int32), aI k q9 12 (fun _ => 0), aI k q10 12 (fun _ => 0), aJ k q11 9 (fun _ => 0), oX1 q12 q13 (4 : Int32) (0 : Int32) (0 : Int32) (-1 : Int32) (-1 : Int32), aI k q13 153 mk0]) (perm_n (n := 14) [2, 3, 4, 5, 6, 7, 8, 9, 10, 11, 12, 13, 0, 1] rfl (by decide) rfl) ?_
  refine pr7_3 (pc := 45) (ws' := [(q_this, .inr (7, [.ref q1, .ref q3, .ref q5, .ref q12, .null, .null, .null])), oX6 q1 q2 (0 : Int32), aI k q2 80 (fun _ => 0), oX3 q3 q4 (0 : Int32), aJ k q4 16 (fun _ => 0), oX5 q5 q6 q8, oX1 q6 q7 (4 : Int32) (0 : Int32) (0 : Int32) (-1 : Int32) (-1 : Int32), aI k q7 153 mk0, oX4 q8 q9 q10 q11 (0 : Int32) (0 : Int32), aI k q9 12 (fun _ => 0), aI k q10 12 (fun _ => 0), aJ k q11 9 (fun _ => 0), oX1 q12 q13 (4 : Int32) (0 : Int32) (0 : Int32) (-1 : Int32) (-1 : Int32), aI k q13 153 mk0]) C hnm kf_X7_33 0 rfl (Nat.le_of_ble_eq_true rfl) rfl dX7_init_45 ?_
  refine ww_aload_n (pc := 48) C dX7_init_48 rfl 0 rfl ?_
  refine ww_new0 (pc := 49) C kcl_X7_37 ⟨Nat.le_of_ble_eq_true rfl, Nat.le_of_ble_eq_true rfl⟩ dX7_init_49 (fun q14 => ?_)
  refine ww_perm (ws' := [(q_this, .inr (7, [.ref q1, .ref q3, .ref q5, .ref q12, .null, .null, .null])), oX6 q1 q2 (0 : Int32), aI k q2 80 (fun _ => 0), oX3 q3 q4 (0 : Int32), aJ k q4 16 (fun _ => 0), oX5 q5 q6 q8, oX1 q6 q7 (4 : Int32) (0 : Int32) (0 : Int32) (-1 : Int32) (-1 : Int32), aI k q7 153 mk0, oX4 q8 q9 q10 q11 (0 : Int32) (0 : Int32), aI k q9 12 (fun _ => 0), aI k q10 12 (fun _ => 0), aJ k q11 9 (fun _ => 0), oX1 q12 q13 (4 : Int32) (0 : Int32) (0 : Int32) (-1 : Int32) (-1 : Int32), aI k q13 153 mk0, (q14, .inr (0, [.null, .null, .int (0 : Int32), .int (0 : Int32), .int (0 : Int32)]))]) (List.Perm.refl _) ?_
  refine ww_dup (pc := 52) C dX7_init_52 rfl ?_
  refine ww_callPI (pc := 53) (wr := [(q_this, .inr (7, [.ref q1, .ref q3, .ref q5, .ref q12, .null, .null, .null])), oX6 q1 q2 (0 : Int32), aI k q2 80 (fun _ => 0), oX3 q3 q4 (0 : Int32), aJ k q4 16 (fun _ => 0), oX5 q5 q6 q8, oX1 q6 q7 (4 : Int32) (0 : Int32) (0 : Int32) (-1 : Int32) (-1 : Int32), aI k q7 153 mk0, oX4 q8 q9 q10 q11 (0 : Int32) (0 : Int32), aI k q9 12 (fun _ => 0), aI k q10 12 (fun _ => 0), aJ k q11 9 (fun _ => 0), oX1 q12 q13 (4 : Int32) (0 : Int32) (0 : Int32) (-1 : Int32) (-1 : Int32), aI k q13 153 mk0]) (rest := [.ref q14, .ref q_this]) C (tX0_init l D k q14) ci_X7_39 ⟨⟨Nat.le_of_ble_eq_true rfl, Nat.le_of_ble_eq_true rfl⟩, rfl, rfl⟩ (perm_n (n := 15) [14, 0, 1, 2, 3, 4, 5, 6, 7, 8, 9, 10, 11, 12, 13] rfl (by decide) rfl) rfl (Nat.le_of_ble_eq_true rfl) ⟨Nat.le_of_ble_eq_true rfl, Nat.le_of_ble_eq_true rfl⟩ dX7_init_53 (fun wF hwF => ?_)
  obtain ⟨q15, q16, rfl⟩ := hwF
  refine ww_perm (ws' := [(q_this, .inr (7, [.ref q1, .ref q3, .ref q5, .ref q12, .null, .null, .null])), oX6 q1 q2 (0 : Int32), aI k q2 80 (fun _ => 0), oX3 q3 q4 (0 : Int32), aJ k q4 16 (fun _ => 0), oX5 q5 q6 q8, oX1 q6 q7 (4 : Int32) (0 : Int32) (0 : Int32) (-1 : Int32) (-1 : Int32), aI k q7 153 mk0, oX4 q8 q9 q10 q11 (0 : Int32) (0 : Int32), aI k q9 12 (fun _ => 0), aI k q10 12 (fun _ => 0), aJ k q11 9 (fun _ => 0), oX1 q12 q13 (4 : Int32) (0 : Int32) (0 : Int32) (-1 : Int32) (-1 : Int32), aI k q13 153 mk0, oX0 q14 q15 q16 (0 : Int32) (0 : Int32) (0 : Int32), aI k q15 512 (fun _ => 0), aI k q16 512 (fun _ => 0)]) (perm_n (n := 17) [3, 4, 5, 6, 7, 8, 9, 10, 11, 12, 13, 14, 15, 16, 0, 1, 2] rfl (by decide) rfl) ?_
  refine pr7_4 (pc := 56) (ws' := [(q_this, .inr (7, [.ref q1, .ref q3, .ref q5, .ref q12, .ref q14, .null, .null])), oX6 q1 q2 (0 : Int32), aI k q2 80 (fun _ => 0), oX3 q3 q4 (0 : Int32), aJ k q4 16 (fun _ => 0), oX5 q5 q6 q8, oX1 q6 q7 (4 : Int32) (0 : Int32) (0 : Int32) (-1 : Int32) (-1 : Int32), aI k q7 153 mk0, oX4 q8 q9 q10 q11 (0 : Int32) (0 : Int32), aI k q9 12 (fun _ => 0), aI k q10 12 (fun _ => 0), aJ k q11 9 (fun _ => 0), oX1 q12 q13 (4 : Int32) (0 : Int32) (0 : Int32) (-1 : Int32) (-1 : Int32), aI k q13 153 mk0, oX0 q14 q15 q16 (0 : Int32) (0 : Int32) (0 : Int32), aI k q15 512 (fun _ => 0), aI k q16 512 (fun _ => 0)]) C hnm kf_X7_40 0 rfl (Nat.le_of_ble_eq_true rfl) rfl dX7_init_56 ?_
  refine ww_aload_n (pc := 59) C dX7_init_59 rfl 0 rfl ?_
  refine ww_new2 (pc := 60) C kcl_X7_44 ⟨Nat.le_of_ble_eq_true rfl, Nat.le_of_ble_eq_true rfl⟩ dX7_init_60 (fun q17 => ?_)
  refine ww_perm (ws' := [(q_this, .inr (7, [.ref q1, .ref q3, .ref q5, .ref q12, .ref q14, .null, .null])), oX6 q1 q2 (0 : Int32), aI k q2 80 (fun _ => 0), oX3 q3 q4 (0 : Int32), aJ k q4 16 (fun _ => 0), oX5 q5 q6 q8, oX1 q6 q7 (4 : Int32) (0 : Int32) (0 : Int32) (-1 : Int32) (-1 : Int32), aI k q7 153 mk0, oX4 q8 q9 q10 q11 (0 : Int32) (0 : Int32), aI k q9 12 (fun _ => 0), aI k q10 12 (fun _ => 0), aJ k q11 9 (fun _ => 0), oX1 q12 q13 (4 : Int32) (0 : Int32) (0 : Int32) (-1 : Int32) (-1 : Int32), aI k q13 153 mk0, oX0 q14 q15 q16 (0 : Int32) (0 : Int32) (0 : Int32), aI k q15 512 (fun _ => 0), aI k q16 512 (fun _ => 0), (q17, .inr (2, [.null, .int (0 : Int32), .int (0 : Int32)]))]) (List.Perm.refl _) ?_
  refine ww_dup (pc := 63) C dX7_init_63 rfl ?_
  refine ww_callPI (pc := 64) (wr := [(q_this, .inr (7, [.ref q1, .ref q3, .ref q5, .ref q12, .ref q14, .null, .null])), oX6 q1 q2 (0 : Int32), aI k q2 80 (fun _ => 0), oX3 q3 q4 (0 : Int32), aJ k q4 16 (fun _ => 0), oX5 q5 q6 q8, oX1 q6 q7 (4 : Int32) (0 : Int32) (0 : Int32) (-1 : Int32) (-1 : Int32), aI k q7 153 mk0, oX4 q8 q9 q10 q11 (0 : Int32) (0 : Int32), aI k q9 12 (fun _ => 0), aI k q10 12 (fun _ => 0), aJ k q11 9 (fun _ => 0), oX1 q12 q13 (4 : Int32) (0 : Int32) (0 : Int32) (-1 : Int32) (-1 : Int32), aI k q13 153 mk0, oX0 q14 q15 q16 (0 : Int32) (0 : Int32) (0 : Int32), aI k q15 512 (fun _ => 0), aI k q16 512 (fun _ => 0)]) (rest := [.ref q17, .ref q_this]) C (tX2_init l D k q17) ci_X7_46 ⟨⟨Nat.le_of_ble_eq_true rfl, Nat.le_of_ble_eq_true rfl⟩, rfl, rfl⟩ (perm_n (n := 18) [17, 0, 1, 2, 3, 4, 5, 6, 7, 8, 9, 10, 11, 12, 13, 14, 15, 16] rfl (by decide) rfl) rfl (Nat.le_of_ble_eq_true rfl) ⟨Nat.le_of_ble_eq_true rfl, Nat.le_of_ble_eq_true rfl⟩ dX7_init_64 (fun wF hwF => ?_)
  obtain ⟨q18, rfl⟩ := hwF
  refine ww_perm (ws' := [(q_this, .inr (7, [.ref q1, .ref q3, .ref q5, .ref q12, .ref q14, .null, .null])), oX6 q1 q2 (0 : Int32), aI k q2 80 (fun _ => 0), oX3 q3 q4 (0 : Int32), aJ k q4 16 (fun _ => 0), oX5 q5 q6 q8, oX1 q6 q7 (4 : Int32) (0 : Int32) (0 : Int32) (-1 : Int32) (-1 : Int32), aI k q7 153 mk0, oX4 q8 q9 q10 q11 (0 : Int32) (0 : Int32), aI k q9 12 (fun _ => 0), aI k q10 12 (fun _ => 0), aJ k q11 9 (fun _ => 0), oX1 q12 q13 (4 : Int32) (0 : Int32) (0 : Int32) (-1 : Int32) (-1 : Int32), aI k q13 153 mk0, oX0 q14 q15 q16 (0 : Int32) (0 : Int32) (0 : Int32), aI k q15 512 (fun _ => 0), aI k q16 512 (fun _ => 0), oX2 q17 q18 (0 : Int32) (0 : Int32), aS k q18 9 (fun _ => none)]) (perm_n (n := 19) [2, 3, 4, 5, 6, 7, 8, 9, 10, 11, 12, 13, 14, 15, 16, 17, 18, 0, 1] rfl (by decide) rfl) ?_
  refine pr7_5 (pc := 67) (ws' := [(q_this, .inr (7, [.ref q1, .ref q3, .ref q5, .ref q12, .ref q14, .ref q17, .null])), oX6 q1 q2 (0 : Int32), aI k q2 80 (fun _ => 0), oX3 q3 q4 (0 : Int32), aJ k q4 16 (fun _ => 0), oX5 q5 q6 q8, oX1 q6 q7 (4 : Int32) (0 : Int32) (0 : Int32) (-1 : Int32) (-1 : Int32), aI k q7 153 mk0, oX4 q8 q9 q10 q11 (0 : Int32) (0 : Int32), aI k q9 12 (fun _ => 0), aI k q10 12 (fun _ => 0), aJ k q11 9 (fun _ => 0), oX1 q12 q13 (4 : Int32) (0 : Int32) (0 : Int32) (-1 : Int32) (-1 : Int32), aI k q13 153 mk0, oX0 q14 q15 q16 (0 : Int32) (0 : Int32) (0 : Int32), aI k q15 512 (fun _ => 0), aI k q16 512 (fun _ => 0), oX2 q17 q18 (0 : Int32) (0 : Int32), aS k q18 9 (fun _ => none)]) C hnm kf_X7_47 0 rfl (Nat.le_of_ble_eq_true rfl) rfl dX7_init_67 ?_
  refine ww_aload_n (pc := 70) C dX7_init_70 rfl 0 rfl ?_
  refine ww_iconst (pc := 71) C dX7_init_71 kI_2 ?_
  refine ww_newS (pc := 72) (N := 2) C kcl_X7_23 (by decide) (by decide) (by decide) ⟨Nat.le_of_ble_eq_true rfl, Nat.le_of_ble_eq_true rfl⟩ dX7_init_72 (fun q19 => ?_)
  refine ww_perm (ws' := [(q_this, .inr (7, [.ref q1, .ref q3, .ref q5, .ref q12, .ref q14, .ref q17, .null])), oX6 q1 q2 (0 : Int32), aI k q2 80 (fun _ => 0), oX3 q3 q4 (0 : Int32), aJ k q4 16 (fun _ => 0), oX5 q5 q6 q8, oX1 q6 q7 (4 : Int32) (0 : Int32) (0 : Int32) (-1 : Int32) (-1 : Int32), aI k q7 153 mk0, oX4 q8 q9 q10 q11 (0 : Int32) (0 : Int32), aI k q9 12 (fun _ => 0), aI k q10 12 (fun _ => 0), aJ k q11 9 (fun _ => 0), oX1 q12 q13 (4 : Int32) (0 : Int32) (0 : Int32) (-1 : Int32) (-1 : Int32), aI k q13 153 mk0, oX0 q14 q15 q16 (0 : Int32) (0 : Int32) (0 : Int32), aI k q15 512 (fun _ => 0), aI k q16 512 (fun _ => 0), oX2 q17 q18 (0 : Int32) (0 : Int32), aS k q18 9 (fun _ => none), aS k q19 2 (fun _ => none)]) (List.Perm.refl _) ?_
  refine pr7_6 (pc := 75) (ws' := [oX7 q_this q1 q3 q5 q12 q14 q17 q19, oX6 q1 q2 (0 : Int32), aI k q2 80 (fun _ => 0), oX3 q3 q4 (0 : Int32), aJ k q4 16 (fun _ => 0), oX5 q5 q6 q8, oX1 q6 q7 (4 : Int32) (0 : Int32) (0 : Int32) (-1 : Int32) (-1 : Int32), aI k q7 153 mk0, oX4 q8 q9 q10 q11 (0 : Int32) (0 : Int32), aI k q9 12 (fun _ => 0), aI k q10 12 (fun _ => 0), aJ k q11 9 (fun _ => 0), oX1 q12 q13 (4 : Int32) (0 : Int32) (0 : Int32) (-1 : Int32) (-1 : Int32), aI k q13 153 mk0, oX0 q14 q15 q16 (0 : Int32) (0 : Int32) (0 : Int32), aI k q15 512 (fun _ => 0), aI k q16 512 (fun _ => 0), oX2 q17 q18 (0 : Int32) (0 : Int32), aS k q18 9 (fun _ => none), aS k q19 2 (fun _ => none)]) C hnm kf_X7_51 0 rfl (Nat.le_of_ble_eq_true rfl) rfl dX7_init_75 ?_
  exact hret _ _ 78 dX7_init_78 ⟨q1, q2, q3, q4, q5, q6, q7, q8, q9, q10, q11, q12, q13, q14, q15, q16, q17, q18, q19, rfl⟩
def nw0 : Nat → Int32 := upd (fun _ => 0) 0 4
theorem nw0_ok : ast 189 (0 : Int32) (fun _ => 0) (4 : Int32) = some nw0 := rfl
set_option maxHeartbeats 4000000 in
set_option maxRecDepth 100000 in
theorem tX8_init (l : Launch) (D : va_G) (k : Nat → ClassId) (q_this : Nat) (nw1 : Nat → Int32) (h1 : fX8_layFirst nw0 = some nw1) : MVx l yX8_init cX8_init 1 (RMa 3 15 5403 64) D k [.ref q_this] [(q_this, .inr (8, [.null, .null, .int (0 : Int32), .null, .int (0 : Int32), .int (0 : Int32), .int (0 : Int32), .int (0 : Int32), .int (0 : Int32), .null, .null, .null, .int (0 : Int32), .null, .int (0 : Int32), .int (0 : Int32), .null, .null, .null, .null, .null, .null, .int (0 : Int32), .int (0 : Int32), .null, .null]))] (fun w => ∃ q1 q2 q3 q4 q5 q6 q7 q8 q9 q10 q11 q12 q13 q14 q15 : Nat, w = [oX8 q_this q1 q2 (0 : Int32) q3 (0 : Int32) (0 : Int32) (0 : Int32) (0 : Int32) (0 : Int32) q4 q5 q6 (0 : Int32) q7 (0 : Int32) (0 : Int32) q8 q9 q10 q11 q12 q13 (0 : Int32) (0 : Int32) q14 q15, aI k q1 189 nw1, aB k q2 80 (fun _ => 0), aJ k q3 64 (fun _ => 0), aI k q4 720 (fun _ => 0), aI k q5 16 (fun _ => 0), aI k q6 16 (fun _ => 0), aI k q7 512 (fun _ => 0), aI k q8 512 (fun _ => 0), aI k q9 512 (fun _ => 0), aI k q10 189 (fun _ => 0), aZ k q11 512 (fun _ => 0), aI k q12 1512 (fun _ => 0), aI k q13 189 (fun _ => 0), aI k q14 378 (fun _ => 0), aZ k q15 2 (fun _ => 0)]) 15 5403 := by
  refine mkMVx (own := "DoorWalkModel") (by decide) rfl (Nat.le_of_ble_eq_true rfl) ?_
  intro p e s m args below meth c Q A hret hnm C
  refine ww_lv (lv' := [(0, .ref q_this)]) [0] rfl ?_
  refine ww_aload_n (pc := 0) C dX8_init_0 rfl 0 rfl ?_
  refine ww_objInit (pc := 1) C koi_X8 ⟨Nat.le_of_ble_eq_true rfl, Nat.le_of_ble_eq_true rfl⟩ dX8_init_1 ?_
  refine ww_aload_n (pc := 4) C dX8_init_4 rfl 0 rfl ?_
  refine ww_sipush (pc := 5) C dX8_init_5 kS_189 ?_
  refine ww_newaI (pc := 8) (N := 189) C (by decide) (by decide) (by decide) ⟨Nat.le_of_ble_eq_true rfl, Nat.le_of_ble_eq_true rfl⟩ dX8_init_8 (fun q1 => ?_)
  refine ww_perm (ws' := [(q_this, .inr (8, [.null, .null, .int (0 : Int32), .null, .int (0 : Int32), .int (0 : Int32), .int (0 : Int32), .int (0 : Int32), .int (0 : Int32), .null, .null, .null, .int (0 : Int32), .null, .int (0 : Int32), .int (0 : Int32), .null, .null, .null, .null, .null, .null, .int (0 : Int32), .int (0 : Int32), .null, .null])), aI k q1 189 (fun _ => 0)]) (List.Perm.refl _) ?_
  refine pr8_0 (pc := 10) (ws' := [(q_this, .inr (8, [.ref q1, .null, .int (0 : Int32), .null, .int (0 : Int32), .int (0 : Int32), .int (0 : Int32), .int (0 : Int32), .int (0 : Int32), .null, .null, .null, .int (0 : Int32), .null, .int (0 : Int32), .int (0 : Int32), .null, .null, .null, .null, .null, .null, .int (0 : Int32), .int (0 : Int32), .null, .null])), aI k q1 189 (fun _ => 0)]) C hnm kf_X8_9 0 rfl (Nat.le_of_ble_eq_true rfl) rfl dX8_init_10 ?_
  refine ww_aload_n (pc := 13) C dX8_init_13 rfl 0 rfl ?_
  refine ww_bipush (pc := 14) C dX8_init_14 kB_80 ?_
  refine ww_newaB (pc := 16) (N := 80) C (by decide) (by decide) (by decide) ⟨Nat.le_of_ble_eq_true rfl, Nat.le_of_ble_eq_true rfl⟩ dX8_init_16 (fun q2 => ?_)
  refine ww_perm (ws' := [(q_this, .inr (8, [.ref q1, .null, .int (0 : Int32), .null, .int (0 : Int32), .int (0 : Int32), .int (0 : Int32), .int (0 : Int32), .int (0 : Int32), .null, .null, .null, .int (0 : Int32), .null, .int (0 : Int32), .int (0 : Int32), .null, .null, .null, .null, .null, .null, .int (0 : Int32), .int (0 : Int32), .null, .null])), aI k q1 189 (fun _ => 0), aB k q2 80 (fun _ => 0)]) (List.Perm.refl _) ?_
  refine pr8_1 (pc := 18) (ws' := [(q_this, .inr (8, [.ref q1, .ref q2, .int (0 : Int32), .null, .int (0 : Int32), .int (0 : Int32), .int (0 : Int32), .int (0 : Int32), .int (0 : Int32), .null, .null, .null, .int (0 : Int32), .null, .int (0 : Int32), .int (0 : Int32), .null, .null, .null, .null, .null, .null, .int (0 : Int32), .int (0 : Int32), .null, .null])), aI k q1 189 (fun _ => 0), aB k q2 80 (fun _ => 0)]) C hnm kf_X8_13 0 rfl (Nat.le_of_ble_eq_true rfl) rfl dX8_init_18 ?_
  refine ww_aload_n (pc := 21) C dX8_init_21 rfl 0 rfl ?_
  refine ww_bipush (pc := 22) C dX8_init_22 kB_64 ?_
  refine ww_newaJ (pc := 24) (N := 64) C (by decide) (by decide) (by decide) ⟨Nat.le_of_ble_eq_true rfl, Nat.le_of_ble_eq_true rfl⟩ dX8_init_24 (fun q3 => ?_)
  refine ww_perm (ws' := [(q_this, .inr (8, [.ref q1, .ref q2, .int (0 : Int32), .null, .int (0 : Int32), .int (0 : Int32), .int (0 : Int32), .int (0 : Int32), .int (0 : Int32), .null, .null, .null, .int (0 : Int32), .null, .int (0 : Int32), .int (0 : Int32), .null, .null, .null, .null, .null, .null, .int (0 : Int32), .int (0 : Int32), .null, .null])), aI k q1 189 (fun _ => 0), aB k q2 80 (fun _ => 0), aJ k q3 64 (fun _ => 0)]) (List.Perm.refl _) ?_
  refine pr8_3 (pc := 26) (ws' := [(q_this, .inr (8, [.ref q1, .ref q2, .int (0 : Int32), .ref q3, .int (0 : Int32), .int (0 : Int32), .int (0 : Int32), .int (0 : Int32), .int (0 : Int32), .null, .null, .null, .int (0 : Int32), .null, .int (0 : Int32), .int (0 : Int32), .null, .null, .null, .null, .null, .null, .int (0 : Int32), .int (0 : Int32), .null, .null])), aI k q1 189 (fun _ => 0), aB k q2 80 (fun _ => 0), aJ k q3 64 (fun _ => 0)]) C hnm kf_X8_17 0 rfl (Nat.le_of_ble_eq_true rfl) rfl dX8_init_26 ?_
  refine ww_aload_n (pc := 29) C dX8_init_29 rfl 0 rfl ?_
  refine ww_sipush (pc := 30) C dX8_init_30 kS_720 ?_
  refine ww_newaI (pc := 33) (N := 720) C (by decide) (by decide) (by decide) ⟨Nat.le_of_ble_eq_true rfl, Nat.le_of_ble_eq_true rfl⟩ dX8_init_33 (fun q4 => ?_)
  refine ww_perm (ws' := [(q_this, .inr (8, [.ref q1, .ref q2, .int (0 : Int32), .ref q3, .int (0 : Int32), .int (0 : Int32), .int (0 : Int32), .int (0 : Int32), .int (0 : Int32), .null, .null, .null, .int (0 : Int32), .null, .int (0 : Int32), .int (0 : Int32), .null, .null, .null, .null, .null, .null, .int (0 : Int32), .int (0 : Int32), .null, .null])), aI k q1 189 (fun _ => 0), aB k q2 80 (fun _ => 0), aJ k q3 64 (fun _ => 0), aI k q4 720 (fun _ => 0)]) (List.Perm.refl _) ?_
  refine pr8_9 (pc := 35) (ws' := [(q_this, .inr (8, [.ref q1, .ref q2, .int (0 : Int32), .ref q3, .int (0 : Int32), .int (0 : Int32), .int (0 : Int32), .int (0 : Int32), .int (0 : Int32), .ref q4, .null, .null, .int (0 : Int32), .null, .int (0 : Int32), .int (0 : Int32), .null, .null, .null, .null, .null, .null, .int (0 : Int32), .int (0 : Int32), .null, .null])), aI k q1 189 (fun _ => 0), aB k q2 80 (fun _ => 0), aJ k q3 64 (fun _ => 0), aI k q4 720 (fun _ => 0)]) C hnm kf_X8_21 0 rfl (Nat.le_of_ble_eq_true rfl) rfl dX8_init_35 ?_
  refine ww_aload_n (pc := 38) C dX8_init_38 rfl 0 rfl ?_
  refine ww_bipush (pc := 39) C dX8_init_39 kB_16 ?_
  refine ww_newaI (pc := 41) (N := 16) C (by decide) (by decide) (by decide) ⟨Nat.le_of_ble_eq_true rfl, Nat.le_of_ble_eq_true rfl⟩ dX8_init_41 (fun q5 => ?_)
  refine ww_perm (ws' := [(q_this, .inr (8, [.ref q1, .ref q2, .int (0 : Int32), .ref q3, .int (0 : Int32), .int (0 : Int32), .int (0 : Int32), .int (0 : Int32), .int (0 : Int32), .ref q4, .null, .null, .int (0 : Int32), .null, .int (0 : Int32), .int (0 : Int32), .null, .null, .null, .null, .null, .null, .int (0 : Int32), .int (0 : Int32), .null, .null])), aI k q1 189 (fun _ => 0), aB k q2 80 (fun _ => 0), aJ k q3 64 (fun _ => 0), aI k q4 720 (fun _ => 0), aI k q5 16 (fun _ => 0)]) (List.Perm.refl _) ?_
  refine pr8_10 (pc := 43) (ws' := [(q_this, .inr (8, [.ref q1, .ref q2, .int (0 : Int32), .ref q3, .int (0 : Int32), .int (0 : Int32), .int (0 : Int32), .int (0 : Int32), .int (0 : Int32), .ref q4, .ref q5, .null, .int (0 : Int32), .null, .int (0 : Int32), .int (0 : Int32), .null, .null, .null, .null, .null, .null, .int (0 : Int32), .int (0 : Int32), .null, .null])), aI k q1 189 (fun _ => 0), aB k q2 80 (fun _ => 0), aJ k q3 64 (fun _ => 0), aI k q4 720 (fun _ => 0), aI k q5 16 (fun _ => 0)]) C hnm kf_X8_24 0 rfl (Nat.le_of_ble_eq_true rfl) rfl dX8_init_43 ?_
  refine ww_aload_n (pc := 46) C dX8_init_46 rfl 0 rfl ?_
  refine ww_bipush (pc := 47) C dX8_init_47 kB_16 ?_
  refine ww_newaI (pc := 49) (N := 16) C (by decide) (by decide) (by decide) ⟨Nat.le_of_ble_eq_true rfl, Nat.le_of_ble_eq_true rfl⟩ dX8_init_49 (fun q6 => ?_)
  refine ww_perm (ws' := [(q_this, .inr (8, [.ref q1, .ref q2, .int (0 : Int32), .ref q3, .int (0 : Int32), .int (0 : Int32), .int (0 : Int32), .int (0 : Int32), .int (0 : Int32), .ref q4, .ref q5, .null, .int (0 : Int32), .null, .int (0 : Int32), .int (0 : Int32), .null, .null, .null, .null, .null, .null, .int (0 : Int32), .int (0 : Int32), .null, .null])), aI k q1 189 (fun _ => 0), aB k q2 80 (fun _ => 0), aJ k q3 64 (fun _ => 0), aI k q4 720 (fun _ => 0), aI k q5 16 (fun _ => 0), aI k q6 16 (fun _ => 0)]) (List.Perm.refl _) ?_
  refine pr8_11 (pc := 51) (ws' := [(q_this, .inr (8, [.ref q1, .ref q2, .int (0 : Int32), .ref q3, .int (0 : Int32), .int (0 : Int32), .int (0 : Int32), .int (0 : Int32), .int (0 : Int32), .ref q4, .ref q5, .ref q6, .int (0 : Int32), .null, .int (0 : Int32), .int (0 : Int32), .null, .null, .null, .null, .null, .null, .int (0 : Int32), .int (0 : Int32), .null, .null])), aI k q1 189 (fun _ => 0), aB k q2 80 (fun _ => 0), aJ k q3 64 (fun _ => 0), aI k q4 720 (fun _ => 0), aI k q5 16 (fun _ => 0), aI k q6 16 (fun _ => 0)]) C hnm kf_X8_27 0 rfl (Nat.le_of_ble_eq_true rfl) rfl dX8_init_51 ?_
  refine ww_aload_n (pc := 54) C dX8_init_54 rfl 0 rfl ?_
  refine ww_sipush (pc := 55) C dX8_init_55 kS_512 ?_
  refine ww_newaI (pc := 58) (N := 512) C (by decide) (by decide) (by decide) ⟨Nat.le_of_ble_eq_true rfl, Nat.le_of_ble_eq_true rfl⟩ dX8_init_58 (fun q7 => ?_)
  refine ww_perm (ws' := [(q_this, .inr (8, [.ref q1, .ref q2, .int (0 : Int32), .ref q3, .int (0 : Int32), .int (0 : Int32), .int (0 : Int32), .int (0 : Int32), .int (0 : Int32), .ref q4, .ref q5, .ref q6, .int (0 : Int32), .null, .int (0 : Int32), .int (0 : Int32), .null, .null, .null, .null, .null, .null, .int (0 : Int32), .int (0 : Int32), .null, .null])), aI k q1 189 (fun _ => 0), aB k q2 80 (fun _ => 0), aJ k q3 64 (fun _ => 0), aI k q4 720 (fun _ => 0), aI k q5 16 (fun _ => 0), aI k q6 16 (fun _ => 0), aI k q7 512 (fun _ => 0)]) (List.Perm.refl _) ?_
  refine pr8_13 (pc := 60) (ws' := [(q_this, .inr (8, [.ref q1, .ref q2, .int (0 : Int32), .ref q3, .int (0 : Int32), .int (0 : Int32), .int (0 : Int32), .int (0 : Int32), .int (0 : Int32), .ref q4, .ref q5, .ref q6, .int (0 : Int32), .ref q7, .int (0 : Int32), .int (0 : Int32), .null, .null, .null, .null, .null, .null, .int (0 : Int32), .int (0 : Int32), .null, .null])), aI k q1 189 (fun _ => 0), aB k q2 80 (fun _ => 0), aJ k q3 64 (fun _ => 0), aI k q4 720 (fun _ => 0), aI k q5 16 (fun _ => 0), aI k q6 16 (fun _ => 0), aI k q7 512 (fun _ => 0)]) C hnm kf_X8_30 0 rfl (Nat.le_of_ble_eq_true rfl) rfl dX8_init_60 ?_
  refine ww_aload_n (pc := 63) C dX8_init_63 rfl 0 rfl ?_
  refine ww_sipush (pc := 64) C dX8_init_64 kS_512 ?_
  refine ww_newaI (pc := 67) (N := 512) C (by decide) (by decide) (by decide) ⟨Nat.le_of_ble_eq_true rfl, Nat.le_of_ble_eq_true rfl⟩ dX8_init_67 (fun q8 => ?_)
  refine ww_perm (ws' := [(q_this, .inr (8, [.ref q1, .ref q2, .int (0 : Int32), .ref q3, .int (0 : Int32), .int (0 : Int32), .int (0 : Int32), .int (0 : Int32), .int (0 : Int32), .ref q4, .ref q5, .ref q6, .int (0 : Int32), .ref q7, .int (0 : Int32), .int (0 : Int32), .null, .null, .null, .null, .null, .null, .int (0 : Int32), .int (0 : Int32), .null, .null])), aI k q1 189 (fun _ => 0), aB k q2 80 (fun _ => 0), aJ k q3 64 (fun _ => 0), aI k q4 720 (fun _ => 0), aI k q5 16 (fun _ => 0), aI k q6 16 (fun _ => 0), aI k q7 512 (fun _ => 0), aI k q8 512 (fun _ => 0)]) (List.Perm.refl _) ?_
  refine pr8_16 (pc := 69) (ws' := [(q_this, .inr (8, [.ref q1, .ref q2, .int (0 : Int32), .ref q3, .int (0 : Int32), .int (0 : Int32), .int (0 : Int32), .int (0 : Int32), .int (0 : Int32), .ref q4, .ref q5, .ref q6, .int (0 : Int32), .ref q7, .int (0 : Int32), .int (0 : Int32), .ref q8, .null, .null, .null, .null, .null, .int (0 : Int32), .int (0 : Int32), .null, .null])), aI k q1 189 (fun _ => 0), aB k q2 80 (fun _ => 0), aJ k q3 64 (fun _ => 0), aI k q4 720 (fun _ => 0), aI k q5 16 (fun _ => 0), aI k q6 16 (fun _ => 0), aI k q7 512 (fun _ => 0), aI k q8 512 (fun _ => 0)]) C hnm kf_X8_33 0 rfl (Nat.le_of_ble_eq_true rfl) rfl dX8_init_69 ?_
  refine ww_aload_n (pc := 72) C dX8_init_72 rfl 0 rfl ?_
  refine ww_sipush (pc := 73) C dX8_init_73 kS_512 ?_
  refine ww_newaI (pc := 76) (N := 512) C (by decide) (by decide) (by decide) ⟨Nat.le_of_ble_eq_true rfl, Nat.le_of_ble_eq_true rfl⟩ dX8_init_76 (fun q9 => ?_)
  refine ww_perm (ws' := [(q_this, .inr (8, [.ref q1, .ref q2, .int (0 : Int32), .ref q3, .int (0 : Int32), .int (0 : Int32), .int (0 : Int32), .int (0 : Int32), .int (0 : Int32), .ref q4, .ref q5, .ref q6, .int (0 : Int32), .ref q7, .int (0 : Int32), .int (0 : Int32), .ref q8, .null, .null, .null, .null, .null, .int (0 : Int32), .int (0 : Int32), .null, .null])), aI k q1 189 (fun _ => 0), aB k q2 80 (fun _ => 0), aJ k q3 64 (fun _ => 0), aI k q4 720 (fun _ => 0), aI k q5 16 (fun _ => 0), aI k q6 16 (fun _ => 0), aI k q7 512 (fun _ => 0), aI k q8 512 (fun _ => 0), aI k q9 512 (fun _ => 0)]) (List.Perm.refl _) ?_
  refine pr8_17 (pc := 78) (ws' := [(q_this, .inr (8, [.ref q1, .ref q2, .int (0 : Int32), .ref q3, .int (0 : Int32), .int (0 : Int32), .int (0 : Int32), .int (0 : Int32), .int (0 : Int32), .ref q4, .ref q5, .ref q6, .int (0 : Int32), .ref q7, .int (0 : Int32), .int (0 : Int32), .ref q8, .ref q9, .null, .null, .null, .null, .int (0 : Int32), .int (0 : Int32), .null, .null])), aI k q1 189 (fun _ => 0), aB k q2 80 (fun _ => 0), aJ k q3 64 (fun _ => 0), aI k q4 720 (fun _ => 0), aI k q5 16 (fun _ => 0), aI k q6 16 (fun _ => 0), aI k q7 512 (fun _ => 0), aI k q8 512 (fun _ => 0), aI k q9 512 (fun _ => 0)]) C hnm kf_X8_36 0 rfl (Nat.le_of_ble_eq_true rfl) rfl dX8_init_78 ?_
  refine ww_aload_n (pc := 81) C dX8_init_81 rfl 0 rfl ?_
  refine ww_sipush (pc := 82) C dX8_init_82 kS_189 ?_
  refine ww_newaI (pc := 85) (N := 189) C (by decide) (by decide) (by decide) ⟨Nat.le_of_ble_eq_true rfl, Nat.le_of_ble_eq_true rfl⟩ dX8_init_85 (fun q10 => ?_)
  refine ww_perm (ws' := [(q_this, .inr (8, [.ref q1, .ref q2, .int (0 : Int32), .ref q3, .int (0 : Int32), .int (0 : Int32), .int (0 : Int32), .int (0 : Int32), .int (0 : Int32), .ref q4, .ref q5, .ref q6, .int (0 : Int32), .ref q7, .int (0 : Int32), .int (0 : Int32), .ref q8, .ref q9, .null, .null, .null, .null, .int (0 : Int32), .int (0 : Int32), .null, .null])), aI k q1 189 (fun _ => 0), aB k q2 80 (fun _ => 0), aJ k q3 64 (fun _ => 0), aI k q4 720 (fun _ => 0), aI k q5 16 (fun _ => 0), aI k q6 16 (fun _ => 0), aI k q7 512 (fun _ => 0), aI k q8 512 (fun _ => 0), aI k q9 512 (fun _ => 0), aI k q10 189 (fun _ => 0)]) (List.Perm.refl _) ?_
  refine pr8_18 (pc := 87) (ws' := [(q_this, .inr (8, [.ref q1, .ref q2, .int (0 : Int32), .ref q3, .int (0 : Int32), .int (0 : Int32), .int (0 : Int32), .int (0 : Int32), .int (0 : Int32), .ref q4, .ref q5, .ref q6, .int (0 : Int32), .ref q7, .int (0 : Int32), .int (0 : Int32), .ref q8, .ref q9, .ref q10, .null, .null, .null, .int (0 : Int32), .int (0 : Int32), .null, .null])), aI k q1 189 (fun _ => 0), aB k q2 80 (fun _ => 0), aJ k q3 64 (fun _ => 0), aI k q4 720 (fun _ => 0), aI k q5 16 (fun _ => 0), aI k q6 16 (fun _ => 0), aI k q7 512 (fun _ => 0), aI k q8 512 (fun _ => 0), aI k q9 512 (fun _ => 0), aI k q10 189 (fun _ => 0)]) C hnm kf_X8_39 0 rfl (Nat.le_of_ble_eq_true rfl) rfl dX8_init_87 ?_
  refine ww_aload_n (pc := 90) C dX8_init_90 rfl 0 rfl ?_
  refine ww_sipush (pc := 91) C dX8_init_91 kS_512 ?_
  refine ww_newaZ (pc := 94) (N := 512) C (by decide) (by decide) (by decide) ⟨Nat.le_of_ble_eq_true rfl, Nat.le_of_ble_eq_true rfl⟩ dX8_init_94 (fun q11 => ?_)
  refine ww_perm (ws' := [(q_this, .inr (8, [.ref q1, .ref q2, .int (0 : Int32), .ref q3, .int (0 : Int32), .int (0 : Int32), .int (0 : Int32), .int (0 : Int32), .int (0 : Int32), .ref q4, .ref q5, .ref q6, .int (0 : Int32), .ref q7, .int (0 : Int32), .int (0 : Int32), .ref q8, .ref q9, .ref q10, .null, .null, .null, .int (0 : Int32), .int (0 : Int32), .null, .null])), aI k q1 189 (fun _ => 0), aB k q2 80 (fun _ => 0), aJ k q3 64 (fun _ => 0), aI k q4 720 (fun _ => 0), aI k q5 16 (fun _ => 0), aI k q6 16 (fun _ => 0), aI k q7 512 (fun _ => 0), aI k q8 512 (fun _ => 0), aI k q9 512 (fun _ => 0), aI k q10 189 (fun _ => 0), aZ k q11 512 (fun _ => 0)]) (List.Perm.refl _) ?_
  refine pr8_19 (pc := 96) (ws' := [(q_this, .inr (8, [.ref q1, .ref q2, .int (0 : Int32), .ref q3, .int (0 : Int32), .int (0 : Int32), .int (0 : Int32), .int (0 : Int32), .int (0 : Int32), .ref q4, .ref q5, .ref q6, .int (0 : Int32), .ref q7, .int (0 : Int32), .int (0 : Int32), .ref q8, .ref q9, .ref q10, .ref q11, .null, .null, .int (0 : Int32), .int (0 : Int32), .null, .null])), aI k q1 189 (fun _ => 0), aB k q2 80 (fun _ => 0), aJ k q3 64 (fun _ => 0), aI k q4 720 (fun _ => 0), aI k q5 16 (fun _ => 0), aI k q6 16 (fun _ => 0), aI k q7 512 (fun _ => 0), aI k q8 512 (fun _ => 0), aI k q9 512 (fun _ => 0), aI k q10 189 (fun _ => 0), aZ k q11 512 (fun _ => 0)]) C hnm kf_X8_42 0 rfl (Nat.le_of_ble_eq_true rfl) rfl dX8_init_96 ?_
  refine ww_aload_n (pc := 99) C dX8_init_99 rfl 0 rfl ?_
  refine ww_sipush (pc := 100) C dX8_init_100 kS_1512 ?_
  refine ww_newaI (pc := 103) (N := 1512) C (by decide) (by decide) (by decide) ⟨Nat.le_of_ble_eq_true rfl, Nat.le_of_ble_eq_true rfl⟩ dX8_init_103 (fun q12 => ?_)
  refine ww_perm (ws' := [(q_this, .inr (8, [.ref q1, .ref q2, .int (0 : Int32), .ref q3, .int (0 : Int32), .int (0 : Int32), .int (0 : Int32), .int (0 : Int32), .int (0 : Int32), .ref q4, .ref q5, .ref q6, .int (0 : Int32), .ref q7, .int (0 : Int32), .int (0 : Int32), .ref q8, .ref q9, .ref q10, .ref q11, .null, .null, .int (0 : Int32), .int (0 : Int32), .null, .null])), aI k q1 189 (fun _ => 0), aB k q2 80 (fun _ => 0), aJ k q3 64 (fun _ => 0), aI k q4 720 (fun _ => 0), aI k q5 16 (fun _ => 0), aI k q6 16 (fun _ => 0), aI k q7 512 (fun _ => 0), aI k q8 512 (fun _ => 0), aI k q9 512 (fun _ => 0), aI k q10 189 (fun _ => 0), aZ k q11 512 (fun _ => 0), aI k q12 1512 (fun _ => 0)]) (List.Perm.refl _) ?_
  refine pr8_20 (pc := 105) (ws' := [(q_this, .inr (8, [.ref q1, .ref q2, .int (0 : Int32), .ref q3, .int (0 : Int32), .int (0 : Int32), .int (0 : Int32), .int (0 : Int32), .int (0 : Int32), .ref q4, .ref q5, .ref q6, .int (0 : Int32), .ref q7, .int (0 : Int32), .int (0 : Int32), .ref q8, .ref q9, .ref q10, .ref q11, .ref q12, .null, .int (0 : Int32), .int (0 : Int32), .null, .null])), aI k q1 189 (fun _ => 0), aB k q2 80 (fun _ => 0), aJ k q3 64 (fun _ => 0), aI k q4 720 (fun _ => 0), aI k q5 16 (fun _ => 0), aI k q6 16 (fun _ => 0), aI k q7 512 (fun _ => 0), aI k q8 512 (fun _ => 0), aI k q9 512 (fun _ => 0), aI k q10 189 (fun _ => 0), aZ k q11 512 (fun _ => 0), aI k q12 1512 (fun _ => 0)]) C hnm kf_X8_46 0 rfl (Nat.le_of_ble_eq_true rfl) rfl dX8_init_105 ?_
  refine ww_aload_n (pc := 108) C dX8_init_108 rfl 0 rfl ?_
  refine ww_sipush (pc := 109) C dX8_init_109 kS_189 ?_
  refine ww_newaI (pc := 112) (N := 189) C (by decide) (by decide) (by decide) ⟨Nat.le_of_ble_eq_true rfl, Nat.le_of_ble_eq_true rfl⟩ dX8_init_112 (fun q13 => ?_)
  refine ww_perm (ws' := [(q_this, .inr (8, [.ref q1, .ref q2, .int (0 : Int32), .ref q3, .int (0 : Int32), .int (0 : Int32), .int (0 : Int32), .int (0 : Int32), .int (0 : Int32), .ref q4, .ref q5, .ref q6, .int (0 : Int32), .ref q7, .int (0 : Int32), .int (0 : Int32), .ref q8, .ref q9, .ref q10, .ref q11, .ref q12, .null, .int (0 : Int32), .int (0 : Int32), .null, .null])), aI k q1 189 (fun _ => 0), aB k q2 80 (fun _ => 0), aJ k q3 64 (fun _ => 0), aI k q4 720 (fun _ => 0), aI k q5 16 (fun _ => 0), aI k q6 16 (fun _ => 0), aI k q7 512 (fun _ => 0), aI k q8 512 (fun _ => 0), aI k q9 512 (fun _ => 0), aI k q10 189 (fun _ => 0), aZ k q11 512 (fun _ => 0), aI k q12 1512 (fun _ => 0), aI k q13 189 (fun _ => 0)]) (List.Perm.refl _) ?_
  refine pr8_21 (pc := 114) (ws' := [(q_this, .inr (8, [.ref q1, .ref q2, .int (0 : Int32), .ref q3, .int (0 : Int32), .int (0 : Int32), .int (0 : Int32), .int (0 : Int32), .int (0 : Int32), .ref q4, .ref q5, .ref q6, .int (0 : Int32), .ref q7, .int (0 : Int32), .int (0 : Int32), .ref q8, .ref q9, .ref q10, .ref q11, .ref q12, .ref q13, .int (0 : Int32), .int (0 : Int32), .null, .null])), aI k q1 189 (fun _ => 0), aB k q2 80 (fun _ => 0), aJ k q3 64 (fun _ => 0), aI k q4 720 (fun _ => 0), aI k q5 16 (fun _ => 0), aI k q6 16 (fun _ => 0), aI k q7 512 (fun _ => 0), aI k q8 512 (fun _ => 0), aI k q9 512 (fun _ => 0), aI k q10 189 (fun _ => 0), aZ k q11 512 (fun _ => 0), aI k q12 1512 (fun _ => 0), aI k q13 189 (fun _ => 0)]) C hnm kf_X8_49 0 rfl (Nat.le_of_ble_eq_true rfl) rfl dX8_init_114 ?_
  refine ww_aload_n (pc := 117) C dX8_init_117 rfl 0 rfl ?_
  refine ww_sipush (pc := 118) C dX8_init_118 kS_378 ?_
  refine ww_newaI (pc := 121) (N := 378) C (by decide) (by decide) (by decide) ⟨Nat.le_of_ble_eq_true rfl, Nat.le_of_ble_eq_true rfl⟩ dX8_init_121 (fun q14 => ?_)
  refine ww_perm (ws' := [(q_this, .inr (8, [.ref q1, .ref q2, .int (0 : Int32), .ref q3, .int (0 : Int32), .int (0 : Int32), .int (0 : Int32), .int (0 : Int32), .int (0 : Int32), .ref q4, .ref q5, .ref q6, .int (0 : Int32), .ref q7, .int (0 : Int32), .int (0 : Int32), .ref q8, .ref q9, .ref q10, .ref q11, .ref q12, .ref q13, .int (0 : Int32), .int (0 : Int32), .null, .null])), aI k q1 189 (fun _ => 0), aB k q2 80 (fun _ => 0), aJ k q3 64 (fun _ => 0), aI k q4 720 (fun _ => 0), aI k q5 16 (fun _ => 0), aI k q6 16 (fun _ => 0), aI k q7 512 (fun _ => 0), aI k q8 512 (fun _ => 0), aI k q9 512 (fun _ => 0), aI k q10 189 (fun _ => 0), aZ k q11 512 (fun _ => 0), aI k q12 1512 (fun _ => 0), aI k q13 189 (fun _ => 0), aI k q14 378 (fun _ => 0)]) (List.Perm.refl _) ?_
  refine pr8_24 (pc := 123) (ws' := [(q_this, .inr (8, [.ref q1, .ref q2, .int (0 : Int32), .ref q3, .int (0 : Int32), .int (0 : Int32), .int (0 : Int32), .int (0 : Int32), .int (0 : Int32), .ref q4, .ref q5, .ref q6, .int (0 : Int32), .ref q7, .int (0 : Int32), .int (0 : Int32), .ref q8, .ref q9, .ref q10, .ref q11, .ref q12, .ref q13, .int (0 : Int32), .int (0 : Int32), .ref q14, .null])), aI k q1 189 (fun _ => 0), aB k q2 80 (fun _ => 0), aJ k q3 64 (fun _ => 0), aI k q4 720 (fun _ => 0), aI k q5 16 (fun _ => 0), aI k q6 16 (fun _ => 0), aI k q7 512 (fun _ => 0), aI k q8 512 (fun _ => 0), aI k q9 512 (fun _ => 0), aI k q10 189 (fun _ => 0), aZ k q11 512 (fun _ => 0), aI k q12 1512 (fun _ => 0), aI k q13 189 (fun _ => 0), aI k q14 378 (fun _ => 0)]) C hnm kf_X8_52 0 rfl (Nat.le_of_ble_eq_true rfl) rfl dX8_init_123 ?_
  refine ww_aload_n (pc := 126) C dX8_init_126 rfl 0 rfl ?_
  refine ww_iconst (pc := 127) C dX8_init_127 kI_2 ?_
  refine ww_newaZ (pc := 128) (N := 2) C (by decide) (by decide) (by decide) ⟨Nat.le_of_ble_eq_true rfl, Nat.le_of_ble_eq_true rfl⟩ dX8_init_128 (fun q15 => ?_)
  refine ww_perm (ws' := [(q_this, .inr (8, [.ref q1, .ref q2, .int (0 : Int32), .ref q3, .int (0 : Int32), .int (0 : Int32), .int (0 : Int32), .int (0 : Int32), .int (0 : Int32), .ref q4, .ref q5, .ref q6, .int (0 : Int32), .ref q7, .int (0 : Int32), .int (0 : Int32), .ref q8, .ref q9, .ref q10, .ref q11, .ref q12, .ref q13, .int (0 : Int32), .int (0 : Int32), .ref q14, .null])), aI k q1 189 (fun _ => 0), aB k q2 80 (fun _ => 0), aJ k q3 64 (fun _ => 0), aI k q4 720 (fun _ => 0), aI k q5 16 (fun _ => 0), aI k q6 16 (fun _ => 0), aI k q7 512 (fun _ => 0), aI k q8 512 (fun _ => 0), aI k q9 512 (fun _ => 0), aI k q10 189 (fun _ => 0), aZ k q11 512 (fun _ => 0), aI k q12 1512 (fun _ => 0), aI k q13 189 (fun _ => 0), aI k q14 378 (fun _ => 0), aZ k q15 2 (fun _ => 0)]) (List.Perm.refl _) ?_
  refine pr8_25 (pc := 130) (ws' := [oX8 q_this q1 q2 (0 : Int32) q3 (0 : Int32) (0 : Int32) (0 : Int32) (0 : Int32) (0 : Int32) q4 q5 q6 (0 : Int32) q7 (0 : Int32) (0 : Int32) q8 q9 q10 q11 q12 q13 (0 : Int32) (0 : Int32) q14 q15, aI k q1 189 (fun _ => 0), aB k q2 80 (fun _ => 0), aJ k q3 64 (fun _ => 0), aI k q4 720 (fun _ => 0), aI k q5 16 (fun _ => 0), aI k q6 16 (fun _ => 0), aI k q7 512 (fun _ => 0), aI k q8 512 (fun _ => 0), aI k q9 512 (fun _ => 0), aI k q10 189 (fun _ => 0), aZ k q11 512 (fun _ => 0), aI k q12 1512 (fun _ => 0), aI k q13 189 (fun _ => 0), aI k q14 378 (fun _ => 0), aZ k q15 2 (fun _ => 0)]) C hnm kf_X8_55 0 rfl (Nat.le_of_ble_eq_true rfl) rfl dX8_init_130 ?_
  refine ww_aload_n (pc := 133) C dX8_init_133 rfl 0 rfl ?_
  refine gf8_0 (pc := 134) C kf_X8_9 0 rfl rfl dX8_init_134 ?_
  refine ww_iconst (pc := 137) C dX8_init_137 kI_0 ?_
  refine ww_iconst (pc := 138) C dX8_init_138 kI_4 ?_
  refine ww_iast (pc := 139) (ws' := [oX8 q_this q1 q2 (0 : Int32) q3 (0 : Int32) (0 : Int32) (0 : Int32) (0 : Int32) (0 : Int32) q4 q5 q6 (0 : Int32) q7 (0 : Int32) (0 : Int32) q8 q9 q10 q11 q12 q13 (0 : Int32) (0 : Int32) q14 q15, aI k q1 189 nw0, aB k q2 80 (fun _ => 0), aJ k q3 64 (fun _ => 0), aI k q4 720 (fun _ => 0), aI k q5 16 (fun _ => 0), aI k q6 16 (fun _ => 0), aI k q7 512 (fun _ => 0), aI k q8 512 (fun _ => 0), aI k q9 512 (fun _ => 0), aI k q10 189 (fun _ => 0), aZ k q11 512 (fun _ => 0), aI k q12 1512 (fun _ => 0), aI k q13 189 (fun _ => 0), aI k q14 378 (fun _ => 0), aZ k q15 2 (fun _ => 0)]) C 1 rfl nw0_ok rfl dX8_init_139 ?_
  refine ww_aload_n (pc := 140) C dX8_init_140 rfl 0 rfl ?_
  refine ww_callVv (pc := 141) (ws' := [oX8 q_this q1 q2 (0 : Int32) q3 (0 : Int32) (0 : Int32) (0 : Int32) (0 : Int32) (0 : Int32) q4 q5 q6 (0 : Int32) q7 (0 : Int32) (0 : Int32) q8 q9 q10 q11 q12 q13 (0 : Int32) (0 : Int32) q14 q15, aI k q1 189 nw1, aB k q2 80 (fun _ => 0), aJ k q3 64 (fun _ => 0), aI k q4 720 (fun _ => 0), aI k q5 16 (fun _ => 0), aI k q6 16 (fun _ => 0), aI k q7 512 (fun _ => 0), aI k q8 512 (fun _ => 0), aI k q9 512 (fun _ => 0), aI k q10 189 (fun _ => 0), aZ k q11 512 (fun _ => 0), aI k q12 1512 (fun _ => 0), aI k q13 189 (fun _ => 0), aI k q14 378 (fun _ => 0), aZ k q15 2 (fun _ => 0)]) (As := []) (rest := []) C (tX8_layFirst l D k q_this q1 q2 q3 q4 q5 q6 q7 q8 q9 q10 q11 q12 q13 q14 q15 (0 : Int32) (0 : Int32) (0 : Int32) (0 : Int32) (0 : Int32) (0 : Int32) (0 : Int32) (0 : Int32) (0 : Int32) (0 : Int32) (0 : Int32) nw0 nw1 h1) cv_X8_58 ⟨⟨Nat.le_of_ble_eq_true rfl, Nat.le_of_ble_eq_true rfl⟩, rfl, rfl⟩ 0 rfl rfl [0, 1] rfl rfl rfl rfl rfl rfl (Nat.le_of_ble_eq_true rfl) ⟨Nat.le_of_ble_eq_true rfl, Nat.le_of_ble_eq_true rfl⟩ dX8_init_141 ?_
  exact hret _ _ 144 dX8_init_144 ⟨q1, q2, q3, q4, q5, q6, q7, q8, q9, q10, q11, q12, q13, q14, q15, rfl⟩
