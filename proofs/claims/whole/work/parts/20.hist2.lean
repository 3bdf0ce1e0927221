theorem tail_cut2 (k : Nat → ClassId) (qr qk : Nat) (ad : Nat → AD) (hd : Nat → Option SD) {i : Nat} {d : SD} (hi : i < 11) (h : hd i = some d) (X0 X1 : va_W) : ((X0 ++ X1) ++ TT k qr qk ad hd).Perm ((X1 ++ stC k (ad i) d) ++ (X0 ++ (aS k qr 9 (rgR ad hd) :: aS k qk 2 (rgK ad hd) :: PLx k ad hd i))) := (tail_cut k qr qk ad hd hi h X0 X1).trans (List.Perm.append_right _ List.perm_append_comm)
def fX2_back (hd : Nat → Option SD) (c_next c_size : Int32) (c_p1_grid_size : Int32) (c_p1_grid_marks : Nat → Int32) (c_p1_rule_kind : Int32) (c_p1_rule_traders : Int32) (c_p1_rule_owned : Nat → Int32) (c_p1_rule_pulls : Nat → Int64) (c_p1_rule_wished : Nat → Int32) : Option (Int32 × Int32 × Int32 × Int32 × (Nat → Int32) × Int32 × Int32 × (Nat → Int32) × (Nat → Int64) × (Nat → Int32)) := if (1 : Int32) ≤ c_size then (some (c_size - (1 : Int32))).bind fun z1 => (some ((c_next + (8 : Int32)) - (c_next + (8 : Int32)) / (9 : Int32) * (9 : Int32))).bind fun z2 => if z2 < 0 then some (1, z2, z1, c_p1_grid_size, c_p1_grid_marks, c_p1_rule_kind, c_p1_rule_traders, c_p1_rule_owned, c_p1_rule_pulls, c_p1_rule_wished) else if (9 : Int32) ≤ z2 then some (1, z2, z1, c_p1_grid_size, c_p1_grid_marks, c_p1_rule_kind, c_p1_rule_traders, c_p1_rule_owned, c_p1_rule_pulls, c_p1_rule_wished) else match hd z2.toNatClampNeg with | none => some (1, z2, z1, c_p1_grid_size, c_p1_grid_marks, c_p1_rule_kind, c_p1_rule_traders, c_p1_rule_owned, c_p1_rule_pulls, c_p1_rule_wished) | some d => bd7 (fX5_copy d.1 d.2.2.2.2.2.1 d.2.2.2.2.2.2.1 d.2.2.2.2.2.2.2.1 d.2.2.2.2.2.2.2.2.1 d.2.2.2.2.2.2.2.2.2.1 d.2.2.2.2.2.2.2.2.2.2 c_p1_grid_size c_p1_grid_marks c_p1_rule_kind c_p1_rule_traders c_p1_rule_owned c_p1_rule_pulls c_p1_rule_wished) fun v1 v2 v3 v4 v5 v6 v7 => some (1, z2, z1, v1, v2, v3, v4, v5, v6, v7) else some (0, c_next, c_size, c_p1_grid_size, c_p1_grid_marks, c_p1_rule_kind, c_p1_rule_traders, c_p1_rule_owned, c_p1_rule_pulls, c_p1_rule_wished)
set_option maxHeartbeats 4000000 in
set_option maxRecDepth 100000 in
theorem tX2_back (l : Launch) (D : va_G) (k : Nat → ClassId) (q_this q_ring qK : Nat) (q_p1 q_p1_grid q_p1_rule q_p1_grid_marks q_p1_rule_owned q_p1_rule_wished q_p1_rule_pulls : Nat) (c_next c_size : Int32) (c_p1_grid_size : Int32) (c_p1_grid_full : Int32) (c_p1_grid_turns : Int32) (c_p1_grid_firstFull : Int32) (c_p1_grid_lastFull : Int32) (c_p1_grid_marks : Nat → Int32) (c_p1_rule_kind : Int32) (c_p1_rule_traders : Int32) (c_p1_rule_owned : Nat → Int32) (c_p1_rule_pulls : Nat → Int64) (c_p1_rule_wished : Nat → Int32) (ad : Nat → AD) (hd : Nat → Option SD) (r_ : Int32) (w_next w_size : Int32) (w_p1_grid_size : Int32) (w_p1_grid_marks : Nat → Int32) (w_p1_rule_kind : Int32) (w_p1_rule_traders : Int32) (w_p1_rule_owned : Nat → Int32) (w_p1_rule_pulls : Nat → Int64) (w_p1_rule_wished : Nat → Int32) (hf : fX2_back hd c_next c_size c_p1_grid_size c_p1_grid_marks c_p1_rule_kind c_p1_rule_traders c_p1_rule_owned c_p1_rule_pulls c_p1_rule_wished = some (r_, w_next, w_size, w_p1_grid_size, w_p1_grid_marks, w_p1_rule_kind, w_p1_rule_traders, w_p1_rule_owned, w_p1_rule_pulls, w_p1_rule_wished)) : MIx l yX2_back cX2_back 2 .boolean (RM 3 102) D k [.ref q_this, .ref q_p1] (([oX2 q_this q_ring c_next c_size] ++ [oX5 q_p1 q_p1_grid q_p1_rule, oX1 q_p1_grid q_p1_grid_marks c_p1_grid_size c_p1_grid_full c_p1_grid_turns c_p1_grid_firstFull c_p1_grid_lastFull, aI k q_p1_grid_marks 153 c_p1_grid_marks, oX4 q_p1_rule q_p1_rule_owned q_p1_rule_wished q_p1_rule_pulls c_p1_rule_kind c_p1_rule_traders, aI k q_p1_rule_owned 12 c_p1_rule_owned, aJ k q_p1_rule_pulls 9 c_p1_rule_pulls, aI k q_p1_rule_wished 12 c_p1_rule_wished]) ++ TT k q_ring qK ad hd) (fun v w => v = r_ ∧ ∃ ad2, w = ([oX2 q_this q_ring w_next w_size] ++ [oX5 q_p1 q_p1_grid q_p1_rule, oX1 q_p1_grid q_p1_grid_marks w_p1_grid_size c_p1_grid_full c_p1_grid_turns c_p1_grid_firstFull c_p1_grid_lastFull, aI k q_p1_grid_marks 153 w_p1_grid_marks, oX4 q_p1_rule q_p1_rule_owned q_p1_rule_wished q_p1_rule_pulls w_p1_rule_kind w_p1_rule_traders, aI k q_p1_rule_owned 12 w_p1_rule_owned, aJ k q_p1_rule_pulls 9 w_p1_rule_pulls, aI k q_p1_rule_wished 12 w_p1_rule_wished]) ++ TT k q_ring qK ad2 hd) 0 0 := by
  refine mkMIx (own := "DoorWalk$History") (by decide) rfl (Nat.le_of_ble_eq_true rfl) ?_
  intro p e s m args below meth c Q A hret C
  refine ww_lv (lv' := [(0, .ref q_this), (1, .ref q_p1)]) [0, 1] rfl ?_
  unfold fX2_back at hf
  refine ww_aload_n (pc := 0) C dX2_back_0 rfl 0 rfl ?_
  refine gf2_2 (pc := 1) C kf_X2_21 0 rfl rfl dX2_back_1 ?_
  refine ww_iconst (pc := 4) C dX2_back_4 kI_1 ?_
  refine ww_icmp_ge (pc := 5) (tgt := 10) C dX2_back_5 (by decide) (fun hc => ?_) (fun hc => ?_)
  rotate_left
  · have hf := ifF hc hf
    refine ww_iconst (pc := 8) C dX2_back_8 kI_0 ?_
    obtain ⟨e0, e1, e2, e3, e4, e5, e6, e7, e8, e9⟩ := ij10 hf
    exact hret _ _ 9 _ dX2_back_9 (by decide) ⟨e0, ad, by rw [e1, e2, e3, e4, e5, e6, e7, e8, e9]⟩
  have hf := ifT hc hf
  obtain ⟨z1, hz1, hf⟩ := bsome hf
  obtain ⟨z2, hz2, hf⟩ := bsome hf
  refine ww_aload_n (pc := 10) C dX2_back_10 rfl 0 rfl ?_
  refine ww_dup (pc := 11) C dX2_back_11 rfl ?_
  refine gf2_2 (pc := 12) C kf_X2_21 0 rfl rfl dX2_back_12 ?_
  refine ww_iconst (pc := 15) C dX2_back_15 kI_1 ?_
  refine ww_isub (pc := 16) C dX2_back_16 ?_
  refine ww_nmi hz1 ?_
  refine pf2_2 (pc := 17) (ws' := ([oX2 q_this q_ring c_next z1] ++ [oX5 q_p1 q_p1_grid q_p1_rule, oX1 q_p1_grid q_p1_grid_marks c_p1_grid_size c_p1_grid_full c_p1_grid_turns c_p1_grid_firstFull c_p1_grid_lastFull, aI k q_p1_grid_marks 153 c_p1_grid_marks, oX4 q_p1_rule q_p1_rule_owned q_p1_rule_wished q_p1_rule_pulls c_p1_rule_kind c_p1_rule_traders, aI k q_p1_rule_owned 12 c_p1_rule_owned, aJ k q_p1_rule_pulls 9 c_p1_rule_pulls, aI k q_p1_rule_wished 12 c_p1_rule_wished]) ++ TT k q_ring qK ad hd) C kf_X2_21 0 rfl (Nat.le_of_ble_eq_true rfl) rfl dX2_back_17 ?_
  refine ww_aload_n (pc := 20) C dX2_back_20 rfl 0 rfl ?_
  refine ww_aload_n (pc := 21) C dX2_back_21 rfl 0 rfl ?_
  refine gf2_1 (pc := 22) C kf_X2_17 0 rfl rfl dX2_back_22 ?_
  refine ww_bipush (pc := 25) C dX2_back_25 kB_8 ?_
  refine ww_iadd (pc := 27) C dX2_back_27 ?_
  refine ww_bipush (pc := 28) C dX2_back_28 kB_9 ?_
  refine ww_iremC (pc := 30) C dX2_back_30 (by decide) ?_
  refine ww_nmi hz2 ?_
  refine pf2_1 (pc := 31) (ws' := ([oX2 q_this q_ring z2 z1] ++ [oX5 q_p1 q_p1_grid q_p1_rule, oX1 q_p1_grid q_p1_grid_marks c_p1_grid_size c_p1_grid_full c_p1_grid_turns c_p1_grid_firstFull c_p1_grid_lastFull, aI k q_p1_grid_marks 153 c_p1_grid_marks, oX4 q_p1_rule q_p1_rule_owned q_p1_rule_wished q_p1_rule_pulls c_p1_rule_kind c_p1_rule_traders, aI k q_p1_rule_owned 12 c_p1_rule_owned, aJ k q_p1_rule_pulls 9 c_p1_rule_pulls, aI k q_p1_rule_wished 12 c_p1_rule_wished]) ++ TT k q_ring qK ad hd) C kf_X2_17 0 rfl (Nat.le_of_ble_eq_true rfl) rfl dX2_back_31 ?_
  have hend : some (1, z2, z1, c_p1_grid_size, c_p1_grid_marks, c_p1_rule_kind, c_p1_rule_traders, c_p1_rule_owned, c_p1_rule_pulls, c_p1_rule_wished) = some (r_, w_next, w_size, w_p1_grid_size, w_p1_grid_marks, w_p1_rule_kind, w_p1_rule_traders, w_p1_rule_owned, w_p1_rule_pulls, w_p1_rule_wished) → WW p l e (RM 3 102) s m args below meth c Q 2 D A 0 0 (([oX2 q_this q_ring z2 z1] ++ [oX5 q_p1 q_p1_grid q_p1_rule, oX1 q_p1_grid q_p1_grid_marks c_p1_grid_size c_p1_grid_full c_p1_grid_turns c_p1_grid_firstFull c_p1_grid_lastFull, aI k q_p1_grid_marks 153 c_p1_grid_marks, oX4 q_p1_rule q_p1_rule_owned q_p1_rule_wished q_p1_rule_pulls c_p1_rule_kind c_p1_rule_traders, aI k q_p1_rule_owned 12 c_p1_rule_owned, aJ k q_p1_rule_pulls 9 c_p1_rule_pulls, aI k q_p1_rule_wished 12 c_p1_rule_wished]) ++ TT k q_ring qK ad hd) [(0, .ref q_this), (1, .ref q_p1)] 75 [] := by
    intro hf
    obtain ⟨e0, e1, e2, e3, e4, e5, e6, e7, e8, e9⟩ := ij10 hf
    refine ww_iconst (pc := 75) C dX2_back_75 kI_1 ?_
    exact hret _ _ 76 _ dX2_back_76 (by decide) ⟨e0, ad, by rw [e1, e2, e3, e4, e5, e6, e7, e8, e9]⟩
  refine ww_aload_n (pc := 34) C dX2_back_34 rfl 0 rfl ?_
  refine gf2_1 (pc := 35) C kf_X2_17 0 rfl rfl dX2_back_35 ?_
  refine ww_if_lt (pc := 38) (tgt := 75) C dX2_back_38 (by decide) (fun hc1 => ?_) (fun hc1 => ?_)
  · exact hend (ifT hc1 hf)
  have hf := ifF hc1 hf
  refine ww_aload_n (pc := 41) C dX2_back_41 rfl 0 rfl ?_
  refine gf2_1 (pc := 42) C kf_X2_17 0 rfl rfl dX2_back_42 ?_
  refine ww_bipush (pc := 45) C dX2_back_45 kB_9 ?_
  refine ww_icmp_ge (pc := 47) (tgt := 75) C dX2_back_47 (by decide) (fun hc2 => ?_) (fun hc2 => ?_)
  · exact hend (ifT hc2 hf)
  have hf := ifF hc2 hf
  obtain ⟨hin, hlt⟩ := in_of (N := 9) (by decide) hc1 (Int32.not_le.mp hc2)
  refine ww_aload_n (pc := 50) C dX2_back_50 rfl 0 rfl ?_
  refine gf2_0 (pc := 51) C kf_X2_11 0 rfl rfl dX2_back_51 ?_
  refine ww_aload_n (pc := 54) C dX2_back_54 rfl 0 rfl ?_
  refine gf2_1 (pc := 55) C kf_X2_17 0 rfl rfl dX2_back_55 ?_
  cases hdn : hd z2.toNatClampNeg with
  | none =>
    rw [hdn] at hf
    refine ww_aald (pc := 58) (v := .null) C 8 rfl hin (by rw [rgR_at hlt, hdn]; rfl) dX2_back_58 ?_
    refine ww_ifnullN (pc := 59) (tgt := 75) C dX2_back_59 (by decide) ?_
    exact hend hf
  | some d =>
    rw [hdn] at hf
    obtain ⟨v1, v2, v3, v4, v5, v6, v7, hcp, hf⟩ := bd7_some hf
    refine ww_aald (pc := 58) (v := .ref (ad z2.toNatClampNeg).1) C 8 rfl hin (by rw [rgR_at hlt, hdn]; rfl) dX2_back_58 ?_
    refine ww_ifnull (pc := 59) C dX2_back_59 ?_
    refine ww_aload_n (pc := 62) C dX2_back_62 rfl 1 rfl ?_
    refine ww_aload_n (pc := 63) C dX2_back_63 rfl 0 rfl ?_
    refine gf2_0 (pc := 64) C kf_X2_11 0 rfl rfl dX2_back_64 ?_
    refine ww_aload_n (pc := 67) C dX2_back_67 rfl 0 rfl ?_
    refine gf2_1 (pc := 68) C kf_X2_17 0 rfl rfl dX2_back_68 ?_
    refine ww_aald (pc := 71) (v := .ref (ad z2.toNatClampNeg).1) C 8 rfl hin (by rw [rgR_at hlt, hdn]; rfl) dX2_back_71 ?_
    have hp := tail_cut2 k q_ring qK ad hd (by omega) hdn [oX2 q_this q_ring z2 z1] [oX5 q_p1 q_p1_grid q_p1_rule, oX1 q_p1_grid q_p1_grid_marks c_p1_grid_size c_p1_grid_full c_p1_grid_turns c_p1_grid_firstFull c_p1_grid_lastFull, aI k q_p1_grid_marks 153 c_p1_grid_marks, oX4 q_p1_rule q_p1_rule_owned q_p1_rule_wished q_p1_rule_pulls c_p1_rule_kind c_p1_rule_traders, aI k q_p1_rule_owned 12 c_p1_rule_owned, aJ k q_p1_rule_pulls 9 c_p1_rule_pulls, aI k q_p1_rule_wished 12 c_p1_rule_wished]
    refine ww_callPVv (pc := 72) (As := [.ref (ad z2.toNatClampNeg).1]) (rest := []) C (MV.x (tX5_copy l D k q_p1 q_p1_grid q_p1_rule q_p1_grid_marks q_p1_rule_owned q_p1_rule_wished q_p1_rule_pulls (ad z2.toNatClampNeg).1 (ad z2.toNatClampNeg).2.1 (ad z2.toNatClampNeg).2.2.1 (ad z2.toNatClampNeg).2.2.2.1 (ad z2.toNatClampNeg).2.2.2.2.1 (ad z2.toNatClampNeg).2.2.2.2.2.1 (ad z2.toNatClampNeg).2.2.2.2.2.2 c_p1_grid_size c_p1_grid_full c_p1_grid_turns c_p1_grid_firstFull c_p1_grid_lastFull c_p1_grid_marks c_p1_rule_kind c_p1_rule_traders c_p1_rule_owned c_p1_rule_pulls c_p1_rule_wished d.1 d.2.1 d.2.2.1 d.2.2.2.1 d.2.2.2.2.1 d.2.2.2.2.2.1 d.2.2.2.2.2.2.1 d.2.2.2.2.2.2.2.1 d.2.2.2.2.2.2.2.2.1 d.2.2.2.2.2.2.2.2.2.1 d.2.2.2.2.2.2.2.2.2.2 v1 v2 v3 v4 v5 v6 v7 hcp)) cv_X2_25 ⟨⟨Nat.le_of_ble_eq_true rfl, Nat.le_of_ble_eq_true rfl⟩, rfl, rfl⟩ (hp.mem_iff.mpr (List.mem_append_left _ (List.mem_append_left _ List.mem_cons_self))) rfl hp rfl rfl (Nat.le_of_ble_eq_true rfl) ⟨Nat.le_of_ble_eq_true rfl, Nat.le_of_ble_eq_true rfl⟩ dX2_back_72 (fun wF hwF => ?_)
    subst hwF
    obtain ⟨e0, e1, e2, e3, e4, e5, e6, e7, e8, e9⟩ := ij10 hf
    refine ww_perm (tail_back k q_ring qK ad hd (by omega) hdn [oX2 q_this q_ring z2 z1] [oX5 q_p1 q_p1_grid q_p1_rule, oX1 q_p1_grid q_p1_grid_marks v1 c_p1_grid_full c_p1_grid_turns c_p1_grid_firstFull c_p1_grid_lastFull, aI k q_p1_grid_marks 153 v2, oX4 q_p1_rule q_p1_rule_owned q_p1_rule_wished q_p1_rule_pulls v3 v4, aI k q_p1_rule_owned 12 v5, aJ k q_p1_rule_pulls 9 v6, aI k q_p1_rule_wished 12 v7]) ?_
    refine ww_iconst (pc := 75) C dX2_back_75 kI_1 ?_
    exact hret _ _ 76 _ dX2_back_76 (by decide) ⟨e0, ad, by rw [e1, e2, e3, e4, e5, e6, e7, e8, e9]⟩
def fX7_keep (c_now_grid_size : Int32) (c_now_grid_marks : Nat → Int32) (c_now_rule_kind : Int32) (c_now_rule_traders : Int32) (c_now_rule_owned : Nat → Int32) (c_now_rule_pulls : Nat → Int64) (c_now_rule_wished : Nat → Int32) (hd : Nat → Option SD) (x1 : Int32) : Option (Int32 × (Nat → Option SD)) := if x1 < 0 then some (0, hd) else if x1 < (2 : Int32) then (cpS ((hd (9 + x1.toNatClampNeg)).getD stNew) c_now_grid_size c_now_grid_marks c_now_rule_kind c_now_rule_traders c_now_rule_owned c_now_rule_pulls c_now_rule_wished).bind fun d => some (1, va_up hd (9 + x1.toNatClampNeg) (some d)) else some (0, hd)
set_option maxHeartbeats 4000000 in
set_option maxRecDepth 100000 in
theorem tX7_keep (l : Launch) (D : va_G) (k : Nat → ClassId) (q_this q_text q_row q_now q_trial q_doors q_history q_kept qR : Nat) (q_now_grid q_now_rule q_now_grid_marks q_now_rule_owned q_now_rule_wished q_now_rule_pulls : Nat) (c_now_grid_size : Int32) (c_now_grid_full : Int32) (c_now_grid_turns : Int32) (c_now_grid_firstFull : Int32) (c_now_grid_lastFull : Int32) (c_now_grid_marks : Nat → Int32) (c_now_rule_kind : Int32) (c_now_rule_traders : Int32) (c_now_rule_owned : Nat → Int32) (c_now_rule_pulls : Nat → Int64) (c_now_rule_wished : Nat → Int32) (x1 : Int32) (ad : Nat → AD) (hd : Nat → Option SD) (r_ : Int32) (hd2 : Nat → Option SD) (hf : fX7_keep c_now_grid_size c_now_grid_marks c_now_rule_kind c_now_rule_traders c_now_rule_owned c_now_rule_pulls c_now_rule_wished hd x1 = some (r_, hd2)) : MIx l yX7_keep cX7_keep 2 .boolean (RMa 4 7 199 102) D k [.ref q_this, .int x1] ((([oX7 q_this q_text q_row q_now q_trial q_doors q_history q_kept] : va_W) ++ [oX5 q_now q_now_grid q_now_rule, oX1 q_now_grid q_now_grid_marks c_now_grid_size c_now_grid_full c_now_grid_turns c_now_grid_firstFull c_now_grid_lastFull, aI k q_now_grid_marks 153 c_now_grid_marks, oX4 q_now_rule q_now_rule_owned q_now_rule_wished q_now_rule_pulls c_now_rule_kind c_now_rule_traders, aI k q_now_rule_owned 12 c_now_rule_owned, aJ k q_now_rule_pulls 9 c_now_rule_pulls, aI k q_now_rule_wished 12 c_now_rule_wished]) ++ TT k qR q_kept ad hd) (fun v w => v = r_ ∧ ∃ ad2, w = (([oX7 q_this q_text q_row q_now q_trial q_doors q_history q_kept] : va_W) ++ [oX5 q_now q_now_grid q_now_rule, oX1 q_now_grid q_now_grid_marks c_now_grid_size c_now_grid_full c_now_grid_turns c_now_grid_firstFull c_now_grid_lastFull, aI k q_now_grid_marks 153 c_now_grid_marks, oX4 q_now_rule q_now_rule_owned q_now_rule_wished q_now_rule_pulls c_now_rule_kind c_now_rule_traders, aI k q_now_rule_owned 12 c_now_rule_owned, aJ k q_now_rule_pulls 9 c_now_rule_pulls, aI k q_now_rule_wished 12 c_now_rule_wished]) ++ TT k qR q_kept ad2 hd2) 7 199 := by
  refine mkMIx (own := "DoorWalk") (by decide) rfl (Nat.le_of_ble_eq_true rfl) ?_
  intro p e s m args below meth c Q A hret C
  refine ww_lv (lv' := [(0, .ref q_this), (1, .int x1)]) [0, 1] rfl ?_
  have hend : some (0, hd) = some (r_, hd2) → WW p l e (RMa 4 7 199 102) s m args below meth c Q 2 D A 0 0 ((([oX7 q_this q_text q_row q_now q_trial q_doors q_history q_kept] : va_W) ++ [oX5 q_now q_now_grid q_now_rule, oX1 q_now_grid q_now_grid_marks c_now_grid_size c_now_grid_full c_now_grid_turns c_now_grid_firstFull c_now_grid_lastFull, aI k q_now_grid_marks 153 c_now_grid_marks, oX4 q_now_rule q_now_rule_owned q_now_rule_wished q_now_rule_pulls c_now_rule_kind c_now_rule_traders, aI k q_now_rule_owned 12 c_now_rule_owned, aJ k q_now_rule_pulls 9 c_now_rule_pulls, aI k q_now_rule_wished 12 c_now_rule_wished]) ++ TT k qR q_kept ad hd) [(0, .ref q_this), (1, .int x1)] 9 [] := by
    intro hf
    obtain ⟨e0, e1⟩ := ij2 hf
    refine ww_widen (c2 := 7) (s2 := 199) (Nat.le_of_ble_eq_true rfl) (Nat.le_of_ble_eq_true rfl) ?_
    refine ww_iconst (pc := 9) C dX7_keep_9 kI_0 ?_
    exact hret _ _ 10 _ dX7_keep_10 (by decide) ⟨e0, ad, by rw [e1]⟩
  have hK : ∀ (ad : Nat → AD) (hd : Nat → Option SD) (d : SD), ¬ x1 < 0 → x1 < (2 : Int32) → hd (9 + x1.toNatClampNeg) = some d → ((cpS d c_now_grid_size c_now_grid_marks c_now_rule_kind c_now_rule_traders c_now_rule_owned c_now_rule_pulls c_now_rule_wished).bind fun d => some ((1 : Int32), va_up hd (9 + x1.toNatClampNeg) (some d))) = some (r_, hd2) → WW p l e (RMa 4 7 199 102) s m args below meth c Q 2 D A 7 199 ((([oX7 q_this q_text q_row q_now q_trial q_doors q_history q_kept] : va_W) ++ [oX5 q_now q_now_grid q_now_rule, oX1 q_now_grid q_now_grid_marks c_now_grid_size c_now_grid_full c_now_grid_turns c_now_grid_firstFull c_now_grid_lastFull, aI k q_now_grid_marks 153 c_now_grid_marks, oX4 q_now_rule q_now_rule_owned q_now_rule_wished q_now_rule_pulls c_now_rule_kind c_now_rule_traders, aI k q_now_rule_owned 12 c_now_rule_owned, aJ k q_now_rule_pulls 9 c_now_rule_pulls, aI k q_now_rule_wished 12 c_now_rule_wished]) ++ TT k qR q_kept ad hd) [(0, .ref q_this), (1, .int x1)] 33 [] := by
    intro ad hd d h0 h9 hdn hf
    obtain ⟨hin, hlt⟩ := in_of (N := 2) (by decide) h0 h9
    obtain ⟨d2, h1, hf⟩ := bsome hf
    obtain ⟨v1, v2, v3, v4, v5, v6, v7, hcp, h1⟩ := bd7_some h1
    have h1 := Option.some.inj h1
    obtain ⟨e0, e1⟩ := ij2 hf
    refine ww_aload_n (pc := 33) C dX7_keep_33 rfl 0 rfl ?_
    refine gf7_6 (pc := 34) C kf_X7_51 0 rfl rfl dX7_keep_34 ?_
    refine ww_iload_n (pc := 37) C dX7_keep_37 rfl 1 rfl ?_
    refine ww_aald (pc := 38) (v := .ref (ad (9 + x1.toNatClampNeg)).1) C 9 rfl hin (by rw [rgK_at, hdn]; rfl) dX7_keep_38 ?_
    refine ww_aload_n (pc := 39) C dX7_keep_39 rfl 0 rfl ?_
    refine gf7_2 (pc := 40) C kf_X7_26 0 rfl rfl dX7_keep_40 ?_
    have hp := tail_cut k qR q_kept ad hd (by omega) hdn [oX7 q_this q_text q_row q_now q_trial q_doors q_history q_kept] [oX5 q_now q_now_grid q_now_rule, oX1 q_now_grid q_now_grid_marks c_now_grid_size c_now_grid_full c_now_grid_turns c_now_grid_firstFull c_now_grid_lastFull, aI k q_now_grid_marks 153 c_now_grid_marks, oX4 q_now_rule q_now_rule_owned q_now_rule_wished q_now_rule_pulls c_now_rule_kind c_now_rule_traders, aI k q_now_rule_owned 12 c_now_rule_owned, aJ k q_now_rule_pulls 9 c_now_rule_pulls, aI k q_now_rule_wished 12 c_now_rule_wished]
    refine ww_callPVv (pc := 43) (As := [.ref q_now]) (rest := []) C (MV.x (tX5_copy l D k (ad (9 + x1.toNatClampNeg)).1 (ad (9 + x1.toNatClampNeg)).2.1 (ad (9 + x1.toNatClampNeg)).2.2.1 (ad (9 + x1.toNatClampNeg)).2.2.2.1 (ad (9 + x1.toNatClampNeg)).2.2.2.2.1 (ad (9 + x1.toNatClampNeg)).2.2.2.2.2.1 (ad (9 + x1.toNatClampNeg)).2.2.2.2.2.2 q_now q_now_grid q_now_rule q_now_grid_marks q_now_rule_owned q_now_rule_wished q_now_rule_pulls d.1 d.2.1 d.2.2.1 d.2.2.2.1 d.2.2.2.2.1 d.2.2.2.2.2.1 d.2.2.2.2.2.2.1 d.2.2.2.2.2.2.2.1 d.2.2.2.2.2.2.2.2.1 d.2.2.2.2.2.2.2.2.2.1 d.2.2.2.2.2.2.2.2.2.2 c_now_grid_size c_now_grid_full c_now_grid_turns c_now_grid_firstFull c_now_grid_lastFull c_now_grid_marks c_now_rule_kind c_now_rule_traders c_now_rule_owned c_now_rule_pulls c_now_rule_wished v1 v2 v3 v4 v5 v6 v7 hcp)) cv_X7_402 ⟨⟨Nat.le_of_ble_eq_true rfl, Nat.le_of_ble_eq_true rfl⟩, rfl, rfl⟩ (hp.mem_iff.mpr (List.mem_append_left _ (List.mem_append_left _ List.mem_cons_self))) rfl hp rfl rfl (Nat.le_of_ble_eq_true rfl) ⟨Nat.le_of_ble_eq_true rfl, Nat.le_of_ble_eq_true rfl⟩ dX7_keep_43 (fun wF hwF => ?_)
    subst hwF
    subst h1
    refine ww_perm (tail_set k qR q_kept ad hd (d2 := (v1, d.2.1, d.2.2.1, d.2.2.2.1, d.2.2.2.2.1, v2, v3, v4, v5, v6, v7)) (by omega) hdn [oX7 q_this q_text q_row q_now q_trial q_doors q_history q_kept] [oX5 q_now q_now_grid q_now_rule, oX1 q_now_grid q_now_grid_marks c_now_grid_size c_now_grid_full c_now_grid_turns c_now_grid_firstFull c_now_grid_lastFull, aI k q_now_grid_marks 153 c_now_grid_marks, oX4 q_now_rule q_now_rule_owned q_now_rule_wished q_now_rule_pulls c_now_rule_kind c_now_rule_traders, aI k q_now_rule_owned 12 c_now_rule_owned, aJ k q_now_rule_pulls 9 c_now_rule_pulls, aI k q_now_rule_wished 12 c_now_rule_wished]) ?_
    refine ww_iconst (pc := 46) C dX7_keep_46 kI_1 ?_
    exact hret _ _ 47 _ dX7_keep_47 (by decide) ⟨e0, ad, by rw [e1]⟩
  unfold fX7_keep at hf
  refine ww_iload_n (pc := 0) C dX7_keep_0 rfl 1 rfl ?_
  refine ww_if_lt (pc := 1) (tgt := 9) C dX7_keep_1 (by decide) (fun hc => ?_) (fun hc => ?_)
  · exact hend (ifT hc hf)
  have hf := ifF hc hf
  refine ww_iload_n (pc := 4) C dX7_keep_4 rfl 1 rfl ?_
  refine ww_iconst (pc := 5) C dX7_keep_5 kI_2 ?_
  refine ww_icmp_lt (pc := 6) (tgt := 11) C dX7_keep_6 (by decide) (fun hc9 => ?_) (fun hc9 => ?_)
  rotate_left
  · exact hend (ifF hc9 hf)
  have hf := ifT hc9 hf
  obtain ⟨hin, hlt⟩ := in_of (N := 2) (by decide) hc hc9
  refine ww_aload_n (pc := 11) C dX7_keep_11 rfl 0 rfl ?_
  refine gf7_6 (pc := 12) C kf_X7_51 0 rfl rfl dX7_keep_12 ?_
  refine ww_iload_n (pc := 15) C dX7_keep_15 rfl 1 rfl ?_
  cases hdn : hd (9 + x1.toNatClampNeg) with
  | some d =>
    refine ww_aald (pc := 16) (v := .ref (ad (9 + x1.toNatClampNeg)).1) C 9 rfl hin (by rw [rgK_at, hdn]; rfl) dX7_keep_16 ?_
    refine ww_ifnonnull (pc := 17) (tgt := 33) C dX7_keep_17 (by decide) ?_
    refine ww_widen (c2 := 7) (s2 := 199) (Nat.le_of_ble_eq_true rfl) (Nat.le_of_ble_eq_true rfl) ?_
    rw [hdn] at hf
    exact hK ad hd d hc hc9 hdn hf
  | none =>
    refine ww_aald (pc := 16) (v := .null) C 9 rfl hin (by rw [rgK_at, hdn]; rfl) dX7_keep_16 ?_
    refine ww_ifnonnullN (pc := 17) C dX7_keep_17 ?_
    refine ww_aload_n (pc := 20) C dX7_keep_20 rfl 0 rfl ?_
    refine gf7_6 (pc := 21) C kf_X7_51 0 rfl rfl dX7_keep_21 ?_
    refine ww_iload_n (pc := 24) C dX7_keep_24 rfl 1 rfl ?_
    refine ww_new5 (pc := 25) C kcl_X7_23 ⟨Nat.le_of_ble_eq_true rfl, Nat.le_of_ble_eq_true rfl⟩ dX7_keep_25 (fun q => ?_)
    refine ww_dup (pc := 28) C dX7_keep_28 rfl ?_
    refine ww_callPI (pc := 29) (rest := [.ref q, .int x1, .ref q_kept]) C (tX5_init l D k q) ci_X7_25 ⟨⟨Nat.le_of_ble_eq_true rfl, Nat.le_of_ble_eq_true rfl⟩, rfl, rfl⟩ List.perm_append_comm rfl (Nat.le_of_ble_eq_true rfl) ⟨Nat.le_of_ble_eq_true rfl, Nat.le_of_ble_eq_true rfl⟩ dX7_keep_29 (fun wF hwF => ?_)
    obtain ⟨q1, q2, q3, q4, q5, q6, rfl⟩ := hwF
    refine ww_aast (pc := 32) (ws' := [oX5 q q1 q3, oX1 q1 q2 4 0 0 (-1) (-1), aI k q2 153 mk0, oX4 q3 q4 q5 q6 0 0, aI k q4 12 (fun _ => 0), aI k q5 12 (fun _ => 0), aJ k q6 9 (fun _ => 0)] ++ ((([oX7 q_this q_text q_row q_now q_trial q_doors q_history q_kept] : va_W) ++ [oX5 q_now q_now_grid q_now_rule, oX1 q_now_grid q_now_grid_marks c_now_grid_size c_now_grid_full c_now_grid_turns c_now_grid_firstFull c_now_grid_lastFull, aI k q_now_grid_marks 153 c_now_grid_marks, oX4 q_now_rule q_now_rule_owned q_now_rule_wished q_now_rule_pulls c_now_rule_kind c_now_rule_traders, aI k q_now_rule_owned 12 c_now_rule_owned, aJ k q_now_rule_pulls 9 c_now_rule_pulls, aI k q_now_rule_wished 12 c_now_rule_wished]) ++ (aS k qR 9 (rgR ad hd) :: aS k q_kept 2 (va_up (rgK ad hd) x1.toNatClampNeg (some q)) :: PL k ad hd))) C 16 0 rfl rfl hin rfl dX7_keep_32 ?_
    rw [hdn] at hf
    have h9 := tail_newK k qR q_kept (ad := ad) (hd := hd) (a := (q, q1, q3, q2, q4, q5, q6)) (d := stNew) hlt hdn (([oX7 q_this q_text q_row q_now q_trial q_doors q_history q_kept] : va_W) ++ [oX5 q_now q_now_grid q_now_rule, oX1 q_now_grid q_now_grid_marks c_now_grid_size c_now_grid_full c_now_grid_turns c_now_grid_firstFull c_now_grid_lastFull, aI k q_now_grid_marks 153 c_now_grid_marks, oX4 q_now_rule q_now_rule_owned q_now_rule_wished q_now_rule_pulls c_now_rule_kind c_now_rule_traders, aI k q_now_rule_owned 12 c_now_rule_owned, aJ k q_now_rule_pulls 9 c_now_rule_pulls, aI k q_now_rule_wished 12 c_now_rule_wished])
    have h8 : ([oX5 q q1 q3, oX1 q1 q2 4 0 0 (-1) (-1), aI k q2 153 mk0, oX4 q3 q4 q5 q6 0 0, aI k q4 12 (fun _ => 0), aI k q5 12 (fun _ => 0), aJ k q6 9 (fun _ => 0)] ++ ((([oX7 q_this q_text q_row q_now q_trial q_doors q_history q_kept] : va_W) ++ [oX5 q_now q_now_grid q_now_rule, oX1 q_now_grid q_now_grid_marks c_now_grid_size c_now_grid_full c_now_grid_turns c_now_grid_firstFull c_now_grid_lastFull, aI k q_now_grid_marks 153 c_now_grid_marks, oX4 q_now_rule q_now_rule_owned q_now_rule_wished q_now_rule_pulls c_now_rule_kind c_now_rule_traders, aI k q_now_rule_owned 12 c_now_rule_owned, aJ k q_now_rule_pulls 9 c_now_rule_pulls, aI k q_now_rule_wished 12 c_now_rule_wished]) ++ (aS k qR 9 (rgR ad hd) :: aS k q_kept 2 (va_up (rgK ad hd) x1.toNatClampNeg (some q)) :: PL k ad hd))).Perm (stC k (q, q1, q3, q2, q4, q5, q6) stNew ++ ((([oX7 q_this q_text q_row q_now q_trial q_doors q_history q_kept] : va_W) ++ [oX5 q_now q_now_grid q_now_rule, oX1 q_now_grid q_now_grid_marks c_now_grid_size c_now_grid_full c_now_grid_turns c_now_grid_firstFull c_now_grid_lastFull, aI k q_now_grid_marks 153 c_now_grid_marks, oX4 q_now_rule q_now_rule_owned q_now_rule_wished q_now_rule_pulls c_now_rule_kind c_now_rule_traders, aI k q_now_rule_owned 12 c_now_rule_owned, aJ k q_now_rule_pulls 9 c_now_rule_pulls, aI k q_now_rule_wished 12 c_now_rule_wished]) ++ (aS k qR 9 (rgR ad hd) :: aS k q_kept 2 (va_up (rgK ad hd) x1.toNatClampNeg (some q)) :: PL k ad hd))) := List.Perm.append_right _ (perm_n (n := 7) [0, 1, 2, 3, 4, 6, 5] rfl (by decide) rfl)
    refine ww_perm (h8.trans h9) ?_
    exact hK _ _ stNew hc hc9 (by simp [va_up]) (by rw [show (fun d => some ((1 : Int32), va_up (va_up hd (9 + x1.toNatClampNeg) (some stNew)) (9 + x1.toNatClampNeg) (some d))) = (fun d => some ((1 : Int32), va_up hd (9 + x1.toNatClampNeg) (some d))) from funext fun d => by rw [bx_uu]]; exact hf)
def fX7_again (hd : Nat → Option SD) (c_history_size : Int32) (c_now_grid_size : Int32) (c_now_grid_marks : Nat → Int32) (c_now_rule_kind : Int32) (c_now_rule_traders : Int32) (c_now_rule_owned : Nat → Int32) (c_now_rule_pulls : Nat → Int64) (c_now_rule_wished : Nat → Int32) (x1 : Int32) : Option (Int32 × Int32 × Int32 × (Nat → Int32) × Int32 × Int32 × (Nat → Int32) × (Nat → Int64) × (Nat → Int32)) := if x1 < 0 then some (0, c_history_size, c_now_grid_size, c_now_grid_marks, c_now_rule_kind, c_now_rule_traders, c_now_rule_owned, c_now_rule_pulls, c_now_rule_wished) else if (2 : Int32) ≤ x1 then some (0, c_history_size, c_now_grid_size, c_now_grid_marks, c_now_rule_kind, c_now_rule_traders, c_now_rule_owned, c_now_rule_pulls, c_now_rule_wished) else match hd (9 + x1.toNatClampNeg) with | none => some (0, c_history_size, c_now_grid_size, c_now_grid_marks, c_now_rule_kind, c_now_rule_traders, c_now_rule_owned, c_now_rule_pulls, c_now_rule_wished) | some d => bd7 (fX5_copy d.1 d.2.2.2.2.2.1 d.2.2.2.2.2.2.1 d.2.2.2.2.2.2.2.1 d.2.2.2.2.2.2.2.2.1 d.2.2.2.2.2.2.2.2.2.1 d.2.2.2.2.2.2.2.2.2.2 c_now_grid_size c_now_grid_marks c_now_rule_kind c_now_rule_traders c_now_rule_owned c_now_rule_pulls c_now_rule_wished) fun v1 v2 v3 v4 v5 v6 v7 => some (1, 0, v1, v2, v3, v4, v5, v6, v7)
set_option maxHeartbeats 4000000 in
set_option maxRecDepth 100000 in
theorem tX7_again (l : Launch) (D : va_G) (k : Nat → ClassId) (q_this q_text q_row q_now q_trial q_doors q_history q_kept q_history_ring : Nat) (q_now_grid q_now_rule q_now_grid_marks q_now_rule_owned q_now_rule_wished q_now_rule_pulls : Nat) (c_history_next c_history_size : Int32) (c_now_grid_size : Int32) (c_now_grid_full : Int32) (c_now_grid_turns : Int32) (c_now_grid_firstFull : Int32) (c_now_grid_lastFull : Int32) (c_now_grid_marks : Nat → Int32) (c_now_rule_kind : Int32) (c_now_rule_traders : Int32) (c_now_rule_owned : Nat → Int32) (c_now_rule_pulls : Nat → Int64) (c_now_rule_wished : Nat → Int32) (x1 : Int32) (ad : Nat → AD) (hd : Nat → Option SD) (r_ : Int32) (w_history_size : Int32) (w_now_grid_size : Int32) (w_now_grid_marks : Nat → Int32) (w_now_rule_kind : Int32) (w_now_rule_traders : Int32) (w_now_rule_owned : Nat → Int32) (w_now_rule_pulls : Nat → Int64) (w_now_rule_wished : Nat → Int32) (hf : fX7_again hd c_history_size c_now_grid_size c_now_grid_marks c_now_rule_kind c_now_rule_traders c_now_rule_owned c_now_rule_pulls c_now_rule_wished x1 = some (r_, w_history_size, w_now_grid_size, w_now_grid_marks, w_now_rule_kind, w_now_rule_traders, w_now_rule_owned, w_now_rule_pulls, w_now_rule_wished)) : MIx l yX7_again cX7_again 2 .boolean (RM 3 102) D k [.ref q_this, .int x1] (([oX7 q_this q_text q_row q_now q_trial q_doors q_history q_kept, oX2 q_history q_history_ring c_history_next c_history_size] ++ [oX5 q_now q_now_grid q_now_rule, oX1 q_now_grid q_now_grid_marks c_now_grid_size c_now_grid_full c_now_grid_turns c_now_grid_firstFull c_now_grid_lastFull, aI k q_now_grid_marks 153 c_now_grid_marks, oX4 q_now_rule q_now_rule_owned q_now_rule_wished q_now_rule_pulls c_now_rule_kind c_now_rule_traders, aI k q_now_rule_owned 12 c_now_rule_owned, aJ k q_now_rule_pulls 9 c_now_rule_pulls, aI k q_now_rule_wished 12 c_now_rule_wished]) ++ TT k q_history_ring q_kept ad hd) (fun v w => v = r_ ∧ ∃ ad2, w = ([oX7 q_this q_text q_row q_now q_trial q_doors q_history q_kept, oX2 q_history q_history_ring c_history_next w_history_size] ++ [oX5 q_now q_now_grid q_now_rule, oX1 q_now_grid q_now_grid_marks w_now_grid_size c_now_grid_full c_now_grid_turns c_now_grid_firstFull c_now_grid_lastFull, aI k q_now_grid_marks 153 w_now_grid_marks, oX4 q_now_rule q_now_rule_owned q_now_rule_wished q_now_rule_pulls w_now_rule_kind w_now_rule_traders, aI k q_now_rule_owned 12 w_now_rule_owned, aJ k q_now_rule_pulls 9 w_now_rule_pulls, aI k q_now_rule_wished 12 w_now_rule_wished]) ++ TT k q_history_ring q_kept ad2 hd) 0 0 := by
  refine mkMIx (own := "DoorWalk") (by decide) rfl (Nat.le_of_ble_eq_true rfl) ?_
  intro p e s m args below meth c Q A hret C
  refine ww_lv (lv' := [(0, .ref q_this), (1, .int x1)]) [0, 1] rfl ?_
  unfold fX7_again at hf
  have hend : some (0, c_history_size, c_now_grid_size, c_now_grid_marks, c_now_rule_kind, c_now_rule_traders, c_now_rule_owned, c_now_rule_pulls, c_now_rule_wished) = some (r_, w_history_size, w_now_grid_size, w_now_grid_marks, w_now_rule_kind, w_now_rule_traders, w_now_rule_owned, w_now_rule_pulls, w_now_rule_wished) → WW p l e (RM 3 102) s m args below meth c Q 2 D A 0 0 (([oX7 q_this q_text q_row q_now q_trial q_doors q_history q_kept, oX2 q_history q_history_ring c_history_next c_history_size] ++ [oX5 q_now q_now_grid q_now_rule, oX1 q_now_grid q_now_grid_marks c_now_grid_size c_now_grid_full c_now_grid_turns c_now_grid_firstFull c_now_grid_lastFull, aI k q_now_grid_marks 153 c_now_grid_marks, oX4 q_now_rule q_now_rule_owned q_now_rule_wished q_now_rule_pulls c_now_rule_kind c_now_rule_traders, aI k q_now_rule_owned 12 c_now_rule_owned, aJ k q_now_rule_pulls 9 c_now_rule_pulls, aI k q_now_rule_wished 12 c_now_rule_wished]) ++ TT k q_history_ring q_kept ad hd) [(0, .ref q_this), (1, .int x1)] 18 [] := by
    intro hf
    obtain ⟨e0, e1, e2, e3, e4, e5, e6, e7, e8⟩ := ij9 hf
    refine ww_iconst (pc := 18) C dX7_again_18 kI_0 ?_
    exact hret _ _ 19 _ dX7_again_19 (by decide) ⟨e0, ad, by rw [e1, e2, e3, e4, e5, e6, e7, e8]⟩
  refine ww_iload_n (pc := 0) C dX7_again_0 rfl 1 rfl ?_
  refine ww_if_lt (pc := 1) (tgt := 18) C dX7_again_1 (by decide) (fun hc => ?_) (fun hc => ?_)
  · exact hend (ifT hc hf)
  have hf := ifF hc hf
  refine ww_iload_n (pc := 4) C dX7_again_4 rfl 1 rfl ?_
  refine ww_iconst (pc := 5) C dX7_again_5 kI_2 ?_
  refine ww_icmp_ge (pc := 6) (tgt := 18) C dX7_again_6 (by decide) (fun hc2 => ?_) (fun hc2 => ?_)
  · exact hend (ifT hc2 hf)
  have hf := ifF hc2 hf
  obtain ⟨hin, hlt⟩ := in_of (N := 2) (by decide) hc (Int32.not_le.mp hc2)
  refine ww_aload_n (pc := 9) C dX7_again_9 rfl 0 rfl ?_
  refine gf7_6 (pc := 10) C kf_X7_51 0 rfl rfl dX7_again_10 ?_
  refine ww_iload_n (pc := 13) C dX7_again_13 rfl 1 rfl ?_
  cases hdn : hd (9 + x1.toNatClampNeg) with
  | none =>
    rw [hdn] at hf
    refine ww_aald (pc := 14) (v := .null) C 10 rfl hin (by rw [rgK_at, hdn]; rfl) dX7_again_14 ?_
    refine ww_ifnonnullN (pc := 15) C dX7_again_15 ?_
    exact hend hf
  | some d =>
    rw [hdn] at hf
    obtain ⟨v1, v2, v3, v4, v5, v6, v7, hcp, hf⟩ := bd7_some hf
    refine ww_aald (pc := 14) (v := .ref (ad (9 + x1.toNatClampNeg)).1) C 10 rfl hin (by rw [rgK_at, hdn]; rfl) dX7_again_14 ?_
    refine ww_ifnonnull (pc := 15) (tgt := 20) C dX7_again_15 (by decide) ?_
    refine ww_aload_n (pc := 20) C dX7_again_20 rfl 0 rfl ?_
    refine gf7_2 (pc := 21) C kf_X7_26 0 rfl rfl dX7_again_21 ?_
    refine ww_aload_n (pc := 24) C dX7_again_24 rfl 0 rfl ?_
    refine gf7_6 (pc := 25) C kf_X7_51 0 rfl rfl dX7_again_25 ?_
    refine ww_iload_n (pc := 28) C dX7_again_28 rfl 1 rfl ?_
    refine ww_aald (pc := 29) (v := .ref (ad (9 + x1.toNatClampNeg)).1) C 10 rfl hin (by rw [rgK_at, hdn]; rfl) dX7_again_29 ?_
    have hp := tail_cut2 k q_history_ring q_kept ad hd (by omega) hdn [oX7 q_this q_text q_row q_now q_trial q_doors q_history q_kept, oX2 q_history q_history_ring c_history_next c_history_size] [oX5 q_now q_now_grid q_now_rule, oX1 q_now_grid q_now_grid_marks c_now_grid_size c_now_grid_full c_now_grid_turns c_now_grid_firstFull c_now_grid_lastFull, aI k q_now_grid_marks 153 c_now_grid_marks, oX4 q_now_rule q_now_rule_owned q_now_rule_wished q_now_rule_pulls c_now_rule_kind c_now_rule_traders, aI k q_now_rule_owned 12 c_now_rule_owned, aJ k q_now_rule_pulls 9 c_now_rule_pulls, aI k q_now_rule_wished 12 c_now_rule_wished]
    refine ww_callPVv (pc := 30) (As := [.ref (ad (9 + x1.toNatClampNeg)).1]) (rest := []) C (MV.x (tX5_copy l D k q_now q_now_grid q_now_rule q_now_grid_marks q_now_rule_owned q_now_rule_wished q_now_rule_pulls (ad (9 + x1.toNatClampNeg)).1 (ad (9 + x1.toNatClampNeg)).2.1 (ad (9 + x1.toNatClampNeg)).2.2.1 (ad (9 + x1.toNatClampNeg)).2.2.2.1 (ad (9 + x1.toNatClampNeg)).2.2.2.2.1 (ad (9 + x1.toNatClampNeg)).2.2.2.2.2.1 (ad (9 + x1.toNatClampNeg)).2.2.2.2.2.2 c_now_grid_size c_now_grid_full c_now_grid_turns c_now_grid_firstFull c_now_grid_lastFull c_now_grid_marks c_now_rule_kind c_now_rule_traders c_now_rule_owned c_now_rule_pulls c_now_rule_wished d.1 d.2.1 d.2.2.1 d.2.2.2.1 d.2.2.2.2.1 d.2.2.2.2.2.1 d.2.2.2.2.2.2.1 d.2.2.2.2.2.2.2.1 d.2.2.2.2.2.2.2.2.1 d.2.2.2.2.2.2.2.2.2.1 d.2.2.2.2.2.2.2.2.2.2 v1 v2 v3 v4 v5 v6 v7 hcp)) cv_X7_402 ⟨⟨Nat.le_of_ble_eq_true rfl, Nat.le_of_ble_eq_true rfl⟩, rfl, rfl⟩ (hp.mem_iff.mpr (List.mem_append_left _ (List.mem_append_left _ List.mem_cons_self))) rfl hp rfl rfl (Nat.le_of_ble_eq_true rfl) ⟨Nat.le_of_ble_eq_true rfl, Nat.le_of_ble_eq_true rfl⟩ dX7_again_30 (fun wF hwF => ?_)
    subst hwF
    obtain ⟨e0, e1, e2, e3, e4, e5, e6, e7, e8⟩ := ij9 hf
    refine ww_perm (tail_back k q_history_ring q_kept ad hd (by omega) hdn [oX7 q_this q_text q_row q_now q_trial q_doors q_history q_kept, oX2 q_history q_history_ring c_history_next c_history_size] [oX5 q_now q_now_grid q_now_rule, oX1 q_now_grid q_now_grid_marks v1 c_now_grid_full c_now_grid_turns c_now_grid_firstFull c_now_grid_lastFull, aI k q_now_grid_marks 153 v2, oX4 q_now_rule q_now_rule_owned q_now_rule_wished q_now_rule_pulls v3 v4, aI k q_now_rule_owned 12 v5, aJ k q_now_rule_pulls 9 v6, aI k q_now_rule_wished 12 v7]) ?_
    refine ww_aload_n (pc := 33) C dX7_again_33 rfl 0 rfl ?_
    refine gf7_5 (pc := 34) C kf_X7_47 0 rfl rfl dX7_again_34 ?_
    refine ww_iconst (pc := 37) C dX7_again_37 kI_0 ?_
    refine pf2_2 (pc := 38) (ws' := ([oX7 q_this q_text q_row q_now q_trial q_doors q_history q_kept, oX2 q_history q_history_ring c_history_next 0] ++ [oX5 q_now q_now_grid q_now_rule, oX1 q_now_grid q_now_grid_marks v1 c_now_grid_full c_now_grid_turns c_now_grid_firstFull c_now_grid_lastFull, aI k q_now_grid_marks 153 v2, oX4 q_now_rule q_now_rule_owned q_now_rule_wished q_now_rule_pulls v3 v4, aI k q_now_rule_owned 12 v5, aJ k q_now_rule_pulls 9 v6, aI k q_now_rule_wished 12 v7]) ++ TT k q_history_ring q_kept ad hd) C kf_X7_383 1 rfl (Nat.le_of_ble_eq_true rfl) rfl dX7_again_38 ?_
    refine ww_iconst (pc := 41) C dX7_again_41 kI_1 ?_
    exact hret _ _ 42 _ dX7_again_42 (by decide) ⟨e0, ad, by rw [e1, e2, e3, e4, e5, e6, e7, e8]⟩
