/-! The law's three methods that catch: their contracts. -/
section WRP
set_option maxRecDepth 100000 in
theorem nse_l : Cond.classLink "DoorWalkLaw" 13 nN ∈ TB := kwt4 140 (by rfl) rfl
/-- as Met.ofW, with a table -/
theorem met_ofWH {l : Launch} {y : MethodName} {ws ws' : List Cond} {rm : Room} {Pc : Array Value → State → Prop} {Qc : Array Value → State → Outcome → State → Prop} {mc ms : Nat} {free : Addr → Prop} {cc : ByteArray} {maxL : Nat} {ret : Option FieldType} {hh : List (Nat × Nat × Nat × Nat)}
    (hy : plainName y.cls = true) (hw : ws = Cond.codeWith y cc maxL ret hh :: ws')
    (body : ∀ p e s m args below meth c s₁, BodyLoose p l y (headSpec ws rm) cc maxL ret e s m args below meth c s₁ → c.maxLocals = maxL → Pc args s →
      W p l e (headSpec ws rm).room s m args below meth c s.heap [] 0 0 (MQ below Qc args s mc ms free) (entryFrame m args maxL)) : Met l y ws rm Pc Qc mc ms free := by
  refine MetFree.of_bodyS (code := cc) (maxLocals := maxL) (ret := ret) hy ?_ ?_
  · intro args s m h hn
    obtain ⟨m9, meth, c, hn9, h1, h2, h3, h4, -, h5, h6, -⟩ := Cond.codeWith_spec (atoms_spec (ws := ws) h _ (by rw [hw]; exact List.mem_cons_self))
    cases hn.symm.trans hn9
    exact ⟨meth, c, h1, h2, h3, h4, h5, h6⟩
  · intro p e s m args below meth c s₁ B hml hP _
    have hh0 : s₁.heap = s.heap := by rw [B.state]; rfl
    obtain ⟨t, a1, o, b1, b2, b3⟩ := body p e s m args below meth c s₁ B hml hP s₁ hh0 (Stand.of_body B)
    exact ⟨t, o, a1, b1, b2, ⟨b3.1, b3.2⟩⟩
theorem mkMSx {l : Launch} {y : MethodName} {cc : ByteArray} {nL mc ms : Nat} {rt : FieldType} {hh : List (Nat × Nat × Nat × Nat)} {r : Int32} {rm : Room} {D : va_G} {k : Nat → ClassId} {avs : List Value} {ws wsF : va_W} {own : String} (hy : plainName y.cls = true) (ho : y.cls = own) (hlen : (lg_sl avs).length ≤ nL)
    (H : ∀ (p : Program) (e : Env) (s : State) (m : MethodId) (args : Array Value) (below : List Frame) (meth : Method) (c : Code), meth.sig.returnType = some rt → meth.locks = false → c.exceptionTable.toList = tableOf hh → EXC (va_A ws s.heap.size) s s.heap → CX p s m args c cc nL own D k (va_A ws s.heap.size) →
      WW p l e rm s m args below meth c (MQ below (QI D k rt ws r wsF s.heap.size) args s mc ms (va_A ws s.heap.size)) nL D (va_A ws s.heap.size) 0 0 ws (lv_args 0 avs) 0 []) : MSx l y cc nL rt hh rm D k avs ws r wsF mc ms := by
  intro sz
  refine met_ofWH (cc := cc) (maxL := nL) (ret := some rt) (hh := hh) hy rfl ?_
  intro p e s m args below meth c s₁ B hml hv
  obtain ⟨rfl, ⟨rfl, hP, hK, hD0, hX⟩, hE⟩ := hv
  have hts := atoms_spec (ws := WSH y cc nL (some rt) hh) B.pre
  have hown : s.vm.findClass own = some m.cls := ho ▸ findClass_of_methodNamed B.named
  have hl := lv_entry avs (n := nL) hlen
  have htab := vx_table (x := y) B (hts _ List.mem_cons_self)
  rw [lg_entry_eq]
  exact H p e s m _ below meth c B.returns B.notSynchronized htab hE ⟨B.exec, B.bytes, hml, hown, fun w hw => hts w (List.mem_cons_of_mem _ hw), hK, fun q h => Or.inr h, hX⟩ s.heap [] _ hP hD0.self va_S.rf hl
variable {p : Program} {l : Launch} {e : Env} {R : Room} {s : State} {m : MethodId} {args : Array Value} {below : List Frame} {meth : Method} {c : Code} {Q : State → Prop} {cells slots : Nat} {cc : ByteArray} {nL : Nat} {own : String} {D : va_G} {k : Nat → ClassId} {A : Nat → Prop} {ws ws' : va_W} {lv lv' : List (Nat × Value)} {pc tgt : Nat} {st : List Value}
theorem ww_callTi (C : CX p s m args c cc nL "DoorWalkLaw" D k A) (hE : EXC A s s.heap) {y : MethodName} {bytes : ByteArray} {maxL n index b : Nat} {t : Int32} {r : Int32} {rm : Room} {wc wc' : va_W} {As rest : List Value} (hM : MTx l y bytes maxL rm D k (.ref b :: As) wc t r wc') (hw : CWV "DoorWalkLaw" index y bytes maxL (some .int) n) (hR : RoomA R rm maxL 1 6) {ci : Nat} {fs : List Value} {T : u_T} {N : Nat} (q0 : Nat) (hq : ws[q0]? = some (b, .inr (ci, fs))) (hci : vwCl[ci]? = some (y.cls, T, N)) (isC : List Nat) (hnd : va_nd isC = true) (hC : isC.map (fun i => ws[i]?) = wc.map some) (hs : putW ws isC wc' = ws') (hsame : wc'.map Prod.fst = wc.map Prod.fst) (hst : st = As.reverse ++ .ref b :: rest) (hn : As.length = n) (hrest : (rest.map fun v => v.category).sum ≤ 8) (hcap : cells + 1 ≤ R.cells ∧ slots + 6 ≤ R.slots) (hd : decode cc pc = .ok (.invokevirtual index, 3))
    {b0 h0 : Nat} (htab : c.exceptionTable.toList = tableOf [(0, b0, h0, 13)]) (hcov : covers ⟨0, b0, h0, 13⟩ pc = true)
    (kx : ¬ t = 0 → ∀ q9 : Nat, WW p l e R s m args below meth c Q nL D A (cells + 1) (slots + 6) ws' lv h0 [.ref q9])
    (kk : t = 0 → WW p l e R s m args below meth c Q nL D A (cells + 1) (slots + 6) ws' lv (pc + 3) (.int r :: rest)) : WW p l e R s m args below meth c Q nL D A cells slots ws lv pc st := by
  subst hst
  intro H locs ls hP hD hS hl
  have hF := va_free (wc := wc) hD hS C.2.2.2.2.2.2.1 isC hC
  have hPc : va_P D vwCl wc H := fun j q hq => by
    obtain ⟨i, -, h2⟩ := at_map hC j q hq
    exact hP i q h2
  have hDt : va_D (fun _ => True) wc := (hD.sub isC hnd hC).weaken (fun _ _ _ _ => trivial)
  refine vx_calli (vx_runV (As := As) (rest := rest) ⟨C.1, C.2.1, C.2.2.1, C.2.2.2.1, C.2.2.2.2.1⟩ (hM H.size) (⟨callB_of n C.2.2.2.2.1 (wsm_good hw.2.2.2.2.1) rfl hR.2.1 hR.2.2 (C.2.2.2.2.1 _ hw.2.2.2.1) (C.2.2.2.2.1 _ hw.1) hw.2.2.2.2.2 hR.1, C.2.2.2.2.1 _ hw.2.1, C.2.2.2.2.1 _ hw.2.2.1⟩) ⟨prx_blind D k _ wc H.size, va_recv C.2.2.2.2.2.1 hP hci hq, fun U hU hW => ⟨rfl, pre_of C hPc hDt hS hF U hU hW, hE.go hW (fun q h1 h2 => by rw [hU]; exact hS.2.1 q h1 h2) hF⟩⟩ rfl hn hl.1 rfl (lv_room hrest) hd hcap) hS (fun q _ h => hF q h) hF (fun q _ h => hF q h) (fun E ce q9 u t H1 locs1 ht hvm hp1 hB hz1 hk1 hS1 hce hcv hcl => ?_) (fun r9 u t H1 locs1 ht hvm hw1 hB hz1 hk1 hS1 => ?_)
  · obtain ⟨rfl, hP1, hK1, hD1⟩ := hB
    rw [ht] at hP1
    obtain ⟨hP2, hD2⟩ := put_ok hP hD hC hs hsame hk1 hP1
    exact vx_catch C.2.2.2.1 [] ⟨0, b0, h0, 13⟩ [] (by rw [htab]; rfl) (fun z hz => nomatch hz) hcov (by simp) (C.2.2.2.2.1 _ nse_l) (va_Nw.use rfl hE.2.2.2.1) hce hcv hcl (kx hp1 q9 H1 locs1 ls hP2 hD2 hS1 hl)
  · obtain ⟨hP1, hK1, hD1⟩ := hB
    rw [ht] at hP1
    obtain ⟨hP2, hD2⟩ := put_ok hP hD hC hs hsame hk1 hP1
    obtain ⟨h0, rfl⟩ := hw1
    exact kk h0 H1 locs1 ls hP2 hD2 hS1 hl
theorem ww_callTl (C : CX p s m args c cc nL "DoorWalkLaw" D k A) (hE : EXC A s s.heap) {y : MethodName} {bytes : ByteArray} {maxL n index b : Nat} {t : Int32} {r : Int64} {rm : Room} {wc wc' : va_W} {As rest : List Value} (hM : MTxL l y bytes maxL rm D k (.ref b :: As) wc t r wc') (hw : CWV "DoorWalkLaw" index y bytes maxL (some .long) n) (hR : RoomA R rm maxL 1 6) {ci : Nat} {fs : List Value} {T : u_T} {N : Nat} (q0 : Nat) (hq : ws[q0]? = some (b, .inr (ci, fs))) (hci : vwCl[ci]? = some (y.cls, T, N)) (isC : List Nat) (hnd : va_nd isC = true) (hC : isC.map (fun i => ws[i]?) = wc.map some) (hs : putW ws isC wc' = ws') (hsame : wc'.map Prod.fst = wc.map Prod.fst) (hst : st = As.reverse ++ .ref b :: rest) (hn : As.length = n) (hrest : (rest.map fun v => v.category).sum ≤ 8) (hcap : cells + 1 ≤ R.cells ∧ slots + 6 ≤ R.slots) (hd : decode cc pc = .ok (.invokevirtual index, 3))
    {b0 h0 : Nat} (htab : c.exceptionTable.toList = tableOf [(0, b0, h0, 13)]) (hcov : covers ⟨0, b0, h0, 13⟩ pc = true)
    (kx : ¬ t = 0 → ∀ q9 : Nat, WW p l e R s m args below meth c Q nL D A (cells + 1) (slots + 6) ws' lv h0 [.ref q9])
    (kk : t = 0 → WW p l e R s m args below meth c Q nL D A (cells + 1) (slots + 6) ws' lv (pc + 3) (.long r :: rest)) : WW p l e R s m args below meth c Q nL D A cells slots ws lv pc st := by
  subst hst
  intro H locs ls hP hD hS hl
  have hF := va_free (wc := wc) hD hS C.2.2.2.2.2.2.1 isC hC
  have hPc : va_P D vwCl wc H := fun j q hq => by
    obtain ⟨i, -, h2⟩ := at_map hC j q hq
    exact hP i q h2
  have hDt : va_D (fun _ => True) wc := (hD.sub isC hnd hC).weaken (fun _ _ _ _ => trivial)
  refine vx_calll (vx_runV (As := As) (rest := rest) ⟨C.1, C.2.1, C.2.2.1, C.2.2.2.1, C.2.2.2.2.1⟩ (hM H.size) (⟨callB_of n C.2.2.2.2.1 (wsm_good hw.2.2.2.2.1) rfl hR.2.1 hR.2.2 (C.2.2.2.2.1 _ hw.2.2.2.1) (C.2.2.2.2.1 _ hw.1) hw.2.2.2.2.2 hR.1, C.2.2.2.2.1 _ hw.2.1, C.2.2.2.2.1 _ hw.2.2.1⟩) ⟨prx_blind D k _ wc H.size, va_recv C.2.2.2.2.2.1 hP hci hq, fun U hU hW => ⟨rfl, pre_of C hPc hDt hS hF U hU hW, hE.go hW (fun q h1 h2 => by rw [hU]; exact hS.2.1 q h1 h2) hF⟩⟩ rfl hn hl.1 rfl (lv_room hrest) hd hcap) hS (fun q _ h => hF q h) hF (fun q _ h => hF q h) (fun E ce q9 u t H1 locs1 ht hvm hp1 hB hz1 hk1 hS1 hce hcv hcl => ?_) (fun r9 u t H1 locs1 ht hvm hw1 hB hz1 hk1 hS1 => ?_)
  · obtain ⟨rfl, hP1, hK1, hD1⟩ := hB
    rw [ht] at hP1
    obtain ⟨hP2, hD2⟩ := put_ok hP hD hC hs hsame hk1 hP1
    exact vx_catch C.2.2.2.1 [] ⟨0, b0, h0, 13⟩ [] (by rw [htab]; rfl) (fun z hz => nomatch hz) hcov (by simp) (C.2.2.2.2.1 _ nse_l) (va_Nw.use rfl hE.2.2.2.1) hce hcv hcl (kx hp1 q9 H1 locs1 ls hP2 hD2 hS1 hl)
  · obtain ⟨hP1, hK1, hD1⟩ := hB
    rw [ht] at hP1
    obtain ⟨hP2, hD2⟩ := put_ok hP hD hC hs hsame hk1 hP1
    obtain ⟨h0, rfl⟩ := hw1
    exact kk h0 H1 locs1 ls hP2 hD2 hS1 hl
theorem astL_one {f : Nat → Int64} {x : Int64} : astL 1 0 f x = some (vp_updL f 0 x) := by
  unfold astL
  rw [if_neg (by decide)]
  rfl
end WRP
set_option maxHeartbeats 4000000 in
set_option maxRecDepth 100000 in
theorem okL_label (l : Launch) (hl9 : l.stackTraces = false) (D : va_G) (k : Nat → ClassId) : oL_label l D k := by
  intro q_p1 q_p1_text q_p1_row q_p1_now q_p1_trial q_p1_doors q_p1_history q_p1_kept q_p1_now_grid q_p1_now_rule q_p1_now_grid_marks q_p4 c_p1_now_grid_size c_p1_now_grid_full c_p1_now_grid_turns c_p1_now_grid_firstFull c_p1_now_grid_lastFull c_p1_now_grid_marks c_p4 x2 x3 r_ w_p4 hf
  refine mkMSx (own := "DoorWalkLaw") (by decide) rfl (Nat.le_of_ble_eq_true rfl) ?_
  intro p e s m args below meth c hr hk htab hE C
  refine ww_lv (lv' := [(0, .ref q_p1), (1, .int x2), (2, .int x3), (3, .ref q_p4)]) [0, 1, 2, 3] rfl ?_
  unfold fL_label at hf
  obtain ⟨t_, v_, hc, hf⟩ := bd2_some hf
  refine ww_aload_n (pc := 0) C dL_label_0 rfl 3 rfl ?_
  refine ww_iconst (pc := 1) C dL_label_1 kI_0 ?_
  refine ww_aload_n (pc := 2) C dL_label_2 rfl 0 rfl ?_
  refine ww_iload_n (pc := 3) C dL_label_3 rfl 1 rfl ?_
  refine ww_iload_n (pc := 4) C dL_label_4 rfl 2 rfl ?_
  refine ww_callTi (pc := 5) (As := [.int x2, .int x3]) (rest := [.int 0, .ref q_p4]) (ws' := [oX7 q_p1 q_p1_text q_p1_row q_p1_now q_p1_trial q_p1_doors q_p1_history q_p1_kept, oX5 q_p1_now q_p1_now_grid q_p1_now_rule, oX1 q_p1_now_grid q_p1_now_grid_marks c_p1_now_grid_size c_p1_now_grid_full c_p1_now_grid_turns c_p1_now_grid_firstFull c_p1_now_grid_lastFull, aI k q_p1_now_grid_marks 153 c_p1_now_grid_marks, aJ k q_p4 1 c_p4]) (b0 := 10) (h0 := 13) C hE (tX7_label l D k q_p1 q_p1_text q_p1_row q_p1_now q_p1_trial q_p1_doors q_p1_history q_p1_kept q_p1_now_grid q_p1_now_rule q_p1_now_grid_marks c_p1_now_grid_size c_p1_now_grid_full c_p1_now_grid_turns c_p1_now_grid_firstFull c_p1_now_grid_lastFull c_p1_now_grid_marks x2 x3 t_ v_ hl9 hc) cv_L_7 ⟨⟨Nat.le_of_ble_eq_true rfl, Nat.le_of_ble_eq_true rfl⟩, rfl, rfl⟩ 0 rfl rfl [0, 1, 2, 3] rfl rfl rfl rfl rfl rfl (Nat.le_of_ble_eq_true rfl) ⟨Nat.le_of_ble_eq_true rfl, Nat.le_of_ble_eq_true rfl⟩ dL_label_5 htab (by decide) (fun ht q9 => ?_) (fun ht => ?_)
  · rw [if_neg ht] at hf
    cases hf
    refine ww_astore (pc := 13) (lv' := [(4, .ref q9), (0, .ref q_p1), (1, .int x2), (2, .int x3), (3, .ref q_p4)]) C dL_label_13 (by decide) rfl ?_
    refine ww_iconst (pc := 15) C dL_label_15 kI_1 ?_
    exact ww_iret C hr hk rfl rfl rfl dL_label_16
  · rw [if_pos ht] at hf
    cases hf
    refine ww_i2l (pc := 8) C dL_label_8 ?_
    refine ww_last (pc := 9) (ws' := [oX7 q_p1 q_p1_text q_p1_row q_p1_now q_p1_trial q_p1_doors q_p1_history q_p1_kept, oX5 q_p1_now q_p1_now_grid q_p1_now_rule, oX1 q_p1_now_grid q_p1_now_grid_marks c_p1_now_grid_size c_p1_now_grid_full c_p1_now_grid_turns c_p1_now_grid_firstFull c_p1_now_grid_lastFull, aI k q_p1_now_grid_marks 153 c_p1_now_grid_marks, aJ k q_p4 1 (vp_updL c_p4 0 v_.toInt64)]) C 4 rfl (astL_one (f := c_p4) (x := v_.toInt64)) rfl dL_label_9 ?_
    refine ww_goto (pc := 10) (tgt := 17) C dL_label_10 (by decide) ?_
    refine ww_iconst (pc := 17) C dL_label_17 kI_0 ?_
    exact ww_iret C hr hk rfl rfl rfl dL_label_18
set_option maxHeartbeats 4000000 in
set_option maxRecDepth 100000 in
theorem okL_step (l : Launch) (hl9 : l.stackTraces = false) (D : va_G) (k : Nat → ClassId) : oL_step l D k := by
  intro q_p1 q_p1_text q_p1_row q_p1_now q_p1_trial q_p1_doors q_p1_history q_p1_kept q_p1_doors_way q_p1_doors_seen q_p1_now_grid q_p1_now_rule q_p1_now_grid_marks q_p5 c_p1_doors_length c_p1_doors_cameOut c_p1_doors_longest c_p1_doors_way c_p1_now_grid_size c_p1_now_grid_full c_p1_now_grid_turns c_p1_now_grid_firstFull c_p1_now_grid_lastFull c_p1_now_grid_marks c_p5 x2 x3 x4 r_ w_p1_doors_cameOut w_p1_doors_length w_p1_doors_way w_p5 hf
  refine mkMSx (own := "DoorWalkLaw") (by decide) rfl (Nat.le_of_ble_eq_true rfl) ?_
  intro p e s m args below meth c hr hk htab hE C
  refine ww_lv (lv' := [(0, .ref q_p1), (1, .int x2), (2, .int x3), (3, .int x4), (4, .ref q_p5)]) [0, 1, 2, 3, 4] rfl ?_
  unfold fL_step at hf
  obtain ⟨t_, v_, o1, o2, o3, hc, hf⟩ := bd5_some hf
  refine ww_aload (pc := 0) C dL_step_0 4 rfl ?_
  refine ww_iconst (pc := 2) C dL_step_2 kI_0 ?_
  refine ww_aload_n (pc := 3) C dL_step_3 rfl 0 rfl ?_
  refine ww_iload_n (pc := 4) C dL_step_4 rfl 1 rfl ?_
  refine ww_iload_n (pc := 5) C dL_step_5 rfl 2 rfl ?_
  refine ww_iload_n (pc := 6) C dL_step_6 rfl 3 rfl ?_
  refine ww_callTi (pc := 7) (As := [.int x2, .int x3, .int x4]) (rest := [.int 0, .ref q_p5]) (ws' := [oX7 q_p1 q_p1_text q_p1_row q_p1_now q_p1_trial q_p1_doors q_p1_history q_p1_kept, oX0 q_p1_doors q_p1_doors_way q_p1_doors_seen o2 o1 c_p1_doors_longest, aI k q_p1_doors_way 512 o3, oX5 q_p1_now q_p1_now_grid q_p1_now_rule, oX1 q_p1_now_grid q_p1_now_grid_marks c_p1_now_grid_size c_p1_now_grid_full c_p1_now_grid_turns c_p1_now_grid_firstFull c_p1_now_grid_lastFull, aI k q_p1_now_grid_marks 153 c_p1_now_grid_marks, aJ k q_p5 1 c_p5]) (b0 := 12) (h0 := 15) C hE (tX7_step l D k q_p1 q_p1_text q_p1_row q_p1_now q_p1_trial q_p1_doors q_p1_history q_p1_kept q_p1_doors_way q_p1_doors_seen q_p1_now_grid q_p1_now_rule q_p1_now_grid_marks c_p1_doors_length c_p1_doors_cameOut c_p1_doors_longest c_p1_doors_way c_p1_now_grid_size c_p1_now_grid_full c_p1_now_grid_turns c_p1_now_grid_firstFull c_p1_now_grid_lastFull c_p1_now_grid_marks x2 x3 x4 t_ v_ o1 o2 o3 hl9 hc) cv_L_15 ⟨⟨Nat.le_of_ble_eq_true rfl, Nat.le_of_ble_eq_true rfl⟩, rfl, rfl⟩ 0 rfl rfl [0, 1, 2, 3, 4, 5] rfl rfl rfl rfl rfl rfl (Nat.le_of_ble_eq_true rfl) ⟨Nat.le_of_ble_eq_true rfl, Nat.le_of_ble_eq_true rfl⟩ dL_step_7 htab (by decide) (fun ht q9 => ?_) (fun ht => ?_)
  · rw [if_neg ht] at hf
    cases hf
    refine ww_astore (pc := 15) (lv' := [(5, .ref q9), (0, .ref q_p1), (1, .int x2), (2, .int x3), (3, .int x4), (4, .ref q_p5)]) C dL_step_15 (by decide) rfl ?_
    refine ww_iconst (pc := 17) C dL_step_17 kI_1 ?_
    exact ww_iret C hr hk rfl rfl rfl dL_step_18
  · rw [if_pos ht] at hf
    cases hf
    refine ww_i2l (pc := 10) C dL_step_10 ?_
    refine ww_last (pc := 11) (ws' := [oX7 q_p1 q_p1_text q_p1_row q_p1_now q_p1_trial q_p1_doors q_p1_history q_p1_kept, oX0 q_p1_doors q_p1_doors_way q_p1_doors_seen w_p1_doors_length w_p1_doors_cameOut c_p1_doors_longest, aI k q_p1_doors_way 512 w_p1_doors_way, oX5 q_p1_now q_p1_now_grid q_p1_now_rule, oX1 q_p1_now_grid q_p1_now_grid_marks c_p1_now_grid_size c_p1_now_grid_full c_p1_now_grid_turns c_p1_now_grid_firstFull c_p1_now_grid_lastFull, aI k q_p1_now_grid_marks 153 c_p1_now_grid_marks, aJ k q_p5 1 (vp_updL c_p5 0 v_.toInt64)]) C 6 rfl (astL_one (f := c_p5) (x := v_.toInt64)) rfl dL_step_11 ?_
    refine ww_goto (pc := 12) (tgt := 19) C dL_step_12 (by decide) ?_
    refine ww_iconst (pc := 19) C dL_step_19 kI_0 ?_
    exact ww_iret C hr hk rfl rfl rfl dL_step_20
set_option maxHeartbeats 4000000 in
set_option maxRecDepth 100000 in
theorem okL_row (l : Launch) (hl9 : l.stackTraces = false) (D : va_G) (k : Nat → ClassId) : oL_row l D k := by
  intro q_p1 q_p1_text q_p1_row q_p1_now q_p1_trial q_p1_doors q_p1_history q_p1_kept q_p1_row_numbers q_p3 c_p1_row_length c_p1_row_numbers c_p3 x2 r_ w_p3 hf
  refine mkMSx (own := "DoorWalkLaw") (by decide) rfl (Nat.le_of_ble_eq_true rfl) ?_
  intro p e s m args below meth c hr hk htab hE C
  refine ww_lv (lv' := [(0, .ref q_p1), (1, .int x2), (2, .ref q_p3)]) [0, 1, 2] rfl ?_
  unfold fL_row at hf
  obtain ⟨t_, v_, hc, hf⟩ := bd2_some hf
  refine ww_aload_n (pc := 0) C dL_row_0 rfl 2 rfl ?_
  refine ww_iconst (pc := 1) C dL_row_1 kI_0 ?_
  refine ww_aload_n (pc := 2) C dL_row_2 rfl 0 rfl ?_
  refine ww_iload_n (pc := 3) C dL_row_3 rfl 1 rfl ?_
  refine ww_callTl (pc := 4) (As := [.int x2]) (rest := [.int 0, .ref q_p3]) (ws' := [oX7 q_p1 q_p1_text q_p1_row q_p1_now q_p1_trial q_p1_doors q_p1_history q_p1_kept, oX3 q_p1_row q_p1_row_numbers c_p1_row_length, aJ k q_p1_row_numbers 16 c_p1_row_numbers, aJ k q_p3 1 c_p3]) (b0 := 8) (h0 := 11) C hE (tX7_row l D k q_p1 q_p1_text q_p1_row q_p1_now q_p1_trial q_p1_doors q_p1_history q_p1_kept q_p1_row_numbers c_p1_row_length c_p1_row_numbers x2 t_ v_ hl9 hc) cv_L_19 ⟨⟨Nat.le_of_ble_eq_true rfl, Nat.le_of_ble_eq_true rfl⟩, rfl, rfl⟩ 0 rfl rfl [0, 1, 2] rfl rfl rfl rfl rfl rfl (Nat.le_of_ble_eq_true rfl) ⟨Nat.le_of_ble_eq_true rfl, Nat.le_of_ble_eq_true rfl⟩ dL_row_4 htab (by decide) (fun ht q9 => ?_) (fun ht => ?_)
  · rw [if_neg ht] at hf
    cases hf
    refine ww_astore_n (pc := 11) (lv' := [(3, .ref q9), (0, .ref q_p1), (1, .int x2), (2, .ref q_p3)]) C dL_row_11 rfl (by decide) rfl ?_
    refine ww_iconst (pc := 12) C dL_row_12 kI_1 ?_
    exact ww_iret C hr hk rfl rfl rfl dL_row_13
  · rw [if_pos ht] at hf
    cases hf
    refine ww_last (pc := 7) (ws' := [oX7 q_p1 q_p1_text q_p1_row q_p1_now q_p1_trial q_p1_doors q_p1_history q_p1_kept, oX3 q_p1_row q_p1_row_numbers c_p1_row_length, aJ k q_p1_row_numbers 16 c_p1_row_numbers, aJ k q_p3 1 (vp_updL c_p3 0 v_)]) C 3 rfl (astL_one (f := c_p3) (x := v_)) rfl dL_row_7 ?_
    refine ww_goto (pc := 8) (tgt := 14) C dL_row_8 (by decide) ?_
    refine ww_iconst (pc := 14) C dL_row_14 kI_0 ?_
    exact ww_iret C hr hk rfl rfl rfl dL_row_15
