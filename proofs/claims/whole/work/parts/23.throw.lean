/-! Methods that throw NoSuchElementException: rows and contracts. The course of throwN is that of the kit's vx_throwS. -/
section THR
def nseB : List Cond := [.castable nN nN, .declares ⟨"java/lang/RuntimeException", "<init>", "(Ljava/lang/String;)V"⟩, .declares ⟨"java/lang/Exception", "<init>", "(Ljava/lang/String;)V"⟩, .declares ⟨"java/lang/Throwable", "<init>", "(Ljava/lang/String;)V"⟩]
set_option maxRecDepth 100000 in
theorem nse_in : ∀ w ∈ (nseAtoms "DoorWalk" 140).filter vx_no, (w ∈ lw_tbl ∧ goodWord w = true) ∨ w ∈ nseB := by decide +kernel
set_option maxRecDepth 100000 in
theorem nse_k : Cond.classLink "DoorWalk" 136 nN ∈ lw_tbl ∧ Cond.initialized nN ∈ lw_tbl := by decide +kernel
theorem nse_kg : goodWord (Cond.classLink "DoorWalk" 136 nN) = true ∧ goodWord (Cond.initialized nN) = true := by decide +kernel
theorem nse_ot : ∀ w ∈ Cond.classLink "DoorWalk" 136 nN :: Cond.initialized nN :: (nseAtoms "DoorWalk" 140).filter vx_no, vx_ot w = true := by decide +kernel
variable {p : Program} {l : Launch} {e : Env} {R : Room} {s : State} {m : MethodId} {args : Array Value} {below : List Frame} {meth : Method} {c : Code} {H : Heap} {locs : List Loc} {cells slots : Nat} {free : Addr → Prop} {ls : Array Slot} {rest : List Value} {Qc : Array Value → State → Outcome → State → Prop} {XC : String → State → State → Prop}
theorem nse_at (htb : ∀ w ∈ TB, w.before args s = true) {A : Nat → Prop} (hE : EXC A s s.heap) : ∀ w ∈ (nseAtoms "DoorWalk" 140).filter vx_no, w.before args s = true := by
  intro w hw
  rcases nse_in w hw with h | h
  · exact htb w (tb_in h.1 h.2)
  · simp only [nseB, List.mem_cons, List.not_mem_nil, or_false] at h
    rcases h with rfl | rfl | rfl | rfl
    · exact va_Nw.use rfl hE.2.2.2.1
    · exact va_Nw.use rfl (hE.2.2.1 _ (by simp [xD]))
    · exact va_Nw.use rfl (hE.2.2.1 _ (by simp [xD]))
    · exact va_Nw.use rfl (hE.2.2.1 _ (by simp [xD]))
set_option maxHeartbeats 4000000 in
theorem throwN {cc : ByteArray} {pc : Nat} (hexec : p.tables.exec = Jvm.exec) (hb : c.code = cc) (hl : l.stackTraces = false) {text : String} {is d4n mc ms sa : Nat} {A : Nat → Prop} {i4 : Instr}
    (hown : s.vm.findClass "DoorWalk" = some m.cls) (htb : ∀ w ∈ TB, w.before args s = true) (hE : EXC A s s.heap) (hstr : vk_R "DoorWalk" is text sa s) (hS : va_S A s.heap H locs) (hsize : ls.size = c.maxLocals)
    (d0 : decode cc pc = .ok (.new 136, 3)) (d3 : decode cc (pc + 3) = .ok (.dup, 1)) (d4 : decode cc (pc + 4) = .ok (i4, d4n)) (h4 : (i4 = .ldc is ∧ d4n = 2) ∨ (i4 = .ldc_w is ∧ d4n = 3)) (d6 : decode cc (pc + 4 + d4n) = .ok (.invokespecial 140, 3)) (d9 : decode cc (pc + 4 + d4n + 3) = .ok (.athrow, 1))
    (hout : ∀ x ∈ c.exceptionTable.toList, False)
    (hRframes : 5 < R.frames) (hRlocals : (rest.map fun v => v.category).sum + 82 ≤ R.locals) (hRcells : cells + 1 ≤ R.cells) (hRslots : slots + 6 ≤ R.slots) (hlocks : meth.locks = false)
    (hx : ∀ t : State, s.vm.Alike t.vm → H.size ≤ t.heap.size → (∀ q : Nat, q < H.size → t.heap[q]? = H[q]?) → XC nN s t)
    (hf : ∀ z ∈ locs, free z.base) (hc : cells + 1 ≤ mc) (hs : slots + 6 ≤ ms) :
    W p l e R s m args below meth c H locs cells slots (vx_MQ below Qc XC args s mc ms free) (F0 m pc ls rest) := by
  intro T hT X
  have htr : e.platform.stackTraces = false := (show e.platform.stackTraces = l.stackTraces by rw [X.admits.platform]).trans hl
  have Y := vx_rebase X (R' := { frames := R.frames, locals := R.locals, cells := 1, slots := 6 }) (Nat.le_refl _) (Nat.le_refl _) hRcells hRslots
  obtain ⟨s', hA⟩ : ∃ z, z = (T.setVm s.vm).setFrames (.invoking m args :: below) := ⟨_, rfl⟩
  rw [← hA] at Y
  have hvm : s'.vm = s.vm := by rw [hA]; rfl
  have hhp : s'.heap = H := by rw [hA]; exact hT
  have hW0 : s.WarmedH s'.vm := by rw [hvm]; exact State.WarmedH.refl s
  have hat' : ∀ w ∈ (nseAtoms "DoorWalk" 140).filter vx_no, w.before args s' = true := fun w hw => vx_ot_at hW0 hvm.symm (nse_ot w (List.mem_cons_of_mem _ (List.mem_cons_of_mem _ hw))) (nse_at htb hE w hw)
  have hk' : (Cond.classLink "DoorWalk" 136 nN).before args s' = true := vx_ot_at hW0 hvm.symm (nse_ot _ List.mem_cons_self) (htb _ (tb_in nse_k.1 nse_kg.1))
  have hini' : (Cond.initialized nN).before args s' = true := vx_ot_at hW0 hvm.symm (nse_ot _ (List.mem_cons_of_mem _ List.mem_cons_self)) (htb _ (tb_in nse_k.2 nse_kg.2))
  have hU' : vx_Zq Bundle.tN "UNASSIGNED_STACK" Bundle.steD A s' s'.heap := by rw [hhp]; exact vx_Zq.moved hW0.alike (hE.1.kept hS.2.1)
  have hN' : vx_Zq Bundle.tN "SUPPRESSED_SENTINEL" Bundle.listD A s' s'.heap := by rw [hhp]; exact vx_Zq.moved hW0.alike (hE.2.1.kept hS.2.1)
  have h : ∀ w ∈ nseAtoms "DoorWalk" 140, w.before args s' = true := vx_own hat' (vx_isRefq hU'.1) (vx_isRefq hN'.1) hU'.2.word hN'.2.word
  have hown' : s'.vm.findClass "DoorWalk" = some m.cls := by rw [hvm]; exact hown
  have hins : (Cond.instantiable nN 6).before args s' = true := h _ (by simp [nseAtoms, nseLast])
  obtain ⟨vm₁, cX, kX, hfX, hkX, -, -, X₁, st1⟩ := Y.newCold hexec (own := "DoorWalk") (C := nN) (index := 136) (n := 6) hown' hk' hins hini'
    (g := F0 m pc ls rest) rfl (by rw [hb]; exact d0) (Nat.le_refl _) (Nat.le_refl _)
  generalize hT1 : (T.setVm vm₁).pushCell { cls := cX, slots := kX.instanceTypes.map defaultValue, vm := .none } = T1 at X₁ st1
  have hcat : (Value.ref T.heap.size).category = 1 := rfl
  have hcellA : T1.heap[T.heap.size]? = some (freshCell cX kX) := by rw [← hT1]; exact State.heap_pushCell_size _ _
  have d3' : decode c.code (pc + 3) = .ok (.dup, 1) := by rw [hb]; exact d3
  have hstr' : vk_R "DoorWalk" is text sa s' := vk_R.warm hW0 hstr
  obtain ⟨U, hsteps, hrun, hend, hW, hsame, ce, hce, hcv, hcl0⟩ := ctorThrowN X₁ hexec htr (own := "DoorWalk") (ic := 140) hown' h (fun x hx => nomatch hx) hfX hkX hcellA (by rw [hhp, hT]; exact Nat.le_refl _) (msg := .ref sa) rfl
    (g := { method := m, pc := pc + 4 + d4n, locals := ls, stack := .ref sa :: .ref T.heap.size :: .ref T.heap.size :: rest, locked := none }) rfl hsize rfl rfl (rest := rest) rfl
    (by rw [hb]; exact d6) (by rw [hb]; exact d9) (fun x hx => (hout x hx).elim) hRframes (by simp only [List.map_cons, List.sum_cons, hcat]; omega) hlocks
  obtain ⟨f1, f2⟩ := vx_frame hsame
  rw [hhp] at f1 f2
  have hWs : s.WarmedH U.vm := State.WarmedH.trans hW0 hW
  have hcl : s.vm.findClass nN = some ce.cls := by
    rw [hvm] at hcl0
    exact hcl0
  have hall : s.sameButNew ({ U with vm := s.vm } : State) locs mc ms := by
    subst hA
    obtain ⟨e1, e2⟩ := hsame
    rw [State.setFrames_setFrames] at e1
    have h2 : (T.setVm s.vm).sameButNew ({ U with vm := s.vm } : State) [] (0 + 1) (0 + 6) := ⟨e1, e2⟩
    have h3 := X.same.trans h2
    rw [List.append_nil] at h3
    exact h3.mono hc hs
  refine ⟨U, ?_, .threw T.heap.size, hrun, hend, Or.inr ⟨T.heap.size, rfl, nN, ce, locs, hx U hWs.alike f1 (fun q hq => f2 q hq (fun z hz => nomatch hz)), hce, hcv, hcl, hWs, hall, hf⟩⟩
  refine st1 _ ?_
  show Steps p.tables e below (T1.setTop { method := m, pc := pc + 3, locals := ls, stack := .ref T.heap.size :: rest, locked := none }) _
  jvm_step X₁.here [X₁.here.top, hexec, d3', Value.category]
  rcases h4 with ⟨rfl, rfl⟩ | ⟨rfl, rfl⟩
  · exact X₁.ldcString hexec (own := "DoorWalk") (text := text) (index := is) (a := sa) hown' hstr'.1 hstr'.2
      (g := { method := m, pc := pc + 4, locals := ls, stack := .ref T.heap.size :: .ref T.heap.size :: rest, locked := none }) rfl (by rw [hb]; exact d4) _ hsteps
  · exact X₁.ldcStringW hexec (own := "DoorWalk") (text := text) (index := is) (a := sa) hown' hstr'.1 hstr'.2
      (g := { method := m, pc := pc + 4, locals := ls, stack := .ref T.heap.size :: .ref T.heap.size :: rest, locked := none }) rfl (by rw [hb]; exact d4) _ hsteps
end THR
def MTx (l : Launch) (y : MethodName) (cc : ByteArray) (nL : Nat) (rm : Room) (D : va_G) (k : Nat → ClassId) (avs : List Value) (ws : va_W) (t : Int32) (r : Int32) (wsF : va_W) : Prop :=
  ∀ sz, vx_Met l y (WSM y cc nL (some .int)) rm (va_Pc avs (PRX D k ws sz)) (va_Qi (fun v (_ : Unit) => t = 0 ∧ v = r) (fun _ st => PST D k ws wsF sz st) (va_A ws sz)) (vx_X (fun (_ : Unit) => ¬ t = 0) (fun E _ st => E = nN ∧ PST D k ws wsF sz st) (va_A ws sz)) 1 6 (va_A ws sz)
set_option maxHeartbeats 4000000 in
theorem mkMTx {l : Launch} {y : MethodName} {cc : ByteArray} {nL f lo : Nat} {t : Int32} {r : Int32} {D : va_G} {k : Nat → ClassId} {avs : List Value} {ws wsF : va_W} {own : String} (hy : plainName y.cls = true) (ho : y.cls = own) (hlen : (lg_sl avs).length ≤ nL) (hl9 : l.stackTraces = false) (hroom : 6 ≤ f ∧ 82 ≤ lo) (hdw : own = "DoorWalk")
    (H : ∀ (p : Program) (e : Env) (s : State) (m : MethodId) (args : Array Value) (below : List Frame) (meth : Method) (c : Code) (Q : State → Prop) (A : Nat → Prop),
      (∀ (ws2 : va_W) (lv2 : List (Nat × Value)) (pc2 : Nat) (v : Int32), decode cc pc2 = .ok (.ireturn, 1) → 0 = t → v = r → ws2 = wsF → WW p l e (RMa f 1 6 lo) s m args below meth c Q nL D A 0 0 ws2 lv2 pc2 [.int v]) →
      (∀ (ws2 : va_W) (lv2 : List (Nat × Value)) (pc2 is : Nat), is ∈ [138, 237, 239, 404] → decode cc pc2 = .ok (.new 136, 3) → decode cc (pc2 + 3) = .ok (.dup, 1) → decode cc (pc2 + 4) = .ok (.ldc is, 2) → decode cc (pc2 + 6) = .ok (.invokespecial 140, 3) → decode cc (pc2 + 9) = .ok (.athrow, 1) → 1 = t → ws2 = wsF → WW p l e (RMa f 1 6 lo) s m args below meth c Q nL D A 0 0 ws2 lv2 pc2 []) →
      CX p s m args c cc nL own D k A → WW p l e (RMa f 1 6 lo) s m args below meth c Q nL D A 0 0 ws (lv_args 0 avs) 0 []) : MTx l y cc nL (RMa f 1 6 lo) D k avs ws t r wsF := by
  subst hdw
  intro sz
  refine vx_ofW (cc := cc) (maxL := nL) (ret := some .int) hy rfl ?_
  intro p e s m args below meth c s₁ B hml hout hv
  obtain ⟨rfl, ⟨rfl, hP, hK, hD0, hX⟩, hE⟩ := hv
  have hts := atoms_spec (ws := WSM y cc nL (some .int)) B.pre
  have hown : s.vm.findClass "DoorWalk" = some m.cls := ho ▸ findClass_of_methodNamed B.named
  have hl := lv_entry avs (n := nL) hlen
  rw [lg_entry_eq]
  have C : CX p s m avs.toArray c cc nL "DoorWalk" D k (va_A ws s.heap.size) := ⟨B.exec, B.bytes, hml, hown, fun w hw => hts w (List.mem_cons_of_mem _ hw), hK, fun q h => Or.inr h, hX⟩
  refine H p e s m _ below meth c _ _ (fun ws2 lv2 pc2 v hd ht h1 h2 => ?_) (fun ws2 lv2 pc2 is his d0 d3 d4 d6 d9 ht h2 => ?_) C s.heap [] _ hP hD0.self va_S.rf hl
  · subst h2
    exact fun H locs ls hP hD hS hl => W.widen (k := 1) (n := 6) (by omega) (by omega) (vx_ret (W.iret C.1 C.2.1 B.returns (fun t ht2 hW => ⟨⟨v, (), rfl, ⟨ht.symm, h1⟩, by rw [ht2]; exact hP, va_K.moved hW.alike C.2.2.2.2.2.1, hD⟩, hS.F ht2⟩) hS.2.2 hd B.notSynchronized))
  · subst h2
    intro H locs ls hP hD hS hl
    obtain ⟨s1, s2, s3, s4, g1, g2, g3, g4⟩ := hE.2.2.2.2
    have hstr : ∃ (text : String) (sa : Nat), vk_R "DoorWalk" is text sa s := by
      simp only [List.mem_cons, List.not_mem_nil, or_false] at his
      rcases his with rfl | rfl | rfl | rfl
      · exact ⟨_, _, g1⟩
      · exact ⟨_, _, g2⟩
      · exact ⟨_, _, g3⟩
      · exact ⟨_, _, g4⟩
    obtain ⟨text, sa, hstr⟩ := hstr
    refine throwN (rest := []) C.1 C.2.1 hl9 hown C.2.2.2.2.1 hE hstr hS (hl.1.trans hml.symm) d0 d3 d4 (Or.inl ⟨rfl, rfl⟩) d6 d9 hout (by show 5 < f; omega) (by show 0 + 82 ≤ lo; omega) (by show 0 + 1 ≤ 1; omega) (by show 0 + 6 ≤ 6; omega) B.notSynchronized (fun t9 hal hsz hkp => ?_) hS.2.2 (by omega) (by omega)
    refine ⟨(), (by rw [← ht]; decide), ⟨rfl, ?_, va_K.moved hal C.2.2.2.2.2.1, hD⟩, Nat.le_trans hS.1 hsz, fun q h1 h2 => ?_⟩
    · exact fun j q hq => (hP j q hq).kept (hkp q.1 (hP j q hq).lt)
    · rw [hkp q (Nat.lt_of_lt_of_le h1 hS.1)]
      exact hS.2.1 q h1 h2
def MTxL (l : Launch) (y : MethodName) (cc : ByteArray) (nL : Nat) (rm : Room) (D : va_G) (k : Nat → ClassId) (avs : List Value) (ws : va_W) (t : Int32) (r : Int64) (wsF : va_W) : Prop :=
  ∀ sz, vx_Met l y (WSM y cc nL (some .long)) rm (va_Pc avs (PRX D k ws sz)) (va_Ql (fun v (_ : Unit) => t = 0 ∧ v = r) (fun _ st => PST D k ws wsF sz st) (va_A ws sz)) (vx_X (fun (_ : Unit) => ¬ t = 0) (fun E _ st => E = nN ∧ PST D k ws wsF sz st) (va_A ws sz)) 1 6 (va_A ws sz)
set_option maxHeartbeats 4000000 in
theorem mkMTxL {l : Launch} {y : MethodName} {cc : ByteArray} {nL f lo : Nat} {t : Int32} {r : Int64} {D : va_G} {k : Nat → ClassId} {avs : List Value} {ws wsF : va_W} {own : String} (hy : plainName y.cls = true) (ho : y.cls = own) (hlen : (lg_sl avs).length ≤ nL) (hl9 : l.stackTraces = false) (hroom : 6 ≤ f ∧ 82 ≤ lo) (hdw : own = "DoorWalk")
    (H : ∀ (p : Program) (e : Env) (s : State) (m : MethodId) (args : Array Value) (below : List Frame) (meth : Method) (c : Code) (Q : State → Prop) (A : Nat → Prop),
      (∀ (ws2 : va_W) (lv2 : List (Nat × Value)) (pc2 : Nat) (v : Int64), decode cc pc2 = .ok (.lreturn, 1) → 0 = t → v = r → ws2 = wsF → WW p l e (RMa f 1 6 lo) s m args below meth c Q nL D A 0 0 ws2 lv2 pc2 [.long v]) →
      (∀ (ws2 : va_W) (lv2 : List (Nat × Value)) (pc2 is : Nat), is ∈ [138, 237, 239, 404] → decode cc pc2 = .ok (.new 136, 3) → decode cc (pc2 + 3) = .ok (.dup, 1) → decode cc (pc2 + 4) = .ok (.ldc_w is, 3) → decode cc (pc2 + 7) = .ok (.invokespecial 140, 3) → decode cc (pc2 + 10) = .ok (.athrow, 1) → 1 = t → ws2 = wsF → WW p l e (RMa f 1 6 lo) s m args below meth c Q nL D A 0 0 ws2 lv2 pc2 []) →
      CX p s m args c cc nL own D k A → WW p l e (RMa f 1 6 lo) s m args below meth c Q nL D A 0 0 ws (lv_args 0 avs) 0 []) : MTxL l y cc nL (RMa f 1 6 lo) D k avs ws t r wsF := by
  subst hdw
  intro sz
  refine vx_ofW (cc := cc) (maxL := nL) (ret := some .long) hy rfl ?_
  intro p e s m args below meth c s₁ B hml hout hv
  obtain ⟨rfl, ⟨rfl, hP, hK, hD0, hX⟩, hE⟩ := hv
  have hts := atoms_spec (ws := WSM y cc nL (some .long)) B.pre
  have hown : s.vm.findClass "DoorWalk" = some m.cls := ho ▸ findClass_of_methodNamed B.named
  have hl := lv_entry avs (n := nL) hlen
  rw [lg_entry_eq]
  have C : CX p s m avs.toArray c cc nL "DoorWalk" D k (va_A ws s.heap.size) := ⟨B.exec, B.bytes, hml, hown, fun w hw => hts w (List.mem_cons_of_mem _ hw), hK, fun q h => Or.inr h, hX⟩
  refine H p e s m _ below meth c _ _ (fun ws2 lv2 pc2 v hd ht h1 h2 => ?_) (fun ws2 lv2 pc2 is his d0 d3 d4 d6 d9 ht h2 => ?_) C s.heap [] _ hP hD0.self va_S.rf hl
  · subst h2
    exact fun H locs ls hP hD hS hl => W.widen (k := 1) (n := 6) (by omega) (by omega) (vx_ret (W.lret C.1 C.2.1 B.returns (fun t ht2 hW => ⟨⟨v, (), rfl, ⟨ht.symm, h1⟩, by rw [ht2]; exact hP, va_K.moved hW.alike C.2.2.2.2.2.1, hD⟩, hS.F ht2⟩) hS.2.2 hd B.notSynchronized))
  · subst h2
    intro H locs ls hP hD hS hl
    obtain ⟨s1, s2, s3, s4, g1, g2, g3, g4⟩ := hE.2.2.2.2
    have hstr : ∃ (text : String) (sa : Nat), vk_R "DoorWalk" is text sa s := by
      simp only [List.mem_cons, List.not_mem_nil, or_false] at his
      rcases his with rfl | rfl | rfl | rfl
      · exact ⟨_, _, g1⟩
      · exact ⟨_, _, g2⟩
      · exact ⟨_, _, g3⟩
      · exact ⟨_, _, g4⟩
    obtain ⟨text, sa, hstr⟩ := hstr
    refine throwN (rest := []) C.1 C.2.1 hl9 hown C.2.2.2.2.1 hE hstr hS (hl.1.trans hml.symm) d0 d3 d4 (Or.inr ⟨rfl, rfl⟩) d6 d9 hout (by show 5 < f; omega) (by show 0 + 82 ≤ lo; omega) (by show 0 + 1 ≤ 1; omega) (by show 0 + 6 ≤ 6; omega) B.notSynchronized (fun t9 hal hsz hkp => ?_) hS.2.2 (by omega) (by omega)
    refine ⟨(), (by rw [← ht]; decide), ⟨rfl, ?_, va_K.moved hal C.2.2.2.2.2.1, hD⟩, Nat.le_trans hS.1 hsz, fun q h1 h2 => ?_⟩
    · exact fun j q hq => (hP j q hq).kept (hkp q.1 (hP j q hq).lt)
    · rw [hkp q (Nat.lt_of_lt_of_le h1 hS.1)]
      exact hS.2.1 q h1 h2
def fX7_label (c_now_grid_size : Int32) (c_now_grid_marks : Nat → Int32) (x1 : Int32) (x2 : Int32) : Option (Int32 × Int32) := (fX1_has c_now_grid_size x1 x2).bind fun v1 => if v1 = 0 then some (1, 0) else (fX1_labelAt c_now_grid_size c_now_grid_marks x1 x2).bind fun v2 => some (0, v2)
set_option maxHeartbeats 4000000 in
set_option maxRecDepth 100000 in
theorem tX7_label (l : Launch) (D : va_G) (k : Nat → ClassId) (q_this q_text q_row q_now q_trial q_doors q_history q_kept q_now_grid q_now_rule q_now_grid_marks : Nat) (c_now_grid_size : Int32) (c_now_grid_full : Int32) (c_now_grid_turns : Int32) (c_now_grid_firstFull : Int32) (c_now_grid_lastFull : Int32) (c_now_grid_marks : Nat → Int32) (x1 : Int32) (x2 : Int32) (t_ : Int32) (r_ : Int32) (hl9 : l.stackTraces = false) (hf : fX7_label c_now_grid_size c_now_grid_marks x1 x2 = some (t_, r_)) : MTx l yX7_label cX7_label 3 (RMa 6 1 6 90) D k [.ref q_this, .int x1, .int x2] [oX7 q_this q_text q_row q_now q_trial q_doors q_history q_kept, oX5 q_now q_now_grid q_now_rule, oX1 q_now_grid q_now_grid_marks c_now_grid_size c_now_grid_full c_now_grid_turns c_now_grid_firstFull c_now_grid_lastFull, aI k q_now_grid_marks 153 c_now_grid_marks] t_ r_ [oX7 q_this q_text q_row q_now q_trial q_doors q_history q_kept, oX5 q_now q_now_grid q_now_rule, oX1 q_now_grid q_now_grid_marks c_now_grid_size c_now_grid_full c_now_grid_turns c_now_grid_firstFull c_now_grid_lastFull, aI k q_now_grid_marks 153 c_now_grid_marks] := by
  refine mkMTx (own := "DoorWalk") (by decide) rfl (Nat.le_of_ble_eq_true rfl) hl9 ⟨Nat.le_of_ble_eq_true rfl, Nat.le_of_ble_eq_true rfl⟩ rfl ?_
  intro p e s m args below meth c Q A hret hthrow C
  refine ww_lv (lv' := [(0, .ref q_this), (1, .int x1), (2, .int x2)]) [0, 1, 2] rfl ?_
  unfold fX7_label at hf
  refine ww_aload_n (pc := 0) C dX7_label_0 rfl 0 rfl ?_
  refine gf7_2 (pc := 1) C kf_X7_26 0 rfl rfl dX7_label_1 ?_
  refine gf5_0 (pc := 4) C kf_X7_74 1 rfl rfl dX7_label_4 ?_
  refine ww_iload_n (pc := 7) C dX7_label_7 rfl 1 rfl ?_
  refine ww_iload_n (pc := 8) C dX7_label_8 rfl 2 rfl ?_
  obtain ⟨v1, h1, hf⟩ := bsome hf
  refine ww_callVi0 (pc := 9) (As := [.int x1, .int x2]) (rest := []) C (tX1_has l D k q_now_grid q_now_grid_marks c_now_grid_size c_now_grid_full c_now_grid_turns c_now_grid_firstFull c_now_grid_lastFull x1 x2 v1 h1) cv_X7_132 ⟨⟨by decide, by decide⟩, rfl, rfl⟩ 2 rfl rfl [2] rfl rfl rfl rfl (Nat.le_of_ble_eq_true rfl) ⟨Nat.zero_le _, Nat.zero_le _⟩ dX7_label_9 (fun hb1 => ?_)
  refine ww_if_ne (pc := 12) (tgt := 25) C dX7_label_12 (by decide) (fun hc => ?_) (fun hc => ?_)
  · have hf := ifF hc hf
    refine ww_aload_n (pc := 25) C dX7_label_25 rfl 0 rfl ?_
    refine gf7_2 (pc := 26) C kf_X7_26 0 rfl rfl dX7_label_26 ?_
    refine gf5_0 (pc := 29) C kf_X7_74 1 rfl rfl dX7_label_29 ?_
    refine ww_iload_n (pc := 32) C dX7_label_32 rfl 1 rfl ?_
    refine ww_iload_n (pc := 33) C dX7_label_33 rfl 2 rfl ?_
    obtain ⟨v2, h2, hf⟩ := bsome hf
    refine ww_callVi0 (pc := 34) (As := [.int x1, .int x2]) (rest := []) C (tX1_labelAt l D k q_now_grid q_now_grid_marks c_now_grid_size c_now_grid_full c_now_grid_turns c_now_grid_firstFull c_now_grid_lastFull c_now_grid_marks x1 x2 v2 h2) cv_X7_143 ⟨⟨by decide, by decide⟩, rfl, rfl⟩ 2 rfl rfl [2, 3] rfl rfl rfl rfl (Nat.le_of_ble_eq_true rfl) ⟨Nat.zero_le _, Nat.zero_le _⟩ dX7_label_34 (fun hb2 => ?_)
    obtain ⟨e0, e1⟩ := ij2 hf
    exact hret _ _ 37 _ dX7_label_37 e0 e1 rfl
  · have hf := ifT hc hf
    obtain ⟨e0, e1⟩ := ij2 hf
    exact hthrow _ _ 15 138 (by decide) dX7_label_15 dX7_label_18 dX7_label_19 dX7_label_21 dX7_label_24 e0 rfl
def fX7_step_b27 (c_now_grid_size : Int32) (c_now_grid_marks : Nat → Int32) (c_doors_cameOut : Int32) (c_doors_length : Int32) (c_doors_way : Nat → Int32) (n1 : Int32) (n3 : Int32) (s0 : Int32) : Option (Int32 × Int32 × Int32 × Int32 × (Nat → Int32)) := if s0 = (-1 : Int32) then some (1, 0, c_doors_cameOut, c_doors_length, c_doors_way) else bd3 (fX0_enter c_now_grid_size c_now_grid_marks c_doors_cameOut c_doors_length c_doors_way n1 s0) fun v1 v2 v3 => if n3 < 0 then some (1, 0, v1, v2, v3) else if n3 < v2 then (fX0_cellOfWay v2 v3 n3).bind fun v4 => some (0, v4, v1, v2, v3) else some (1, 0, v1, v2, v3)
def fX7_step (c_now_grid_size : Int32) (c_now_grid_marks : Nat → Int32) (c_doors_cameOut : Int32) (c_doors_length : Int32) (c_doors_way : Nat → Int32) (x1 : Int32) (x2 : Int32) (x3 : Int32) : Option (Int32 × Int32 × Int32 × Int32 × (Nat → Int32)) := (fX7_isGood x1).bind fun v1 => if v1 = 0 then fX7_step_b27 c_now_grid_size c_now_grid_marks c_doors_cameOut c_doors_length c_doors_way x1 x3 (-1 : Int32) else (fX0_placeOf c_now_grid_size c_now_grid_marks x1 x2).bind fun v2 => fX7_step_b27 c_now_grid_size c_now_grid_marks c_doors_cameOut c_doors_length c_doors_way x1 x3 v2
set_option maxHeartbeats 4000000 in
set_option maxRecDepth 100000 in
theorem tX7_step (l : Launch) (D : va_G) (k : Nat → ClassId) (q_this q_text q_row q_now q_trial q_doors q_history q_kept q_doors_way q_doors_seen q_now_grid q_now_rule q_now_grid_marks : Nat) (c_doors_length : Int32) (c_doors_cameOut : Int32) (c_doors_longest : Int32) (c_doors_way : Nat → Int32) (c_now_grid_size : Int32) (c_now_grid_full : Int32) (c_now_grid_turns : Int32) (c_now_grid_firstFull : Int32) (c_now_grid_lastFull : Int32) (c_now_grid_marks : Nat → Int32) (x1 : Int32) (x2 : Int32) (x3 : Int32) (t_ : Int32) (r_ : Int32) (w_doors_cameOut : Int32) (w_doors_length : Int32) (w_doors_way : Nat → Int32) (hl9 : l.stackTraces = false) (hf : fX7_step c_now_grid_size c_now_grid_marks c_doors_cameOut c_doors_length c_doors_way x1 x2 x3 = some (t_, r_, w_doors_cameOut, w_doors_length, w_doors_way)) : MTx l yX7_step cX7_step 5 (RMa 6 1 6 148) D k [.ref q_this, .int x1, .int x2, .int x3] [oX7 q_this q_text q_row q_now q_trial q_doors q_history q_kept, oX0 q_doors q_doors_way q_doors_seen c_doors_length c_doors_cameOut c_doors_longest, aI k q_doors_way 512 c_doors_way, oX5 q_now q_now_grid q_now_rule, oX1 q_now_grid q_now_grid_marks c_now_grid_size c_now_grid_full c_now_grid_turns c_now_grid_firstFull c_now_grid_lastFull, aI k q_now_grid_marks 153 c_now_grid_marks] t_ r_ [oX7 q_this q_text q_row q_now q_trial q_doors q_history q_kept, oX0 q_doors q_doors_way q_doors_seen w_doors_length w_doors_cameOut c_doors_longest, aI k q_doors_way 512 w_doors_way, oX5 q_now q_now_grid q_now_rule, oX1 q_now_grid q_now_grid_marks c_now_grid_size c_now_grid_full c_now_grid_turns c_now_grid_firstFull c_now_grid_lastFull, aI k q_now_grid_marks 153 c_now_grid_marks] := by
  refine mkMTx (own := "DoorWalk") (by decide) rfl (Nat.le_of_ble_eq_true rfl) hl9 ⟨Nat.le_of_ble_eq_true rfl, Nat.le_of_ble_eq_true rfl⟩ rfl ?_
  intro p e s m args below meth c Q A hret hthrow C
  refine ww_lv (lv' := [(0, .ref q_this), (1, .int x1), (2, .int x2), (3, .int x3)]) [0, 1, 2, 3] rfl ?_
  have hJ27 : ∀ (c_doors_cameOut : Int32) (c_doors_length : Int32) (c_doors_way : Nat → Int32) (n1 : Int32) (n3 : Int32) (s0 : Int32), fX7_step_b27 c_now_grid_size c_now_grid_marks c_doors_cameOut c_doors_length c_doors_way n1 n3 s0 = some (t_, r_, w_doors_cameOut, w_doors_length, w_doors_way) → WW p l e (RMa 6 1 6 148) s m args below meth c Q 5 D A 0 0 [oX7 q_this q_text q_row q_now q_trial q_doors q_history q_kept, oX0 q_doors q_doors_way q_doors_seen c_doors_length c_doors_cameOut c_doors_longest, aI k q_doors_way 512 c_doors_way, oX5 q_now q_now_grid q_now_rule, oX1 q_now_grid q_now_grid_marks c_now_grid_size c_now_grid_full c_now_grid_turns c_now_grid_firstFull c_now_grid_lastFull, aI k q_now_grid_marks 153 c_now_grid_marks] [(0, .ref q_this), (1, .int n1), (3, .int n3)] 27 [.int s0] := by
    intro c_doors_cameOut c_doors_length c_doors_way n1 n3 s0
    intro hf
    unfold fX7_step_b27 at hf
    refine ww_istore (pc := 27) (lv' := [(4, .int s0), (0, .ref q_this), (1, .int n1), (3, .int n3)]) C dX7_step_27 (by decide) rfl ?_
    refine ww_iload (pc := 29) C dX7_step_29 0 rfl ?_
    refine ww_iconst (pc := 31) C dX7_step_31 kI_m1 ?_
    refine ww_icmp_ne (pc := 32) (tgt := 45) C dX7_step_32 (by decide) (fun hc => ?_) (fun hc => ?_)
    · have hf := ifF hc hf
      refine ww_aload_n (pc := 45) C dX7_step_45 rfl 1 rfl ?_
      refine gf7_4 (pc := 46) C kf_X7_40 0 rfl rfl dX7_step_46 ?_
      refine ww_aload_n (pc := 49) C dX7_step_49 rfl 1 rfl ?_
      refine gf7_2 (pc := 50) C kf_X7_26 0 rfl rfl dX7_step_50 ?_
      refine gf5_0 (pc := 53) C kf_X7_74 3 rfl rfl dX7_step_53 ?_
      refine ww_iload_n (pc := 56) C dX7_step_56 rfl 2 rfl ?_
      refine ww_iload (pc := 57) C dX7_step_57 0 rfl ?_
      obtain ⟨v1, v2, v3, h1, hf⟩ := bd3_some hf
      refine ww_callVv (pc := 59) (ws' := [oX7 q_this q_text q_row q_now q_trial q_doors q_history q_kept, oX0 q_doors q_doors_way q_doors_seen v2 v1 c_doors_longest, aI k q_doors_way 512 v3, oX5 q_now q_now_grid q_now_rule, oX1 q_now_grid q_now_grid_marks c_now_grid_size c_now_grid_full c_now_grid_turns c_now_grid_firstFull c_now_grid_lastFull, aI k q_now_grid_marks 153 c_now_grid_marks]) (As := [.ref q_now_grid, .int n1, .int s0]) (rest := []) C (tX0_enter l D k q_doors q_doors_way q_doors_seen q_now_grid q_now_grid_marks c_doors_length c_doors_cameOut c_doors_longest c_doors_way c_now_grid_size c_now_grid_full c_now_grid_turns c_now_grid_firstFull c_now_grid_lastFull c_now_grid_marks n1 s0 v1 v2 v3 h1) cv_X7_225 ⟨⟨by decide, by decide⟩, rfl, rfl⟩ 1 rfl rfl [1, 2, 4, 5] rfl rfl rfl rfl rfl rfl (Nat.le_of_ble_eq_true rfl) ⟨Nat.zero_le _, Nat.zero_le _⟩ dX7_step_59 ?_
      refine ww_iload_n (pc := 62) C dX7_step_62 rfl 3 rfl ?_
      refine ww_if_lt (pc := 63) (tgt := 77) C dX7_step_63 (by decide) (fun hc => ?_) (fun hc => ?_)
      · have hf := ifT hc hf
        obtain ⟨e0, e1, e2, e3, e4⟩ := ij5 hf
        exact hthrow _ _ 77 239 (by decide) dX7_step_77 dX7_step_80 dX7_step_81 dX7_step_83 dX7_step_86 e0 (by rw [← e2, ← e3, ← e4])
      · have hf := ifF hc hf
        refine ww_iload_n (pc := 66) C dX7_step_66 rfl 3 rfl ?_
        refine ww_aload_n (pc := 67) C dX7_step_67 rfl 1 rfl ?_
        refine gf7_4 (pc := 68) C kf_X7_40 0 rfl rfl dX7_step_68 ?_
        refine gf0_2 (pc := 71) C kf_X7_236 1 rfl rfl dX7_step_71 ?_
        refine ww_icmp_lt (pc := 74) (tgt := 87) C dX7_step_74 (by decide) (fun hc => ?_) (fun hc => ?_)
        · have hf := ifT hc hf
          refine ww_aload_n (pc := 87) C dX7_step_87 rfl 1 rfl ?_
          refine gf7_4 (pc := 88) C kf_X7_40 0 rfl rfl dX7_step_88 ?_
          refine ww_iload_n (pc := 91) C dX7_step_91 rfl 3 rfl ?_
          obtain ⟨v4, h4, hf⟩ := bsome hf
          refine ww_callVi0 (pc := 92) (As := [.int n3]) (rest := []) C (tX0_cellOfWay l D k q_doors q_doors_way q_doors_seen v2 v1 c_doors_longest v3 n3 v4 h4) cv_X7_241 ⟨⟨by decide, by decide⟩, rfl, rfl⟩ 1 rfl rfl [1, 2] rfl rfl rfl rfl (Nat.le_of_ble_eq_true rfl) ⟨Nat.zero_le _, Nat.zero_le _⟩ dX7_step_92 (fun hb4 => ?_)
          obtain ⟨e0, e1, e2, e3, e4⟩ := ij5 hf
          exact hret _ _ 95 _ dX7_step_95 e0 e1 (by rw [← e2, ← e3, ← e4])
        · have hf := ifF hc hf
          obtain ⟨e0, e1, e2, e3, e4⟩ := ij5 hf
          exact hthrow _ _ 77 239 (by decide) dX7_step_77 dX7_step_80 dX7_step_81 dX7_step_83 dX7_step_86 e0 (by rw [← e2, ← e3, ← e4])
    · have hf := ifT hc hf
      obtain ⟨e0, e1, e2, e3, e4⟩ := ij5 hf
      exact hthrow _ _ 35 237 (by decide) dX7_step_35 dX7_step_38 dX7_step_39 dX7_step_41 dX7_step_44 e0 (by rw [← e2, ← e3, ← e4])
  unfold fX7_step at hf
  refine ww_iload_n (pc := 0) C dX7_step_0 rfl 1 rfl ?_
  obtain ⟨v1, h1, hf⟩ := bsome hf
  refine ww_callSi0 (pc := 1) (As := [.int x1]) (rest := []) C (tX7_isGood l D k x1 v1 h1) cs_X7_195 ⟨⟨by decide, by decide⟩, rfl, rfl⟩ [] rfl rfl rfl rfl (Nat.le_of_ble_eq_true rfl) ⟨Nat.zero_le _, Nat.zero_le _⟩ dX7_step_1 (fun hb1 => ?_)
  refine ww_if_eq (pc := 4) (tgt := 26) C dX7_step_4 (by decide) (fun hc => ?_) (fun hc => ?_)
  · have hf := ifT hc hf
    refine ww_iconst (pc := 26) C dX7_step_26 kI_m1 ?_
    exact ww_lv [0, 1, 3] rfl (hJ27 c_doors_cameOut c_doors_length c_doors_way x1 x3 (-1 : Int32) hf)
  · have hf := ifF hc hf
    refine ww_aload_n (pc := 7) C dX7_step_7 rfl 0 rfl ?_
    refine gf7_4 (pc := 8) C kf_X7_40 0 rfl rfl dX7_step_8 ?_
    refine ww_aload_n (pc := 11) C dX7_step_11 rfl 0 rfl ?_
    refine gf7_2 (pc := 12) C kf_X7_26 0 rfl rfl dX7_step_12 ?_
    refine gf5_0 (pc := 15) C kf_X7_74 3 rfl rfl dX7_step_15 ?_
    refine ww_iload_n (pc := 18) C dX7_step_18 rfl 1 rfl ?_
    refine ww_iload_n (pc := 19) C dX7_step_19 rfl 2 rfl ?_
    obtain ⟨v2, h2, hf⟩ := bsome hf
    refine ww_callVi0 (pc := 20) (As := [.ref q_now_grid, .int x1, .int x2]) (rest := []) C (tX0_placeOf l D k q_doors q_doors_way q_doors_seen q_now_grid q_now_grid_marks c_doors_length c_doors_cameOut c_doors_longest c_now_grid_size c_now_grid_full c_now_grid_turns c_now_grid_firstFull c_now_grid_lastFull c_now_grid_marks x1 x2 v2 h2) cv_X7_221 ⟨⟨by decide, by decide⟩, rfl, rfl⟩ 1 rfl rfl [1, 4, 5] rfl rfl rfl rfl (Nat.le_of_ble_eq_true rfl) ⟨Nat.zero_le _, Nat.zero_le _⟩ dX7_step_20 (fun hb2 => ?_)
    refine ww_goto (pc := 23) (tgt := 27) C dX7_step_23 (by decide) ?_
    exact ww_lv [0, 1, 3] rfl (hJ27 c_doors_cameOut c_doors_length c_doors_way x1 x3 v2 hf)
def fX7_row (c_row_length : Int32) (c_row_numbers : Nat → Int64) (x1 : Int32) : Option (Int32 × Int64) := if x1 < 0 then some (1, 0) else if x1 < c_row_length then (fX3_at c_row_length c_row_numbers x1).bind fun v1 => some (0, v1) else some (1, 0)
set_option maxHeartbeats 4000000 in
set_option maxRecDepth 100000 in
theorem tX7_row (l : Launch) (D : va_G) (k : Nat → ClassId) (q_this q_text q_row q_now q_trial q_doors q_history q_kept q_row_numbers : Nat) (c_row_length : Int32) (c_row_numbers : Nat → Int64) (x1 : Int32) (t_ : Int32) (r_ : Int64) (hl9 : l.stackTraces = false) (hf : fX7_row c_row_length c_row_numbers x1 = some (t_, r_)) : MTxL l yX7_row cX7_row 2 (RMa 6 1 6 90) D k [.ref q_this, .int x1] [oX7 q_this q_text q_row q_now q_trial q_doors q_history q_kept, oX3 q_row q_row_numbers c_row_length, aJ k q_row_numbers 16 c_row_numbers] t_ r_ [oX7 q_this q_text q_row q_now q_trial q_doors q_history q_kept, oX3 q_row q_row_numbers c_row_length, aJ k q_row_numbers 16 c_row_numbers] := by
  refine mkMTxL (own := "DoorWalk") (by decide) rfl (Nat.le_of_ble_eq_true rfl) hl9 ⟨Nat.le_of_ble_eq_true rfl, Nat.le_of_ble_eq_true rfl⟩ rfl ?_
  intro p e s m args below meth c Q A hret hthrow C
  refine ww_lv (lv' := [(0, .ref q_this), (1, .int x1)]) [0, 1] rfl ?_
  unfold fX7_row at hf
  refine ww_iload_n (pc := 0) C dX7_row_0 rfl 1 rfl ?_
  refine ww_if_lt (pc := 1) (tgt := 15) C dX7_row_1 (by decide) (fun hc => ?_) (fun hc => ?_)
  · have hf := ifT hc hf
    obtain ⟨e0, e1⟩ := ij2 hf
    exact hthrow _ _ 15 404 (by decide) dX7_row_15 dX7_row_18 dX7_row_19 dX7_row_22 dX7_row_25 e0 rfl
  · have hf := ifF hc hf
    refine ww_iload_n (pc := 4) C dX7_row_4 rfl 1 rfl ?_
    refine ww_aload_n (pc := 5) C dX7_row_5 rfl 0 rfl ?_
    refine gf7_1 (pc := 6) C kf_X7_19 0 rfl rfl dX7_row_6 ?_
    refine gf3_1 (pc := 9) C kf_X7_293 1 rfl rfl dX7_row_9 ?_
    refine ww_icmp_lt (pc := 12) (tgt := 26) C dX7_row_12 (by decide) (fun hc => ?_) (fun hc => ?_)
    · have hf := ifT hc hf
      refine ww_aload_n (pc := 26) C dX7_row_26 rfl 0 rfl ?_
      refine gf7_1 (pc := 27) C kf_X7_19 0 rfl rfl dX7_row_27 ?_
      refine ww_iload_n (pc := 30) C dX7_row_30 rfl 1 rfl ?_
      obtain ⟨v1, h1, hf⟩ := bsome hf
      refine ww_callVl0 (pc := 31) (As := [.int x1]) (rest := []) C (tX3_at l D k q_row q_row_numbers c_row_length c_row_numbers x1 v1 h1) cv_X7_294 ⟨⟨by decide, by decide⟩, rfl, rfl⟩ 1 rfl rfl [1, 2] rfl rfl rfl rfl (Nat.le_of_ble_eq_true rfl) ⟨Nat.zero_le _, Nat.zero_le _⟩ dX7_row_31 ?_
      obtain ⟨e0, e1⟩ := ij2 hf
      exact hret _ _ 34 _ dX7_row_34 e0 e1 rfl
    · have hf := ifF hc hf
      obtain ⟨e0, e1⟩ := ij2 hf
      exact hthrow _ _ 15 404 (by decide) dX7_row_15 dX7_row_18 dX7_row_19 dX7_row_22 dX7_row_25 e0 rfl
