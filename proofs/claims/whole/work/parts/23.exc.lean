/-! What a throw needs of the start; the law's three methods with a table; the law's script. -/
section EXCS
abbrev nseN : String := "java/util/NoSuchElementException"
def xD : List MethodName := [⟨"java/lang/RuntimeException", "<init>", "(Ljava/lang/String;)V"⟩, ⟨"java/lang/Exception", "<init>", "(Ljava/lang/String;)V"⟩, ⟨"java/lang/Throwable", "<init>", "(Ljava/lang/String;)V"⟩]
def EXC (A : Nat → Prop) (U : State) (H : Heap) : Prop := vx_Zq Bundle.tN "UNASSIGNED_STACK" Bundle.steD A U H ∧ vx_Zq Bundle.tN "SUPPRESSED_SENTINEL" Bundle.listD A U H ∧ (∀ x ∈ xD, va_Nw (.declares x) U) ∧ va_Nw (.castable nseN nseN) U ∧ ∃ s1 s2 s3 s4 : Nat, vk_R "DoorWalk" 138 "no such POINT" s1 U ∧ vk_R "DoorWalk" 237 "no such WALK" s2 U ∧ vk_R "DoorWalk" 239 "no such CELL of the WALK" s3 U ∧ vk_R "DoorWalk" 404 "the ROW has no such number" s4 U
theorem EXC.go {A B : Nat → Prop} {s U : State} {H H1 : Heap} (h : EXC A s H) (hW : s.WarmedH U.vm) (hq : ∀ a : Nat, a < H.size → ¬ A a → H1[a]? = H[a]?) (hAB : ∀ q, B q → A q) : EXC B U H1 := by
  obtain ⟨h1, h2, h3, h4, s1, s2, s3, s4, g1, g2, g3, g4⟩ := h
  exact ⟨((h1.kept hq).moved hW.alike).narrow hAB, ((h2.kept hq).moved hW.alike).narrow hAB, fun x hx => (h3 x hx).warmD hW, h4.warmC hW, s1, s2, s3, s4, g1.warm hW, g2.warm hW, g3.warm hW, g4.warm hW⟩
theorem EXC.same {A : Nat → Prop} {s U : State} {H : Heap} (h : EXC A s H) (e : s.vm = U.vm) : EXC A U H := by
  obtain ⟨h1, h2, h3, h4, s1, s2, s3, s4, g1, g2, g3, g4⟩ := h
  have hal : s.vm.Alike U.vm := by rw [e]; exact Vm.Alike.refl _
  exact ⟨h1.moved hal, h2.moved hal, fun x hx => (h3 x hx).same rfl e, h4.same rfl e, s1, s2, s3, s4, g1.same e.symm, g2.same e.symm, g3.same e.symm, g4.same e.symm⟩
def WSH (y : MethodName) (cc : ByteArray) (nL : Nat) (rt : Option FieldType) (hh : List (Nat × Nat × Nat × Nat)) : List Cond := .codeWith y cc nL rt hh :: TB
def PRX (D : va_G) (k : Nat → ClassId) (ws : va_W) (sz : Nat) (U : State) : Prop := PRE D k ws sz U ∧ EXC (va_A ws sz) U U.heap
theorem prx_blind (D : va_G) (k : Nat → ClassId) (avs : List Value) (ws : va_W) (sz : Nat) : FrameBlind (va_Pc avs (PRX D k ws sz)) := fun a U g mk q => by
  have h := pre_blind D k avs ws sz a U g mk ⟨q.1, q.2.1⟩
  exact ⟨h.1, h.2, EXC.same (U := U.calling g mk a) q.2.2 rfl⟩
/-- the contract of a static method of the law with a table -/
def MSx (l : Launch) (y : MethodName) (cc : ByteArray) (nL : Nat) (rt : FieldType) (hh : List (Nat × Nat × Nat × Nat)) (rm : Room) (D : va_G) (k : Nat → ClassId) (avs : List Value) (ws : va_W) (r : Int32) (wsF : va_W) (mc ms : Nat) : Prop :=
  ∀ sz, Met l y (WSH y cc nL (some rt) hh) rm (va_Pc avs (PRX D k ws sz)) (QI D k rt ws r wsF sz) mc ms (va_A ws sz)
def CWW (own : String) (index : Nat) (y : MethodName) (bytes : ByteArray) (maxL : Nat) (rt : Option FieldType) (hh : List (Nat × Nat × Nat × Nat)) (n : Nat) : Prop :=
  Cond.methodLink own index y ∈ TB ∧ Cond.static y ∈ TB ∧ Cond.initialized y.cls ∈ TB ∧ Cond.codeWith y bytes maxL rt hh ∈ TB ∧ y.cls ≠ "java/lang/invoke/MethodHandle" ∧ y.cls ≠ "java/lang/invoke/VarHandle" ∧ (parseMethodDescriptor y.desc).map (fun d => d.parameters.length) = some n
variable {p : Program} {l : Launch} {e : Env} {R : Room} {s : State} {m : MethodId} {args : Array Value} {below : List Frame} {meth : Method} {c : Code} {Q : State → Prop} {cells slots : Nat} {cc : ByteArray} {nL : Nat} {own : String} {D : va_G} {k : Nat → ClassId} {A : Nat → Prop} {ws ws' : va_W} {lv lv' : List (Nat × Value)} {pc tgt : Nat} {st : List Value}
theorem ww_callWi (C : CX p s m args c cc nL own D k A) (hE : EXC A s s.heap) {y : MethodName} {bytes : ByteArray} {maxL n index mc ms : Nat} {hh : List (Nat × Nat × Nat × Nat)} {rt : FieldType} {r : Int32} {rm : Room} {wc wc' : va_W} {As rest : List Value} (hM : MSx l y bytes maxL rt hh rm D k As wc r wc' mc ms) (hw : CWW own index y bytes maxL (some rt) hh n) (hR : RoomA R rm maxL mc ms) (isC : List Nat) (hnd : va_nd isC = true) (hC : isC.map (fun i => ws[i]?) = wc.map some) (hs : putW ws isC wc' = ws') (hsame : wc'.map Prod.fst = wc.map Prod.fst) (hst : st = As.reverse ++ rest) (hn : As.length = n) (hrest : (rest.map fun v => v.category).sum ≤ 8) (hcap : cells + mc ≤ R.cells ∧ slots + ms ≤ R.slots) (hd : decode cc pc = .ok (.invokestatic index, 3)) (kk : narrow rt (.int r) = .int r → WW p l e R s m args below meth c Q nL D A (cells + mc) (slots + ms) ws' lv (pc + 3) (.int r :: rest)) : WW p l e R s m args below meth c Q nL D A cells slots ws lv pc st := by
  subst hst
  intro H locs ls hP hD hS hl
  have hF := va_free (wc := wc) hD hS C.2.2.2.2.2.2.1 isC hC
  have hPc : va_P D vwCl wc H := fun j q hq => by
    obtain ⟨i, -, h2⟩ := at_map hC j q hq
    exact hP i q h2
  have hDt : va_D (fun _ => True) wc := (hD.sub isC hnd hC).weaken (fun _ _ _ _ => trivial)
  have hG : GoodIn TB (va_wsS own index y (WSH y bytes maxL (some rt) hh)) := fun w h => by
    unfold va_wsS WSH at h
    rcases List.mem_append.mp h with h | h
    · simp only [List.mem_cons, List.not_mem_nil, or_false] at h
      rcases h with rfl | rfl | rfl
      · exact tb_good _ hw.1
      · exact tb_good _ hw.2.1
      · exact tb_good _ hw.2.2.1
    · rcases List.mem_cons.mp h with rfl | h
      · exact tb_good _ hw.2.2.2.1
      · exact tb_good _ h
  refine va_calli (vx_runSW (As := As) (rest := rest) ⟨C.1, C.2.1, C.2.2.1, C.2.2.2.1, C.2.2.2.2.1⟩ (hM H.size) (vx_cwSW n C.2.2.2.2.1 hG rfl hR.2.1 hR.2.2 hw.2.2.2.2 hR.1) ⟨prx_blind D k _ wc H.size, fun U hU hW => ⟨rfl, pre_of C hPc hDt hS hF U hU hW, hE.go hW (fun q h1 h2 => by rw [hU]; exact hS.2.1 q h1 h2) hF⟩⟩ rfl hn hl.1 rfl (lv_room hrest) hd hcap) hS (fun q _ h => hF q h) hF (fun r9 u t H1 locs1 ht hvm hw1 hB hz1 hk1 hS1 => ?_)
  obtain ⟨hP1, hK1, hD1⟩ := hB
  rw [ht] at hP1
  obtain ⟨hP2, hD2⟩ := put_ok hP hD hC hs hsame hk1 hP1
  obtain ⟨rfl, hb⟩ := hw1
  exact kk hb H1 locs1 ls hP2 hD2 hS1 hl
theorem ww_sld (C : CX p s m args c cc nL own D k A) {b L : Nat} {xs : Nat → Int32} (hX : va_X b L xs s s.heap) (hbl : b < s.heap.size) (hbA : ¬ A b) {i v : Int32} (hv : ald L i xs = some v) (hd : decode cc pc = .ok (.iaload, 1)) (kk : WW p l e R s m args below meth c Q nL D A cells slots ws lv (pc + 1) (.int v :: st)) : WW p l e R s m args below meth c Q nL D A cells slots ws lv pc (.int i :: .ref b :: st) := by
  obtain ⟨h1, rfl⟩ := ald_some hv
  exact fun H locs ls hP hD hS hl => va_sld C.1 C.2.1 hX hbl hbA hS h1 hd (kk H locs ls hP hD hS hl)
theorem ww_slen (C : CX p s m args c cc nL own D k A) {b L : Nat} {xs : Nat → Int32} (hX : va_X b L xs s s.heap) (hbl : b < s.heap.size) (hbA : ¬ A b) (hd : decode cc pc = .ok (.arraylength, 1)) (kk : WW p l e R s m args below meth c Q nL D A cells slots ws lv (pc + 1) (.int (Int32.ofNat L) :: st)) : WW p l e R s m args below meth c Q nL D A cells slots ws lv pc (.ref b :: st) := fun H locs ls hP hD hS hl => va_slen C.1 C.2.1 hX hbl hbA hS hd (kk H locs ls hP hD hS hl)
end EXCS
