section WWC
def PRE (D : va_G) (k : Nat → ClassId) (ws : va_W) (sz : Nat) (U : State) : Prop := U.heap.size = sz ∧ va_P D vwCl ws U.heap ∧ va_K D vwCl (TY k) U ∧ va_D (fun _ => True) ws ∧ SX (va_A ws sz) U U.heap ∧ NX U
def PST (D : va_G) (k : Nat → ClassId) (ws wsF : va_W) (sz : Nat) (t : State) : Prop := va_P D vwCl wsF t.heap ∧ va_K D vwCl (TY k) t ∧ va_D (va_A ws sz) wsF
theorem pre_blind (D : va_G) (k : Nat → ClassId) (avs : List Value) (ws : va_W) (sz : Nat) : FrameBlind (va_Pc avs (PRE D k ws sz)) := fun a U g mk q => ⟨q.1, q.2.1, q.2.2.1, va_K.moved (u := U) (U := U.calling g mk a) (Vm.Alike.refl U.vm) q.2.2.2.1, q.2.2.2.2.1, SX.go (U := U.calling g mk a) q.2.2.2.2.2.1 (Vm.Alike.refl U.vm) (fun _ _ _ => rfl) (fun _ h => h), NX.same (U := U.calling g mk a) rfl q.2.2.2.2.2.2⟩
abbrev QI (D : va_G) (k : Nat → ClassId) (rt : FieldType) (ws : va_W) (r : Int32) (wsF : va_W) (sz : Nat) : Array Value → State → Outcome → State → Prop := va_Qi (fun v (_ : Unit) => v = r ∧ narrow rt (.int v) = .int v) (fun _ t => PST D k ws wsF sz t) (va_A ws sz)
abbrev QL (D : va_G) (k : Nat → ClassId) (ws : va_W) (r : Int64) (wsF : va_W) (sz : Nat) : Array Value → State → Outcome → State → Prop := va_Ql (fun v (_ : Unit) => v = r) (fun _ t => PST D k ws wsF sz t) (va_A ws sz)
abbrev QV (D : va_G) (k : Nat → ClassId) (ws : va_W) (wsF : va_W) (sz : Nat) : Array Value → State → Outcome → State → Prop := va_Qv (fun (_ : Unit) => True) (fun _ t => PST D k ws wsF sz t) (va_A ws sz)
def MI (l : Launch) (y : MethodName) (cc : ByteArray) (nL : Nat) (rt : FieldType) (rm : Room) (D : va_G) (k : Nat → ClassId) (avs : List Value) (ws : va_W) (r : Int32) (wsF : va_W) : Prop :=
  ∀ sz, Met l y (WSM y cc nL (some rt)) rm (va_Pc avs (PRE D k ws sz)) (QI D k rt ws r wsF sz) 0 0 (va_A ws sz)
def ML (l : Launch) (y : MethodName) (cc : ByteArray) (nL : Nat) (rm : Room) (D : va_G) (k : Nat → ClassId) (avs : List Value) (ws : va_W) (r : Int64) (wsF : va_W) : Prop :=
  ∀ sz, Met l y (WSM y cc nL (some .long)) rm (va_Pc avs (PRE D k ws sz)) (QL D k ws r wsF sz) 0 0 (va_A ws sz)
def MV (l : Launch) (y : MethodName) (cc : ByteArray) (nL : Nat) (rm : Room) (D : va_G) (k : Nat → ClassId) (avs : List Value) (ws wsF : va_W) : Prop :=
  ∀ sz, Met l y (WSM y cc nL none) rm (va_Pc avs (PRE D k ws sz)) (QV D k ws wsF sz) 0 0 (va_A ws sz)
abbrev RM (frames locals : Nat) : Room := { frames := frames, cells := 0, slots := 0, locals := locals }

theorem mkMI {l : Launch} {y : MethodName} {cc : ByteArray} {nL : Nat} {rt : FieldType} {r : Int32} {rm : Room} {D : va_G} {k : Nat → ClassId} {avs : List Value} {ws wsF : va_W} {own : String} (hy : plainName y.cls = true) (ho : y.cls = own) (hlen : (lg_sl avs).length ≤ nL)
    (H : ∀ (p : Program) (e : Env) (s : State) (m : MethodId) (args : Array Value) (below : List Frame) (meth : Method) (c : Code), meth.sig.returnType = some rt → meth.locks = false → CX p s m args c cc nL own D k (va_A ws s.heap.size) →
      WW p l e rm s m args below meth c (MQ below (QI D k rt ws r wsF s.heap.size) args s 0 0 (va_A ws s.heap.size)) nL D (va_A ws s.heap.size) 0 0 ws (lv_args 0 avs) 0 []) : MI l y cc nL rt rm D k avs ws r wsF := by
  intro sz
  refine Met.ofW (cc := cc) (maxL := nL) (ret := some rt) hy rfl ?_
  intro p e s m args below meth c s₁ B hml hv
  obtain ⟨rfl, rfl, hP, hK, hD0, hX⟩ := hv
  have hts := atoms_spec (ws := WSM y cc nL (some rt)) B.pre
  have hown : s.vm.findClass own = some m.cls := ho ▸ findClass_of_methodNamed B.named
  have hl := lv_entry avs (n := nL) hlen
  rw [lg_entry_eq]
  exact H p e s m _ below meth c B.returns B.notSynchronized ⟨B.exec, B.bytes, hml, hown, fun w hw => hts w (List.mem_cons_of_mem _ hw), hK, fun q h => Or.inr h, hX⟩ s.heap [] _ hP hD0.self va_S.rf hl
theorem mkML {l : Launch} {y : MethodName} {cc : ByteArray} {nL : Nat} {r : Int64} {rm : Room} {D : va_G} {k : Nat → ClassId} {avs : List Value} {ws wsF : va_W} {own : String} (hy : plainName y.cls = true) (ho : y.cls = own) (hlen : (lg_sl avs).length ≤ nL)
    (H : ∀ (p : Program) (e : Env) (s : State) (m : MethodId) (args : Array Value) (below : List Frame) (meth : Method) (c : Code), meth.sig.returnType = some .long → meth.locks = false → CX p s m args c cc nL own D k (va_A ws s.heap.size) →
      WW p l e rm s m args below meth c (MQ below (QL D k ws r wsF s.heap.size) args s 0 0 (va_A ws s.heap.size)) nL D (va_A ws s.heap.size) 0 0 ws (lv_args 0 avs) 0 []) : ML l y cc nL rm D k avs ws r wsF := by
  intro sz
  refine Met.ofW (cc := cc) (maxL := nL) (ret := some .long) hy rfl ?_
  intro p e s m args below meth c s₁ B hml hv
  obtain ⟨rfl, rfl, hP, hK, hD0, hX⟩ := hv
  have hts := atoms_spec (ws := WSM y cc nL (some .long)) B.pre
  have hown : s.vm.findClass own = some m.cls := ho ▸ findClass_of_methodNamed B.named
  have hl := lv_entry avs (n := nL) hlen
  rw [lg_entry_eq]
  exact H p e s m _ below meth c B.returns B.notSynchronized ⟨B.exec, B.bytes, hml, hown, fun w hw => hts w (List.mem_cons_of_mem _ hw), hK, fun q h => Or.inr h, hX⟩ s.heap [] _ hP hD0.self va_S.rf hl
theorem mkMV {l : Launch} {y : MethodName} {cc : ByteArray} {nL : Nat}  {rm : Room} {D : va_G} {k : Nat → ClassId} {avs : List Value} {ws wsF : va_W} {own : String} (hy : plainName y.cls = true) (ho : y.cls = own) (hlen : (lg_sl avs).length ≤ nL)
    (H : ∀ (p : Program) (e : Env) (s : State) (m : MethodId) (args : Array Value) (below : List Frame) (meth : Method) (c : Code), meth.sig.returnType = none → meth.locks = false → CX p s m args c cc nL own D k (va_A ws s.heap.size) →
      WW p l e rm s m args below meth c (MQ below (QV D k ws wsF s.heap.size) args s 0 0 (va_A ws s.heap.size)) nL D (va_A ws s.heap.size) 0 0 ws (lv_args 0 avs) 0 []) : MV l y cc nL rm D k avs ws wsF := by
  intro sz
  refine Met.ofW (cc := cc) (maxL := nL) (ret := none) hy rfl ?_
  intro p e s m args below meth c s₁ B hml hv
  obtain ⟨rfl, rfl, hP, hK, hD0, hX⟩ := hv
  have hts := atoms_spec (ws := WSM y cc nL (none)) B.pre
  have hown : s.vm.findClass own = some m.cls := ho ▸ findClass_of_methodNamed B.named
  have hl := lv_entry avs (n := nL) hlen
  rw [lg_entry_eq]
  exact H p e s m _ below meth c B.returns B.notSynchronized ⟨B.exec, B.bytes, hml, hown, fun w hw => hts w (List.mem_cons_of_mem _ hw), hK, fun q h => Or.inr h, hX⟩ s.heap [] _ hP hD0.self va_S.rf hl
variable {p : Program} {l : Launch} {e : Env} {R : Room} {s : State} {m : MethodId} {args : Array Value} {below : List Frame} {meth : Method} {c : Code} {Q : State → Prop} {cells slots : Nat} {cc : ByteArray} {nL : Nat} {own : String} {D : va_G} {k : Nat → ClassId} {A : Nat → Prop} {ws ws' : va_W} {lv lv' : List (Nat × Value)} {pc tgt : Nat} {st : List Value}
theorem ww_iret {w0 wsF : va_W} {v r : Int32} {rt : FieldType} (C : CX p s m args c cc nL own D k (va_A w0 s.heap.size)) (hr : meth.sig.returnType = some rt) (hk : meth.locks = false) (hn : narrow rt (.int v) = .int v) (h1 : v = r) (h2 : ws = wsF) (hd : decode cc pc = .ok (.ireturn, 1)) : WW p l e R s m args below meth c (MQ below (QI D k rt w0 r wsF s.heap.size) args s cells slots (va_A w0 s.heap.size)) nL D (va_A w0 s.heap.size) cells slots ws lv pc ([.int v]) := by
  subst h2
  exact fun H locs ls hP hD hS hl => W.zret C.1 C.2.1 hr hn (fun t ht hW => ⟨⟨v, (), rfl, ⟨h1, hn⟩, by rw [ht]; exact hP, va_K.moved hW.alike C.2.2.2.2.2.1, hD⟩, hS.F ht⟩) hS.2.2 hd hk
theorem ww_lret {w0 wsF : va_W} {v r : Int64} (C : CX p s m args c cc nL own D k (va_A w0 s.heap.size)) (hr : meth.sig.returnType = some .long) (hk : meth.locks = false) (h1 : v = r) (h2 : ws = wsF) (hd : decode cc pc = .ok (.lreturn, 1)) : WW p l e R s m args below meth c (MQ below (QL D k w0 r wsF s.heap.size) args s cells slots (va_A w0 s.heap.size)) nL D (va_A w0 s.heap.size) cells slots ws lv pc ([.long v]) := by
  subst h2
  exact fun H locs ls hP hD hS hl => W.lret C.1 C.2.1 hr (fun t ht hW => ⟨⟨v, (), rfl, h1, by rw [ht]; exact hP, va_K.moved hW.alike C.2.2.2.2.2.1, hD⟩, hS.F ht⟩) hS.2.2 hd hk
theorem ww_vret {w0 wsF : va_W} (C : CX p s m args c cc nL own D k (va_A w0 s.heap.size)) (hr : meth.sig.returnType = none) (hk : meth.locks = false) (h2 : ws = wsF) (hd : decode cc pc = .ok (.return_, 1)) : WW p l e R s m args below meth c (MQ below (QV D k w0 wsF s.heap.size) args s cells slots (va_A w0 s.heap.size)) nL D (va_A w0 s.heap.size) cells slots ws lv pc [] := by
  subst h2
  exact fun H locs ls hP hD hS hl => W.vret C.1 C.2.1 hr (fun t ht hW => ⟨⟨(), rfl, trivial, by rw [ht]; exact hP, va_K.moved hW.alike C.2.2.2.2.2.1, hD⟩, hS.F ht⟩) hS.2.2 hd hk
/-- cells of a world put in their places -/
def putW : va_W → List Nat → va_W → va_W
  | ws, i :: is, c :: cs => putW (ws.set i c) is cs
  | ws, [], _ => ws
  | ws, _ :: _, [] => ws
theorem putW_get : ∀ (is : List Nat) (cs ws : va_W) (j : Nat) (q : Nat × va_E), (putW ws is cs)[j]? = some q → (∃ n : Nat, is[n]? = some j ∧ cs[n]? = some q) ∨ (ws[j]? = some q ∧ ∀ n : Nat, n < cs.length → is[n]? ≠ some j) := by
  intro is
  induction is with
  | nil => intro cs ws j q h; exact Or.inr ⟨by simpa [putW] using h, fun n _ => by simp⟩
  | cons i is ih =>
    intro cs ws j q h
    cases cs with
    | nil => exact Or.inr ⟨by simpa [putW] using h, fun n hn => absurd hn (Nat.not_lt_zero n)⟩
    | cons c cs =>
      rcases ih cs (ws.set i c) j q h with ⟨n, h1, h2⟩ | ⟨h1, h2⟩
      · exact Or.inl ⟨n + 1, by simpa using h1, by simpa using h2⟩
      · by_cases hij : i = j
        · subst hij
          have hlt : i < ws.length := by
            have := (List.getElem?_eq_some_iff.mp h1).1
            simpa using this
          rw [List.getElem?_set_self hlt] at h1
          exact Or.inl ⟨0, rfl, by simpa using h1⟩
        · rw [List.getElem?_set_ne hij] at h1
          refine Or.inr ⟨h1, fun n hn => ?_⟩
          cases n with
          | zero => intro e9; exact hij (Option.some.inj e9)
          | succ n => simpa using h2 n (by simpa using hn)
theorem at_map {is : List Nat} {ws w : va_W} (hs : is.map (fun i => ws[i]?) = w.map some) (j : Nat) (q : Nat × va_E) (hq : w[j]? = some q) : ∃ i, is[j]? = some i ∧ ws[i]? = some q := by
  have h1 : (is.map (fun i => ws[i]?))[j]? = some (some q) := by rw [hs, List.getElem?_map, hq]; rfl
  rw [List.getElem?_map] at h1
  cases hi : is[j]? with
  | none => rw [hi] at h1; cases h1
  | some i => rw [hi] at h1; exact ⟨i, rfl, Option.some.inj h1⟩
theorem at_map' {is : List Nat} {ws w : va_W} (hs : is.map (fun i => ws[i]?) = w.map some) (j i : Nat) (hi : is[j]? = some i) : ∃ q, w[j]? = some q ∧ ws[i]? = some q := by
  have h1 : (w.map some)[j]? = some (ws[i]?) := by rw [← hs, List.getElem?_map, hi]; rfl
  rw [List.getElem?_map] at h1
  cases hw : w[j]? with
  | none => rw [hw] at h1; cases h1
  | some q => rw [hw] at h1; exact ⟨q, rfl, (Option.some.inj h1).symm⟩
theorem put_ok {A0 : Nat → Prop} {D : va_G} {ws wc wc' ws' : va_W} {H H1 : Heap} {isC : List Nat} (hP : va_P D vwCl ws H) (hD : va_D A0 ws) (hC : isC.map (fun i => ws[i]?) = wc.map some) (hs : putW ws isC wc' = ws') (hsame : wc'.map Prod.fst = wc.map Prod.fst)
    (hk : ∀ q : Nat, q < H.size → ¬ va_A wc H.size q → H1[q]? = H[q]?) (hP1 : va_P D vwCl wc' H1) : va_P D vwCl ws' H1 ∧ va_D A0 ws' := by
  subst hs
  have hlen : wc'.length = wc.length := by simpa using congrArg List.length hsame
  have hlen2 : isC.length = wc.length := by simpa using congrArg List.length hC
  have hfst : ∀ (n : Nat) (q : Nat × va_E), wc'[n]? = some q → ∃ q', wc[n]? = some q' ∧ q'.1 = q.1 := by
    intro n q hq
    have h1 : (wc.map Prod.fst)[n]? = some q.1 := by rw [← hsame, List.getElem?_map, hq]; rfl
    rw [List.getElem?_map] at h1
    cases hw : wc[n]? with
    | none => rw [hw] at h1; cases h1
    | some q' => rw [hw] at h1; exact ⟨q', rfl, Option.some.inj h1⟩
  have key : ∀ (j : Nat) (q : Nat × va_E), (putW ws isC wc')[j]? = some q → ∃ q', ws[j]? = some q' ∧ q'.1 = q.1 := by
    intro j q hq
    rcases putW_get isC wc' ws j q hq with ⟨n, h1, h2⟩ | ⟨h1, -⟩
    · obtain ⟨q', h3, h4⟩ := hfst n q h2
      obtain ⟨q2, h5, h6⟩ := at_map' hC n j h1
      rw [h3] at h5; cases h5
      exact ⟨q', h6, h4⟩
    · exact ⟨q, h1, rfl⟩
  refine ⟨fun j q hq => ?_, fun i j x y hx hy hxy => ?_, fun j q hq => ?_⟩
  · rcases putW_get isC wc' ws j q hq with ⟨n, h1, h2⟩ | ⟨h1, h2⟩
    · exact hP1 n q h2
    · have hl := (hP j q h1).lt
      refine (hP j q h1).kept (hk q.1 hl (fun h => ?_))
      rcases h with ⟨n, e9, h⟩ | h
      · obtain ⟨i, h3, h4⟩ := at_map hC n (q.1, e9) h
        have hij := hD.1 j i q (q.1, e9) h1 h4 rfl
        subst hij
        refine h2 n ?_ h3
        rw [hlen]
        exact (List.getElem?_eq_some_iff.mp h).1
      · omega
  · obtain ⟨x', h1, h2⟩ := key i x hx
    obtain ⟨y', h3, h4⟩ := key j y hy
    exact hD.1 i j x' y' h1 h3 (by rw [h2, h4, hxy])
  · obtain ⟨x', h1, h2⟩ := key j q hq
    rw [← h2]
    exact hD.2 j x' h1
theorem pre_of {wc : va_W} {H : Heap} {locs : List Loc} (C : CX p s m args c cc nL own D k A) (hPc : va_P D vwCl wc H) (hDt : va_D (fun _ => True) wc) (hS : va_S A s.heap H locs) (hF : ∀ q, va_A wc H.size q → A q) (U : State) (hU : U.heap = H) (hW : s.WarmedH U.vm) : PRE D k wc H.size U := by
  refine ⟨by rw [hU], by rw [hU]; exact hPc, va_K.moved hW.alike C.2.2.2.2.2.1, hDt, SX.go C.2.2.2.2.2.2.2.1 hW.alike (fun q h1 h2 => by rw [hU]; exact hS.2.1 q h1 h2) hF, NX.warm hW C.2.2.2.2.2.2.2.2⟩
theorem nx_use {o9 : String} {index : Nat} {y : MethodName} (C : CX p s m args c cc nL own D k A) (h : (o9, index, y) ∈ nbM) : (Cond.methodLinkNest o9 index y "DoorWalk").before args s = true := by
  have h1 := C.2.2.2.2.2.2.2.2.2.1 (o9, index, y) h
  exact va_Nw.use (w := .methodLinkNest o9 index y "DoorWalk") rfl h1
/-- the words of a call -/
def CWV (own : String) (index : Nat) (y : MethodName) (bytes : ByteArray) (maxL : Nat) (rt : Option FieldType) (n : Nat) : Prop :=
  Cond.methodLink own index y ∈ TB ∧ Cond.instanceMethod y ∈ TB ∧ Cond.selects y.cls y y ∈ TB ∧ Cond.initialized y.cls ∈ TB ∧ Cond.code y bytes maxL rt ∈ TB ∧ y.cls ≠ "java/lang/invoke/MethodHandle" ∧ y.cls ≠ "java/lang/invoke/VarHandle" ∧ (parseMethodDescriptor y.desc).map (fun d => d.parameters.length) = some n
def CWS (own : String) (index : Nat) (y : MethodName) (bytes : ByteArray) (maxL : Nat) (rt : Option FieldType) (n : Nat) : Prop :=
  Cond.methodLink own index y ∈ TB ∧ Cond.static y ∈ TB ∧ Cond.initialized y.cls ∈ TB ∧ Cond.code y bytes maxL rt ∈ TB ∧ y.cls ≠ "java/lang/invoke/MethodHandle" ∧ y.cls ≠ "java/lang/invoke/VarHandle" ∧ (parseMethodDescriptor y.desc).map (fun d => d.parameters.length) = some n
def CWN (own : String) (index : Nat) (y : MethodName) (bytes : ByteArray) (maxL : Nat) (rt : Option FieldType) (n : Nat) : Prop :=
  (own, index, y) ∈ nbM ∧ Cond.static y ∈ TB ∧ Cond.initialized y.cls ∈ TB ∧ Cond.code y bytes maxL rt ∈ TB ∧ y.cls ≠ "java/lang/invoke/MethodHandle" ∧ y.cls ≠ "java/lang/invoke/VarHandle" ∧ (parseMethodDescriptor y.desc).map (fun d => d.parameters.length) = some n
abbrev RoomOk (R rm : Room) (maxL : Nat) : Prop := (rm.frames + 1 ≤ R.frames ∧ 8 + (maxL + 11) + rm.locals ≤ R.locals) ∧ rm.cells = 0 ∧ rm.slots = 0

theorem putW_id : ∀ {ws wc : va_W} (is : List Nat), is.map (fun i => ws[i]?) = wc.map some → putW ws is wc = ws
  | ws, wc, [], _ => by cases wc <;> rfl
  | ws, [], i :: is, h => rfl
  | ws, c :: cs, i :: is, h => by
    have h1 : ws[i]? = some c := (List.cons.inj h).1
    have h2 : is.map (fun i => ws[i]?) = cs.map some := (List.cons.inj h).2
    have h3 : ws.set i c = ws := by
      apply List.ext_getElem?
      intro j
      by_cases hij : i = j
      · subst hij
        have hlt := (List.getElem?_eq_some_iff.mp h1).1
        rw [List.getElem?_set_self hlt, h1]
      · rw [List.getElem?_set_ne hij]
    show putW (ws.set i c) is cs = ws
    rw [h3]
    exact putW_id is h2
theorem ww_callVi (C : CX p s m args c cc nL own D k A) {y : MethodName} {bytes : ByteArray} {maxL n index b : Nat} {rt : FieldType} {r : Int32} {rm : Room} {wc wc' : va_W} {As rest : List Value} (hM : MI l y bytes maxL rt rm D k (.ref b :: As) wc r wc') (hw : CWV own index y bytes maxL (some rt) n) (hR : RoomOk R rm maxL) {ci : Nat} {fs : List Value} {T : u_T} {N : Nat} (q0 : Nat) (hq : ws[q0]? = some (b, .inr (ci, fs))) (hci : vwCl[ci]? = some (y.cls, T, N)) (isC : List Nat) (hnd : va_nd isC = true) (hC : isC.map (fun i => ws[i]?) = wc.map some) (hs : putW ws isC wc' = ws') (hsame : wc'.map Prod.fst = wc.map Prod.fst) (hst : st = As.reverse ++ .ref b :: rest) (hn : As.length = n) (hrest : (rest.map fun v => v.category).sum ≤ 8) (hcap : cells ≤ R.cells ∧ slots ≤ R.slots) (hd : decode cc pc = .ok (.invokevirtual index, 3)) (kk : narrow rt (.int r) = .int r → WW p l e R s m args below meth c Q nL D A cells slots ws' lv (pc + 3) (.int r :: rest)) : WW p l e R s m args below meth c Q nL D A cells slots ws lv pc st := by
  subst hst
  intro H locs ls hP hD hS hl
  have hF := va_free (wc := wc) hD hS C.2.2.2.2.2.2.1 isC hC
  have hPc : va_P D vwCl wc H := fun j q hq => by
    obtain ⟨i, -, h2⟩ := at_map hC j q hq
    exact hP i q h2
  have hDt : va_D (fun _ => True) wc := (hD.sub isC hnd hC).weaken (fun _ _ _ _ => trivial)
  refine va_calli (va_runV (As := As) (rest := rest) ⟨C.1, C.2.1, C.2.2.1, C.2.2.2.1, C.2.2.2.2.1⟩ (hM H.size) (⟨callB_of n C.2.2.2.2.1 (wsm_good hw.2.2.2.2.1) rfl hR.2.1 hR.2.2 (C.2.2.2.2.1 _ hw.2.2.2.1) (C.2.2.2.2.1 _ hw.1) hw.2.2.2.2.2 hR.1, C.2.2.2.2.1 _ hw.2.1, C.2.2.2.2.1 _ hw.2.2.1⟩) ⟨pre_blind D k _ wc H.size, va_recv C.2.2.2.2.2.1 hP hci hq, fun U hU hW => ⟨rfl, pre_of C hPc hDt hS hF U hU hW⟩⟩ rfl hn hl.1 rfl (lv_room hrest) hd hcap) hS (fun q _ h => hF q h) hF (fun r9 u t H1 locs1 ht hvm hw1 hB hz1 hk1 hS1 => ?_)
  obtain ⟨hP1, hK1, hD1⟩ := hB
  rw [ht] at hP1
  obtain ⟨hP2, hD2⟩ := put_ok hP hD hC hs hsame hk1 hP1
  obtain ⟨rfl, hb⟩ := hw1
  exact kk hb H1 locs1 ls hP2 hD2 hS1 hl
theorem ww_callVl (C : CX p s m args c cc nL own D k A) {y : MethodName} {bytes : ByteArray} {maxL n index b : Nat} {r : Int64} {rm : Room} {wc wc' : va_W} {As rest : List Value} (hM : ML l y bytes maxL rm D k (.ref b :: As) wc r wc') (hw : CWV own index y bytes maxL (some .long) n) (hR : RoomOk R rm maxL) {ci : Nat} {fs : List Value} {T : u_T} {N : Nat} (q0 : Nat) (hq : ws[q0]? = some (b, .inr (ci, fs))) (hci : vwCl[ci]? = some (y.cls, T, N)) (isC : List Nat) (hnd : va_nd isC = true) (hC : isC.map (fun i => ws[i]?) = wc.map some) (hs : putW ws isC wc' = ws') (hsame : wc'.map Prod.fst = wc.map Prod.fst) (hst : st = As.reverse ++ .ref b :: rest) (hn : As.length = n) (hrest : (rest.map fun v => v.category).sum ≤ 8) (hcap : cells ≤ R.cells ∧ slots ≤ R.slots) (hd : decode cc pc = .ok (.invokevirtual index, 3)) (kk : WW p l e R s m args below meth c Q nL D A cells slots ws' lv (pc + 3) (.long r :: rest)) : WW p l e R s m args below meth c Q nL D A cells slots ws lv pc st := by
  subst hst
  intro H locs ls hP hD hS hl
  have hF := va_free (wc := wc) hD hS C.2.2.2.2.2.2.1 isC hC
  have hPc : va_P D vwCl wc H := fun j q hq => by
    obtain ⟨i, -, h2⟩ := at_map hC j q hq
    exact hP i q h2
  have hDt : va_D (fun _ => True) wc := (hD.sub isC hnd hC).weaken (fun _ _ _ _ => trivial)
  refine va_calll (va_runV (As := As) (rest := rest) ⟨C.1, C.2.1, C.2.2.1, C.2.2.2.1, C.2.2.2.2.1⟩ (hM H.size) (⟨callB_of n C.2.2.2.2.1 (wsm_good hw.2.2.2.2.1) rfl hR.2.1 hR.2.2 (C.2.2.2.2.1 _ hw.2.2.2.1) (C.2.2.2.2.1 _ hw.1) hw.2.2.2.2.2 hR.1, C.2.2.2.2.1 _ hw.2.1, C.2.2.2.2.1 _ hw.2.2.1⟩) ⟨pre_blind D k _ wc H.size, va_recv C.2.2.2.2.2.1 hP hci hq, fun U hU hW => ⟨rfl, pre_of C hPc hDt hS hF U hU hW⟩⟩ rfl hn hl.1 rfl (lv_room hrest) hd hcap) hS (fun q _ h => hF q h) hF (fun r9 u t H1 locs1 ht hvm hw1 hB hz1 hk1 hS1 => ?_)
  obtain ⟨hP1, hK1, hD1⟩ := hB
  rw [ht] at hP1
  obtain ⟨hP2, hD2⟩ := put_ok hP hD hC hs hsame hk1 hP1
  subst hw1
  exact kk H1 locs1 ls hP2 hD2 hS1 hl
theorem ww_callVv (C : CX p s m args c cc nL own D k A) {y : MethodName} {bytes : ByteArray} {maxL n index b : Nat}  {rm : Room} {wc wc' : va_W} {As rest : List Value} (hM : MV l y bytes maxL rm D k (.ref b :: As) wc wc') (hw : CWV own index y bytes maxL none n) (hR : RoomOk R rm maxL) {ci : Nat} {fs : List Value} {T : u_T} {N : Nat} (q0 : Nat) (hq : ws[q0]? = some (b, .inr (ci, fs))) (hci : vwCl[ci]? = some (y.cls, T, N)) (isC : List Nat) (hnd : va_nd isC = true) (hC : isC.map (fun i => ws[i]?) = wc.map some) (hs : putW ws isC wc' = ws') (hsame : wc'.map Prod.fst = wc.map Prod.fst) (hst : st = As.reverse ++ .ref b :: rest) (hn : As.length = n) (hrest : (rest.map fun v => v.category).sum ≤ 8) (hcap : cells ≤ R.cells ∧ slots ≤ R.slots) (hd : decode cc pc = .ok (.invokevirtual index, 3)) (kk : WW p l e R s m args below meth c Q nL D A cells slots ws' lv (pc + 3) rest) : WW p l e R s m args below meth c Q nL D A cells slots ws lv pc st := by
  subst hst
  intro H locs ls hP hD hS hl
  have hF := va_free (wc := wc) hD hS C.2.2.2.2.2.2.1 isC hC
  have hPc : va_P D vwCl wc H := fun j q hq => by
    obtain ⟨i, -, h2⟩ := at_map hC j q hq
    exact hP i q h2
  have hDt : va_D (fun _ => True) wc := (hD.sub isC hnd hC).weaken (fun _ _ _ _ => trivial)
  refine va_callv (va_runV (As := As) (rest := rest) ⟨C.1, C.2.1, C.2.2.1, C.2.2.2.1, C.2.2.2.2.1⟩ (hM H.size) (⟨callB_of n C.2.2.2.2.1 (wsm_good hw.2.2.2.2.1) rfl hR.2.1 hR.2.2 (C.2.2.2.2.1 _ hw.2.2.2.1) (C.2.2.2.2.1 _ hw.1) hw.2.2.2.2.2 hR.1, C.2.2.2.2.1 _ hw.2.1, C.2.2.2.2.1 _ hw.2.2.1⟩) ⟨pre_blind D k _ wc H.size, va_recv C.2.2.2.2.2.1 hP hci hq, fun U hU hW => ⟨rfl, pre_of C hPc hDt hS hF U hU hW⟩⟩ rfl hn hl.1 rfl (lv_room hrest) hd hcap) hS (fun q _ h => hF q h) hF (fun u t H1 locs1 ht hvm hw1 hB hz1 hk1 hS1 => ?_)
  obtain ⟨hP1, hK1, hD1⟩ := hB
  rw [ht] at hP1
  obtain ⟨hP2, hD2⟩ := put_ok hP hD hC hs hsame hk1 hP1
  exact kk H1 locs1 ls hP2 hD2 hS1 hl
theorem ww_callVi0 (C : CX p s m args c cc nL own D k A) {y : MethodName} {bytes : ByteArray} {maxL n index b : Nat} {rt : FieldType} {r : Int32} {rm : Room} {wc : va_W} {As rest : List Value} (hM : MI l y bytes maxL rt rm D k (.ref b :: As) wc r wc) (hw : CWV own index y bytes maxL (some rt) n) (hR : RoomOk R rm maxL) {ci : Nat} {fs : List Value} {T : u_T} {N : Nat} (q0 : Nat) (hq : ws[q0]? = some (b, .inr (ci, fs))) (hci : vwCl[ci]? = some (y.cls, T, N)) (isC : List Nat) (hnd : va_nd isC = true) (hC : isC.map (fun i => ws[i]?) = wc.map some) (hst : st = As.reverse ++ .ref b :: rest) (hn : As.length = n) (hrest : (rest.map fun v => v.category).sum ≤ 8) (hcap : cells ≤ R.cells ∧ slots ≤ R.slots) (hd : decode cc pc = .ok (.invokevirtual index, 3)) (kk : narrow rt (.int r) = .int r → WW p l e R s m args below meth c Q nL D A cells slots ws lv (pc + 3) (.int r :: rest)) : WW p l e R s m args below meth c Q nL D A cells slots ws lv pc st := by
  subst hst
  intro H locs ls hP hD hS hl
  have hF := va_free (wc := wc) hD hS C.2.2.2.2.2.2.1 isC hC
  have hPc : va_P D vwCl wc H := fun j q hq => by
    obtain ⟨i, -, h2⟩ := at_map hC j q hq
    exact hP i q h2
  have hDt : va_D (fun _ => True) wc := (hD.sub isC hnd hC).weaken (fun _ _ _ _ => trivial)
  refine va_calli (va_runV (As := As) (rest := rest) ⟨C.1, C.2.1, C.2.2.1, C.2.2.2.1, C.2.2.2.2.1⟩ (hM H.size) (⟨callB_of n C.2.2.2.2.1 (wsm_good hw.2.2.2.2.1) rfl hR.2.1 hR.2.2 (C.2.2.2.2.1 _ hw.2.2.2.1) (C.2.2.2.2.1 _ hw.1) hw.2.2.2.2.2 hR.1, C.2.2.2.2.1 _ hw.2.1, C.2.2.2.2.1 _ hw.2.2.1⟩) ⟨pre_blind D k _ wc H.size, va_recv C.2.2.2.2.2.1 hP hci hq, fun U hU hW => ⟨rfl, pre_of C hPc hDt hS hF U hU hW⟩⟩ rfl hn hl.1 rfl (lv_room hrest) hd hcap) hS (fun q _ h => hF q h) hF (fun r9 u t H1 locs1 ht hvm hw1 hB hz1 hk1 hS1 => ?_)
  obtain ⟨hP1, hK1, hD1⟩ := hB
  rw [ht] at hP1
  obtain ⟨hP2, hD2⟩ := put_ok hP hD hC (putW_id isC hC) rfl hk1 hP1
  obtain ⟨rfl, hb⟩ := hw1
  exact kk hb H1 locs1 ls hP2 hD2 hS1 hl
theorem ww_callVl0 (C : CX p s m args c cc nL own D k A) {y : MethodName} {bytes : ByteArray} {maxL n index b : Nat} {r : Int64} {rm : Room} {wc : va_W} {As rest : List Value} (hM : ML l y bytes maxL rm D k (.ref b :: As) wc r wc) (hw : CWV own index y bytes maxL (some .long) n) (hR : RoomOk R rm maxL) {ci : Nat} {fs : List Value} {T : u_T} {N : Nat} (q0 : Nat) (hq : ws[q0]? = some (b, .inr (ci, fs))) (hci : vwCl[ci]? = some (y.cls, T, N)) (isC : List Nat) (hnd : va_nd isC = true) (hC : isC.map (fun i => ws[i]?) = wc.map some) (hst : st = As.reverse ++ .ref b :: rest) (hn : As.length = n) (hrest : (rest.map fun v => v.category).sum ≤ 8) (hcap : cells ≤ R.cells ∧ slots ≤ R.slots) (hd : decode cc pc = .ok (.invokevirtual index, 3)) (kk : WW p l e R s m args below meth c Q nL D A cells slots ws lv (pc + 3) (.long r :: rest)) : WW p l e R s m args below meth c Q nL D A cells slots ws lv pc st := by
  subst hst
  intro H locs ls hP hD hS hl
  have hF := va_free (wc := wc) hD hS C.2.2.2.2.2.2.1 isC hC
  have hPc : va_P D vwCl wc H := fun j q hq => by
    obtain ⟨i, -, h2⟩ := at_map hC j q hq
    exact hP i q h2
  have hDt : va_D (fun _ => True) wc := (hD.sub isC hnd hC).weaken (fun _ _ _ _ => trivial)
  refine va_calll (va_runV (As := As) (rest := rest) ⟨C.1, C.2.1, C.2.2.1, C.2.2.2.1, C.2.2.2.2.1⟩ (hM H.size) (⟨callB_of n C.2.2.2.2.1 (wsm_good hw.2.2.2.2.1) rfl hR.2.1 hR.2.2 (C.2.2.2.2.1 _ hw.2.2.2.1) (C.2.2.2.2.1 _ hw.1) hw.2.2.2.2.2 hR.1, C.2.2.2.2.1 _ hw.2.1, C.2.2.2.2.1 _ hw.2.2.1⟩) ⟨pre_blind D k _ wc H.size, va_recv C.2.2.2.2.2.1 hP hci hq, fun U hU hW => ⟨rfl, pre_of C hPc hDt hS hF U hU hW⟩⟩ rfl hn hl.1 rfl (lv_room hrest) hd hcap) hS (fun q _ h => hF q h) hF (fun r9 u t H1 locs1 ht hvm hw1 hB hz1 hk1 hS1 => ?_)
  obtain ⟨hP1, hK1, hD1⟩ := hB
  rw [ht] at hP1
  obtain ⟨hP2, hD2⟩ := put_ok hP hD hC (putW_id isC hC) rfl hk1 hP1
  subst hw1
  exact kk H1 locs1 ls hP2 hD2 hS1 hl
theorem ww_callVv0 (C : CX p s m args c cc nL own D k A) {y : MethodName} {bytes : ByteArray} {maxL n index b : Nat}  {rm : Room} {wc : va_W} {As rest : List Value} (hM : MV l y bytes maxL rm D k (.ref b :: As) wc wc) (hw : CWV own index y bytes maxL none n) (hR : RoomOk R rm maxL) {ci : Nat} {fs : List Value} {T : u_T} {N : Nat} (q0 : Nat) (hq : ws[q0]? = some (b, .inr (ci, fs))) (hci : vwCl[ci]? = some (y.cls, T, N)) (isC : List Nat) (hnd : va_nd isC = true) (hC : isC.map (fun i => ws[i]?) = wc.map some) (hst : st = As.reverse ++ .ref b :: rest) (hn : As.length = n) (hrest : (rest.map fun v => v.category).sum ≤ 8) (hcap : cells ≤ R.cells ∧ slots ≤ R.slots) (hd : decode cc pc = .ok (.invokevirtual index, 3)) (kk : WW p l e R s m args below meth c Q nL D A cells slots ws lv (pc + 3) rest) : WW p l e R s m args below meth c Q nL D A cells slots ws lv pc st := by
  subst hst
  intro H locs ls hP hD hS hl
  have hF := va_free (wc := wc) hD hS C.2.2.2.2.2.2.1 isC hC
  have hPc : va_P D vwCl wc H := fun j q hq => by
    obtain ⟨i, -, h2⟩ := at_map hC j q hq
    exact hP i q h2
  have hDt : va_D (fun _ => True) wc := (hD.sub isC hnd hC).weaken (fun _ _ _ _ => trivial)
  refine va_callv (va_runV (As := As) (rest := rest) ⟨C.1, C.2.1, C.2.2.1, C.2.2.2.1, C.2.2.2.2.1⟩ (hM H.size) (⟨callB_of n C.2.2.2.2.1 (wsm_good hw.2.2.2.2.1) rfl hR.2.1 hR.2.2 (C.2.2.2.2.1 _ hw.2.2.2.1) (C.2.2.2.2.1 _ hw.1) hw.2.2.2.2.2 hR.1, C.2.2.2.2.1 _ hw.2.1, C.2.2.2.2.1 _ hw.2.2.1⟩) ⟨pre_blind D k _ wc H.size, va_recv C.2.2.2.2.2.1 hP hci hq, fun U hU hW => ⟨rfl, pre_of C hPc hDt hS hF U hU hW⟩⟩ rfl hn hl.1 rfl (lv_room hrest) hd hcap) hS (fun q _ h => hF q h) hF (fun u t H1 locs1 ht hvm hw1 hB hz1 hk1 hS1 => ?_)
  obtain ⟨hP1, hK1, hD1⟩ := hB
  rw [ht] at hP1
  obtain ⟨hP2, hD2⟩ := put_ok hP hD hC (putW_id isC hC) rfl hk1 hP1
  exact kk H1 locs1 ls hP2 hD2 hS1 hl
theorem ww_callSi (C : CX p s m args c cc nL own D k A) {y : MethodName} {bytes : ByteArray} {maxL n index : Nat} {rt : FieldType} {r : Int32} {rm : Room} {wc wc' : va_W} {As rest : List Value} (hM : MI l y bytes maxL rt rm D k As wc r wc') (hw : CWS own index y bytes maxL (some rt) n) (hR : RoomOk R rm maxL) (isC : List Nat) (hnd : va_nd isC = true) (hC : isC.map (fun i => ws[i]?) = wc.map some) (hs : putW ws isC wc' = ws') (hsame : wc'.map Prod.fst = wc.map Prod.fst) (hst : st = As.reverse ++ rest) (hn : As.length = n) (hrest : (rest.map fun v => v.category).sum ≤ 8) (hcap : cells ≤ R.cells ∧ slots ≤ R.slots) (hd : decode cc pc = .ok (.invokestatic index, 3)) (kk : narrow rt (.int r) = .int r → WW p l e R s m args below meth c Q nL D A cells slots ws' lv (pc + 3) (.int r :: rest)) : WW p l e R s m args below meth c Q nL D A cells slots ws lv pc st := by
  subst hst
  intro H locs ls hP hD hS hl
  have hF := va_free (wc := wc) hD hS C.2.2.2.2.2.2.1 isC hC
  have hPc : va_P D vwCl wc H := fun j q hq => by
    obtain ⟨i, -, h2⟩ := at_map hC j q hq
    exact hP i q h2
  have hDt : va_D (fun _ => True) wc := (hD.sub isC hnd hC).weaken (fun _ _ _ _ => trivial)
  refine va_calli (va_runS (As := As) (rest := rest) ⟨C.1, C.2.1, C.2.2.1, C.2.2.2.1, C.2.2.2.2.1⟩ (hM H.size) (⟨callB_of n C.2.2.2.2.1 (wsm_good hw.2.2.2.1) rfl hR.2.1 hR.2.2 (C.2.2.2.2.1 _ hw.2.2.1) (C.2.2.2.2.1 _ hw.1) hw.2.2.2.2 hR.1, C.2.2.2.2.1 _ hw.2.1⟩) ⟨pre_blind D k _ wc H.size, fun U hU hW => ⟨rfl, pre_of C hPc hDt hS hF U hU hW⟩⟩ rfl hn hl.1 rfl (lv_room hrest) hd hcap) hS (fun q _ h => hF q h) hF (fun r9 u t H1 locs1 ht hvm hw1 hB hz1 hk1 hS1 => ?_)
  obtain ⟨hP1, hK1, hD1⟩ := hB
  rw [ht] at hP1
  obtain ⟨hP2, hD2⟩ := put_ok hP hD hC hs hsame hk1 hP1
  obtain ⟨rfl, hb⟩ := hw1
  exact kk hb H1 locs1 ls hP2 hD2 hS1 hl
theorem ww_callSl (C : CX p s m args c cc nL own D k A) {y : MethodName} {bytes : ByteArray} {maxL n index : Nat} {r : Int64} {rm : Room} {wc wc' : va_W} {As rest : List Value} (hM : ML l y bytes maxL rm D k As wc r wc') (hw : CWS own index y bytes maxL (some .long) n) (hR : RoomOk R rm maxL) (isC : List Nat) (hnd : va_nd isC = true) (hC : isC.map (fun i => ws[i]?) = wc.map some) (hs : putW ws isC wc' = ws') (hsame : wc'.map Prod.fst = wc.map Prod.fst) (hst : st = As.reverse ++ rest) (hn : As.length = n) (hrest : (rest.map fun v => v.category).sum ≤ 8) (hcap : cells ≤ R.cells ∧ slots ≤ R.slots) (hd : decode cc pc = .ok (.invokestatic index, 3)) (kk : WW p l e R s m args below meth c Q nL D A cells slots ws' lv (pc + 3) (.long r :: rest)) : WW p l e R s m args below meth c Q nL D A cells slots ws lv pc st := by
  subst hst
  intro H locs ls hP hD hS hl
  have hF := va_free (wc := wc) hD hS C.2.2.2.2.2.2.1 isC hC
  have hPc : va_P D vwCl wc H := fun j q hq => by
    obtain ⟨i, -, h2⟩ := at_map hC j q hq
    exact hP i q h2
  have hDt : va_D (fun _ => True) wc := (hD.sub isC hnd hC).weaken (fun _ _ _ _ => trivial)
  refine va_calll (va_runS (As := As) (rest := rest) ⟨C.1, C.2.1, C.2.2.1, C.2.2.2.1, C.2.2.2.2.1⟩ (hM H.size) (⟨callB_of n C.2.2.2.2.1 (wsm_good hw.2.2.2.1) rfl hR.2.1 hR.2.2 (C.2.2.2.2.1 _ hw.2.2.1) (C.2.2.2.2.1 _ hw.1) hw.2.2.2.2 hR.1, C.2.2.2.2.1 _ hw.2.1⟩) ⟨pre_blind D k _ wc H.size, fun U hU hW => ⟨rfl, pre_of C hPc hDt hS hF U hU hW⟩⟩ rfl hn hl.1 rfl (lv_room hrest) hd hcap) hS (fun q _ h => hF q h) hF (fun r9 u t H1 locs1 ht hvm hw1 hB hz1 hk1 hS1 => ?_)
  obtain ⟨hP1, hK1, hD1⟩ := hB
  rw [ht] at hP1
  obtain ⟨hP2, hD2⟩ := put_ok hP hD hC hs hsame hk1 hP1
  subst hw1
  exact kk H1 locs1 ls hP2 hD2 hS1 hl
theorem ww_callSv (C : CX p s m args c cc nL own D k A) {y : MethodName} {bytes : ByteArray} {maxL n index : Nat}  {rm : Room} {wc wc' : va_W} {As rest : List Value} (hM : MV l y bytes maxL rm D k As wc wc') (hw : CWS own index y bytes maxL none n) (hR : RoomOk R rm maxL) (isC : List Nat) (hnd : va_nd isC = true) (hC : isC.map (fun i => ws[i]?) = wc.map some) (hs : putW ws isC wc' = ws') (hsame : wc'.map Prod.fst = wc.map Prod.fst) (hst : st = As.reverse ++ rest) (hn : As.length = n) (hrest : (rest.map fun v => v.category).sum ≤ 8) (hcap : cells ≤ R.cells ∧ slots ≤ R.slots) (hd : decode cc pc = .ok (.invokestatic index, 3)) (kk : WW p l e R s m args below meth c Q nL D A cells slots ws' lv (pc + 3) rest) : WW p l e R s m args below meth c Q nL D A cells slots ws lv pc st := by
  subst hst
  intro H locs ls hP hD hS hl
  have hF := va_free (wc := wc) hD hS C.2.2.2.2.2.2.1 isC hC
  have hPc : va_P D vwCl wc H := fun j q hq => by
    obtain ⟨i, -, h2⟩ := at_map hC j q hq
    exact hP i q h2
  have hDt : va_D (fun _ => True) wc := (hD.sub isC hnd hC).weaken (fun _ _ _ _ => trivial)
  refine va_callv (va_runS (As := As) (rest := rest) ⟨C.1, C.2.1, C.2.2.1, C.2.2.2.1, C.2.2.2.2.1⟩ (hM H.size) (⟨callB_of n C.2.2.2.2.1 (wsm_good hw.2.2.2.1) rfl hR.2.1 hR.2.2 (C.2.2.2.2.1 _ hw.2.2.1) (C.2.2.2.2.1 _ hw.1) hw.2.2.2.2 hR.1, C.2.2.2.2.1 _ hw.2.1⟩) ⟨pre_blind D k _ wc H.size, fun U hU hW => ⟨rfl, pre_of C hPc hDt hS hF U hU hW⟩⟩ rfl hn hl.1 rfl (lv_room hrest) hd hcap) hS (fun q _ h => hF q h) hF (fun u t H1 locs1 ht hvm hw1 hB hz1 hk1 hS1 => ?_)
  obtain ⟨hP1, hK1, hD1⟩ := hB
  rw [ht] at hP1
  obtain ⟨hP2, hD2⟩ := put_ok hP hD hC hs hsame hk1 hP1
  exact kk H1 locs1 ls hP2 hD2 hS1 hl
theorem ww_callSi0 (C : CX p s m args c cc nL own D k A) {y : MethodName} {bytes : ByteArray} {maxL n index : Nat} {rt : FieldType} {r : Int32} {rm : Room} {wc : va_W} {As rest : List Value} (hM : MI l y bytes maxL rt rm D k As wc r wc) (hw : CWS own index y bytes maxL (some rt) n) (hR : RoomOk R rm maxL) (isC : List Nat) (hnd : va_nd isC = true) (hC : isC.map (fun i => ws[i]?) = wc.map some) (hst : st = As.reverse ++ rest) (hn : As.length = n) (hrest : (rest.map fun v => v.category).sum ≤ 8) (hcap : cells ≤ R.cells ∧ slots ≤ R.slots) (hd : decode cc pc = .ok (.invokestatic index, 3)) (kk : narrow rt (.int r) = .int r → WW p l e R s m args below meth c Q nL D A cells slots ws lv (pc + 3) (.int r :: rest)) : WW p l e R s m args below meth c Q nL D A cells slots ws lv pc st := by
  subst hst
  intro H locs ls hP hD hS hl
  have hF := va_free (wc := wc) hD hS C.2.2.2.2.2.2.1 isC hC
  have hPc : va_P D vwCl wc H := fun j q hq => by
    obtain ⟨i, -, h2⟩ := at_map hC j q hq
    exact hP i q h2
  have hDt : va_D (fun _ => True) wc := (hD.sub isC hnd hC).weaken (fun _ _ _ _ => trivial)
  refine va_calli (va_runS (As := As) (rest := rest) ⟨C.1, C.2.1, C.2.2.1, C.2.2.2.1, C.2.2.2.2.1⟩ (hM H.size) (⟨callB_of n C.2.2.2.2.1 (wsm_good hw.2.2.2.1) rfl hR.2.1 hR.2.2 (C.2.2.2.2.1 _ hw.2.2.1) (C.2.2.2.2.1 _ hw.1) hw.2.2.2.2 hR.1, C.2.2.2.2.1 _ hw.2.1⟩) ⟨pre_blind D k _ wc H.size, fun U hU hW => ⟨rfl, pre_of C hPc hDt hS hF U hU hW⟩⟩ rfl hn hl.1 rfl (lv_room hrest) hd hcap) hS (fun q _ h => hF q h) hF (fun r9 u t H1 locs1 ht hvm hw1 hB hz1 hk1 hS1 => ?_)
  obtain ⟨hP1, hK1, hD1⟩ := hB
  rw [ht] at hP1
  obtain ⟨hP2, hD2⟩ := put_ok hP hD hC (putW_id isC hC) rfl hk1 hP1
  obtain ⟨rfl, hb⟩ := hw1
  exact kk hb H1 locs1 ls hP2 hD2 hS1 hl
theorem ww_callSl0 (C : CX p s m args c cc nL own D k A) {y : MethodName} {bytes : ByteArray} {maxL n index : Nat} {r : Int64} {rm : Room} {wc : va_W} {As rest : List Value} (hM : ML l y bytes maxL rm D k As wc r wc) (hw : CWS own index y bytes maxL (some .long) n) (hR : RoomOk R rm maxL) (isC : List Nat) (hnd : va_nd isC = true) (hC : isC.map (fun i => ws[i]?) = wc.map some) (hst : st = As.reverse ++ rest) (hn : As.length = n) (hrest : (rest.map fun v => v.category).sum ≤ 8) (hcap : cells ≤ R.cells ∧ slots ≤ R.slots) (hd : decode cc pc = .ok (.invokestatic index, 3)) (kk : WW p l e R s m args below meth c Q nL D A cells slots ws lv (pc + 3) (.long r :: rest)) : WW p l e R s m args below meth c Q nL D A cells slots ws lv pc st := by
  subst hst
  intro H locs ls hP hD hS hl
  have hF := va_free (wc := wc) hD hS C.2.2.2.2.2.2.1 isC hC
  have hPc : va_P D vwCl wc H := fun j q hq => by
    obtain ⟨i, -, h2⟩ := at_map hC j q hq
    exact hP i q h2
  have hDt : va_D (fun _ => True) wc := (hD.sub isC hnd hC).weaken (fun _ _ _ _ => trivial)
  refine va_calll (va_runS (As := As) (rest := rest) ⟨C.1, C.2.1, C.2.2.1, C.2.2.2.1, C.2.2.2.2.1⟩ (hM H.size) (⟨callB_of n C.2.2.2.2.1 (wsm_good hw.2.2.2.1) rfl hR.2.1 hR.2.2 (C.2.2.2.2.1 _ hw.2.2.1) (C.2.2.2.2.1 _ hw.1) hw.2.2.2.2 hR.1, C.2.2.2.2.1 _ hw.2.1⟩) ⟨pre_blind D k _ wc H.size, fun U hU hW => ⟨rfl, pre_of C hPc hDt hS hF U hU hW⟩⟩ rfl hn hl.1 rfl (lv_room hrest) hd hcap) hS (fun q _ h => hF q h) hF (fun r9 u t H1 locs1 ht hvm hw1 hB hz1 hk1 hS1 => ?_)
  obtain ⟨hP1, hK1, hD1⟩ := hB
  rw [ht] at hP1
  obtain ⟨hP2, hD2⟩ := put_ok hP hD hC (putW_id isC hC) rfl hk1 hP1
  subst hw1
  exact kk H1 locs1 ls hP2 hD2 hS1 hl
theorem ww_callSv0 (C : CX p s m args c cc nL own D k A) {y : MethodName} {bytes : ByteArray} {maxL n index : Nat}  {rm : Room} {wc : va_W} {As rest : List Value} (hM : MV l y bytes maxL rm D k As wc wc) (hw : CWS own index y bytes maxL none n) (hR : RoomOk R rm maxL) (isC : List Nat) (hnd : va_nd isC = true) (hC : isC.map (fun i => ws[i]?) = wc.map some) (hst : st = As.reverse ++ rest) (hn : As.length = n) (hrest : (rest.map fun v => v.category).sum ≤ 8) (hcap : cells ≤ R.cells ∧ slots ≤ R.slots) (hd : decode cc pc = .ok (.invokestatic index, 3)) (kk : WW p l e R s m args below meth c Q nL D A cells slots ws lv (pc + 3) rest) : WW p l e R s m args below meth c Q nL D A cells slots ws lv pc st := by
  subst hst
  intro H locs ls hP hD hS hl
  have hF := va_free (wc := wc) hD hS C.2.2.2.2.2.2.1 isC hC
  have hPc : va_P D vwCl wc H := fun j q hq => by
    obtain ⟨i, -, h2⟩ := at_map hC j q hq
    exact hP i q h2
  have hDt : va_D (fun _ => True) wc := (hD.sub isC hnd hC).weaken (fun _ _ _ _ => trivial)
  refine va_callv (va_runS (As := As) (rest := rest) ⟨C.1, C.2.1, C.2.2.1, C.2.2.2.1, C.2.2.2.2.1⟩ (hM H.size) (⟨callB_of n C.2.2.2.2.1 (wsm_good hw.2.2.2.1) rfl hR.2.1 hR.2.2 (C.2.2.2.2.1 _ hw.2.2.1) (C.2.2.2.2.1 _ hw.1) hw.2.2.2.2 hR.1, C.2.2.2.2.1 _ hw.2.1⟩) ⟨pre_blind D k _ wc H.size, fun U hU hW => ⟨rfl, pre_of C hPc hDt hS hF U hU hW⟩⟩ rfl hn hl.1 rfl (lv_room hrest) hd hcap) hS (fun q _ h => hF q h) hF (fun u t H1 locs1 ht hvm hw1 hB hz1 hk1 hS1 => ?_)
  obtain ⟨hP1, hK1, hD1⟩ := hB
  rw [ht] at hP1
  obtain ⟨hP2, hD2⟩ := put_ok hP hD hC (putW_id isC hC) rfl hk1 hP1
  exact kk H1 locs1 ls hP2 hD2 hS1 hl
theorem ww_callNi (C : CX p s m args c cc nL own D k A) {y : MethodName} {bytes : ByteArray} {maxL n index : Nat} {rt : FieldType} {r : Int32} {rm : Room} {wc wc' : va_W} {As rest : List Value} (hM : MI l y bytes maxL rt rm D k As wc r wc') (hw : CWN own index y bytes maxL (some rt) n) (hR : RoomOk R rm maxL) (isC : List Nat) (hnd : va_nd isC = true) (hC : isC.map (fun i => ws[i]?) = wc.map some) (hs : putW ws isC wc' = ws') (hsame : wc'.map Prod.fst = wc.map Prod.fst) (hst : st = As.reverse ++ rest) (hn : As.length = n) (hrest : (rest.map fun v => v.category).sum ≤ 8) (hcap : cells ≤ R.cells ∧ slots ≤ R.slots) (hd : decode cc pc = .ok (.invokestatic index, 3)) (kk : narrow rt (.int r) = .int r → WW p l e R s m args below meth c Q nL D A cells slots ws' lv (pc + 3) (.int r :: rest)) : WW p l e R s m args below meth c Q nL D A cells slots ws lv pc st := by
  subst hst
  intro H locs ls hP hD hS hl
  have hF := va_free (wc := wc) hD hS C.2.2.2.2.2.2.1 isC hC
  have hPc : va_P D vwCl wc H := fun j q hq => by
    obtain ⟨i, -, h2⟩ := at_map hC j q hq
    exact hP i q h2
  have hDt : va_D (fun _ => True) wc := (hD.sub isC hnd hC).weaken (fun _ _ _ _ => trivial)
  have hnl : (Cond.methodLinkNest own index y "DoorWalk").before args s = true := nx_use C hw.1
  refine va_calli (va_runSN (host := "DoorWalk") (As := As) (rest := rest) ⟨C.1, C.2.1, C.2.2.1, C.2.2.2.1, C.2.2.2.2.1⟩ (hM H.size) (⟨⟨⟨hR.2.1, hR.2.2, hR.1.1, hR.1.2, pay_in C.2.2.2.2.1 (wsm_good hw.2.2.2.1), List.mem_cons_self⟩, C.2.2.2.2.1 _ hw.2.2.2.1, C.2.2.2.2.1 _ hw.2.2.1, ⟨hw.2.2.2.2.1, hw.2.2.2.2.2.1⟩, fun sig h => by have h2 := hw.2.2.2.2.2.2; rw [h] at h2; exact (Option.some.inj h2).symm, hnl⟩, C.2.2.2.2.1 _ hw.2.1, trivial⟩) ⟨pre_blind D k _ wc H.size, fun U hU hW => ⟨rfl, pre_of C hPc hDt hS hF U hU hW⟩⟩ rfl hn hl.1 rfl (lv_room hrest) hd hcap) hS (fun q _ h => hF q h) hF (fun r9 u t H1 locs1 ht hvm hw1 hB hz1 hk1 hS1 => ?_)
  obtain ⟨hP1, hK1, hD1⟩ := hB
  rw [ht] at hP1
  obtain ⟨hP2, hD2⟩ := put_ok hP hD hC hs hsame hk1 hP1
  obtain ⟨rfl, hb⟩ := hw1
  exact kk hb H1 locs1 ls hP2 hD2 hS1 hl
theorem ww_callNl (C : CX p s m args c cc nL own D k A) {y : MethodName} {bytes : ByteArray} {maxL n index : Nat} {r : Int64} {rm : Room} {wc wc' : va_W} {As rest : List Value} (hM : ML l y bytes maxL rm D k As wc r wc') (hw : CWN own index y bytes maxL (some .long) n) (hR : RoomOk R rm maxL) (isC : List Nat) (hnd : va_nd isC = true) (hC : isC.map (fun i => ws[i]?) = wc.map some) (hs : putW ws isC wc' = ws') (hsame : wc'.map Prod.fst = wc.map Prod.fst) (hst : st = As.reverse ++ rest) (hn : As.length = n) (hrest : (rest.map fun v => v.category).sum ≤ 8) (hcap : cells ≤ R.cells ∧ slots ≤ R.slots) (hd : decode cc pc = .ok (.invokestatic index, 3)) (kk : WW p l e R s m args below meth c Q nL D A cells slots ws' lv (pc + 3) (.long r :: rest)) : WW p l e R s m args below meth c Q nL D A cells slots ws lv pc st := by
  subst hst
  intro H locs ls hP hD hS hl
  have hF := va_free (wc := wc) hD hS C.2.2.2.2.2.2.1 isC hC
  have hPc : va_P D vwCl wc H := fun j q hq => by
    obtain ⟨i, -, h2⟩ := at_map hC j q hq
    exact hP i q h2
  have hDt : va_D (fun _ => True) wc := (hD.sub isC hnd hC).weaken (fun _ _ _ _ => trivial)
  have hnl : (Cond.methodLinkNest own index y "DoorWalk").before args s = true := nx_use C hw.1
  refine va_calll (va_runSN (host := "DoorWalk") (As := As) (rest := rest) ⟨C.1, C.2.1, C.2.2.1, C.2.2.2.1, C.2.2.2.2.1⟩ (hM H.size) (⟨⟨⟨hR.2.1, hR.2.2, hR.1.1, hR.1.2, pay_in C.2.2.2.2.1 (wsm_good hw.2.2.2.1), List.mem_cons_self⟩, C.2.2.2.2.1 _ hw.2.2.2.1, C.2.2.2.2.1 _ hw.2.2.1, ⟨hw.2.2.2.2.1, hw.2.2.2.2.2.1⟩, fun sig h => by have h2 := hw.2.2.2.2.2.2; rw [h] at h2; exact (Option.some.inj h2).symm, hnl⟩, C.2.2.2.2.1 _ hw.2.1, trivial⟩) ⟨pre_blind D k _ wc H.size, fun U hU hW => ⟨rfl, pre_of C hPc hDt hS hF U hU hW⟩⟩ rfl hn hl.1 rfl (lv_room hrest) hd hcap) hS (fun q _ h => hF q h) hF (fun r9 u t H1 locs1 ht hvm hw1 hB hz1 hk1 hS1 => ?_)
  obtain ⟨hP1, hK1, hD1⟩ := hB
  rw [ht] at hP1
  obtain ⟨hP2, hD2⟩ := put_ok hP hD hC hs hsame hk1 hP1
  subst hw1
  exact kk H1 locs1 ls hP2 hD2 hS1 hl
theorem ww_callNv (C : CX p s m args c cc nL own D k A) {y : MethodName} {bytes : ByteArray} {maxL n index : Nat}  {rm : Room} {wc wc' : va_W} {As rest : List Value} (hM : MV l y bytes maxL rm D k As wc wc') (hw : CWN own index y bytes maxL none n) (hR : RoomOk R rm maxL) (isC : List Nat) (hnd : va_nd isC = true) (hC : isC.map (fun i => ws[i]?) = wc.map some) (hs : putW ws isC wc' = ws') (hsame : wc'.map Prod.fst = wc.map Prod.fst) (hst : st = As.reverse ++ rest) (hn : As.length = n) (hrest : (rest.map fun v => v.category).sum ≤ 8) (hcap : cells ≤ R.cells ∧ slots ≤ R.slots) (hd : decode cc pc = .ok (.invokestatic index, 3)) (kk : WW p l e R s m args below meth c Q nL D A cells slots ws' lv (pc + 3) rest) : WW p l e R s m args below meth c Q nL D A cells slots ws lv pc st := by
  subst hst
  intro H locs ls hP hD hS hl
  have hF := va_free (wc := wc) hD hS C.2.2.2.2.2.2.1 isC hC
  have hPc : va_P D vwCl wc H := fun j q hq => by
    obtain ⟨i, -, h2⟩ := at_map hC j q hq
    exact hP i q h2
  have hDt : va_D (fun _ => True) wc := (hD.sub isC hnd hC).weaken (fun _ _ _ _ => trivial)
  have hnl : (Cond.methodLinkNest own index y "DoorWalk").before args s = true := nx_use C hw.1
  refine va_callv (va_runSN (host := "DoorWalk") (As := As) (rest := rest) ⟨C.1, C.2.1, C.2.2.1, C.2.2.2.1, C.2.2.2.2.1⟩ (hM H.size) (⟨⟨⟨hR.2.1, hR.2.2, hR.1.1, hR.1.2, pay_in C.2.2.2.2.1 (wsm_good hw.2.2.2.1), List.mem_cons_self⟩, C.2.2.2.2.1 _ hw.2.2.2.1, C.2.2.2.2.1 _ hw.2.2.1, ⟨hw.2.2.2.2.1, hw.2.2.2.2.2.1⟩, fun sig h => by have h2 := hw.2.2.2.2.2.2; rw [h] at h2; exact (Option.some.inj h2).symm, hnl⟩, C.2.2.2.2.1 _ hw.2.1, trivial⟩) ⟨pre_blind D k _ wc H.size, fun U hU hW => ⟨rfl, pre_of C hPc hDt hS hF U hU hW⟩⟩ rfl hn hl.1 rfl (lv_room hrest) hd hcap) hS (fun q _ h => hF q h) hF (fun u t H1 locs1 ht hvm hw1 hB hz1 hk1 hS1 => ?_)
  obtain ⟨hP1, hK1, hD1⟩ := hB
  rw [ht] at hP1
  obtain ⟨hP2, hD2⟩ := put_ok hP hD hC hs hsame hk1 hP1
  exact kk H1 locs1 ls hP2 hD2 hS1 hl
theorem ww_callNi0 (C : CX p s m args c cc nL own D k A) {y : MethodName} {bytes : ByteArray} {maxL n index : Nat} {rt : FieldType} {r : Int32} {rm : Room} {wc : va_W} {As rest : List Value} (hM : MI l y bytes maxL rt rm D k As wc r wc) (hw : CWN own index y bytes maxL (some rt) n) (hR : RoomOk R rm maxL) (isC : List Nat) (hnd : va_nd isC = true) (hC : isC.map (fun i => ws[i]?) = wc.map some) (hst : st = As.reverse ++ rest) (hn : As.length = n) (hrest : (rest.map fun v => v.category).sum ≤ 8) (hcap : cells ≤ R.cells ∧ slots ≤ R.slots) (hd : decode cc pc = .ok (.invokestatic index, 3)) (kk : narrow rt (.int r) = .int r → WW p l e R s m args below meth c Q nL D A cells slots ws lv (pc + 3) (.int r :: rest)) : WW p l e R s m args below meth c Q nL D A cells slots ws lv pc st := by
  subst hst
  intro H locs ls hP hD hS hl
  have hF := va_free (wc := wc) hD hS C.2.2.2.2.2.2.1 isC hC
  have hPc : va_P D vwCl wc H := fun j q hq => by
    obtain ⟨i, -, h2⟩ := at_map hC j q hq
    exact hP i q h2
  have hDt : va_D (fun _ => True) wc := (hD.sub isC hnd hC).weaken (fun _ _ _ _ => trivial)
  have hnl : (Cond.methodLinkNest own index y "DoorWalk").before args s = true := nx_use C hw.1
  refine va_calli (va_runSN (host := "DoorWalk") (As := As) (rest := rest) ⟨C.1, C.2.1, C.2.2.1, C.2.2.2.1, C.2.2.2.2.1⟩ (hM H.size) (⟨⟨⟨hR.2.1, hR.2.2, hR.1.1, hR.1.2, pay_in C.2.2.2.2.1 (wsm_good hw.2.2.2.1), List.mem_cons_self⟩, C.2.2.2.2.1 _ hw.2.2.2.1, C.2.2.2.2.1 _ hw.2.2.1, ⟨hw.2.2.2.2.1, hw.2.2.2.2.2.1⟩, fun sig h => by have h2 := hw.2.2.2.2.2.2; rw [h] at h2; exact (Option.some.inj h2).symm, hnl⟩, C.2.2.2.2.1 _ hw.2.1, trivial⟩) ⟨pre_blind D k _ wc H.size, fun U hU hW => ⟨rfl, pre_of C hPc hDt hS hF U hU hW⟩⟩ rfl hn hl.1 rfl (lv_room hrest) hd hcap) hS (fun q _ h => hF q h) hF (fun r9 u t H1 locs1 ht hvm hw1 hB hz1 hk1 hS1 => ?_)
  obtain ⟨hP1, hK1, hD1⟩ := hB
  rw [ht] at hP1
  obtain ⟨hP2, hD2⟩ := put_ok hP hD hC (putW_id isC hC) rfl hk1 hP1
  obtain ⟨rfl, hb⟩ := hw1
  exact kk hb H1 locs1 ls hP2 hD2 hS1 hl
theorem ww_callNl0 (C : CX p s m args c cc nL own D k A) {y : MethodName} {bytes : ByteArray} {maxL n index : Nat} {r : Int64} {rm : Room} {wc : va_W} {As rest : List Value} (hM : ML l y bytes maxL rm D k As wc r wc) (hw : CWN own index y bytes maxL (some .long) n) (hR : RoomOk R rm maxL) (isC : List Nat) (hnd : va_nd isC = true) (hC : isC.map (fun i => ws[i]?) = wc.map some) (hst : st = As.reverse ++ rest) (hn : As.length = n) (hrest : (rest.map fun v => v.category).sum ≤ 8) (hcap : cells ≤ R.cells ∧ slots ≤ R.slots) (hd : decode cc pc = .ok (.invokestatic index, 3)) (kk : WW p l e R s m args below meth c Q nL D A cells slots ws lv (pc + 3) (.long r :: rest)) : WW p l e R s m args below meth c Q nL D A cells slots ws lv pc st := by
  subst hst
  intro H locs ls hP hD hS hl
  have hF := va_free (wc := wc) hD hS C.2.2.2.2.2.2.1 isC hC
  have hPc : va_P D vwCl wc H := fun j q hq => by
    obtain ⟨i, -, h2⟩ := at_map hC j q hq
    exact hP i q h2
  have hDt : va_D (fun _ => True) wc := (hD.sub isC hnd hC).weaken (fun _ _ _ _ => trivial)
  have hnl : (Cond.methodLinkNest own index y "DoorWalk").before args s = true := nx_use C hw.1
  refine va_calll (va_runSN (host := "DoorWalk") (As := As) (rest := rest) ⟨C.1, C.2.1, C.2.2.1, C.2.2.2.1, C.2.2.2.2.1⟩ (hM H.size) (⟨⟨⟨hR.2.1, hR.2.2, hR.1.1, hR.1.2, pay_in C.2.2.2.2.1 (wsm_good hw.2.2.2.1), List.mem_cons_self⟩, C.2.2.2.2.1 _ hw.2.2.2.1, C.2.2.2.2.1 _ hw.2.2.1, ⟨hw.2.2.2.2.1, hw.2.2.2.2.2.1⟩, fun sig h => by have h2 := hw.2.2.2.2.2.2; rw [h] at h2; exact (Option.some.inj h2).symm, hnl⟩, C.2.2.2.2.1 _ hw.2.1, trivial⟩) ⟨pre_blind D k _ wc H.size, fun U hU hW => ⟨rfl, pre_of C hPc hDt hS hF U hU hW⟩⟩ rfl hn hl.1 rfl (lv_room hrest) hd hcap) hS (fun q _ h => hF q h) hF (fun r9 u t H1 locs1 ht hvm hw1 hB hz1 hk1 hS1 => ?_)
  obtain ⟨hP1, hK1, hD1⟩ := hB
  rw [ht] at hP1
  obtain ⟨hP2, hD2⟩ := put_ok hP hD hC (putW_id isC hC) rfl hk1 hP1
  subst hw1
  exact kk H1 locs1 ls hP2 hD2 hS1 hl
theorem ww_callNv0 (C : CX p s m args c cc nL own D k A) {y : MethodName} {bytes : ByteArray} {maxL n index : Nat}  {rm : Room} {wc : va_W} {As rest : List Value} (hM : MV l y bytes maxL rm D k As wc wc) (hw : CWN own index y bytes maxL none n) (hR : RoomOk R rm maxL) (isC : List Nat) (hnd : va_nd isC = true) (hC : isC.map (fun i => ws[i]?) = wc.map some) (hst : st = As.reverse ++ rest) (hn : As.length = n) (hrest : (rest.map fun v => v.category).sum ≤ 8) (hcap : cells ≤ R.cells ∧ slots ≤ R.slots) (hd : decode cc pc = .ok (.invokestatic index, 3)) (kk : WW p l e R s m args below meth c Q nL D A cells slots ws lv (pc + 3) rest) : WW p l e R s m args below meth c Q nL D A cells slots ws lv pc st := by
  subst hst
  intro H locs ls hP hD hS hl
  have hF := va_free (wc := wc) hD hS C.2.2.2.2.2.2.1 isC hC
  have hPc : va_P D vwCl wc H := fun j q hq => by
    obtain ⟨i, -, h2⟩ := at_map hC j q hq
    exact hP i q h2
  have hDt : va_D (fun _ => True) wc := (hD.sub isC hnd hC).weaken (fun _ _ _ _ => trivial)
  have hnl : (Cond.methodLinkNest own index y "DoorWalk").before args s = true := nx_use C hw.1
  refine va_callv (va_runSN (host := "DoorWalk") (As := As) (rest := rest) ⟨C.1, C.2.1, C.2.2.1, C.2.2.2.1, C.2.2.2.2.1⟩ (hM H.size) (⟨⟨⟨hR.2.1, hR.2.2, hR.1.1, hR.1.2, pay_in C.2.2.2.2.1 (wsm_good hw.2.2.2.1), List.mem_cons_self⟩, C.2.2.2.2.1 _ hw.2.2.2.1, C.2.2.2.2.1 _ hw.2.2.1, ⟨hw.2.2.2.2.1, hw.2.2.2.2.2.1⟩, fun sig h => by have h2 := hw.2.2.2.2.2.2; rw [h] at h2; exact (Option.some.inj h2).symm, hnl⟩, C.2.2.2.2.1 _ hw.2.1, trivial⟩) ⟨pre_blind D k _ wc H.size, fun U hU hW => ⟨rfl, pre_of C hPc hDt hS hF U hU hW⟩⟩ rfl hn hl.1 rfl (lv_room hrest) hd hcap) hS (fun q _ h => hF q h) hF (fun u t H1 locs1 ht hvm hw1 hB hz1 hk1 hS1 => ?_)
  obtain ⟨hP1, hK1, hD1⟩ := hB
  rw [ht] at hP1
  obtain ⟨hP2, hD2⟩ := put_ok hP hD hC (putW_id isC hC) rfl hk1 hP1
  exact kk H1 locs1 ls hP2 hD2 hS1 hl
theorem mkMI' {l : Launch} {y : MethodName} {cc : ByteArray} {nL : Nat} {rt : FieldType} {r : Int32} {rm : Room} {D : va_G} {k : Nat → ClassId} {avs : List Value} {ws wsF : va_W} {own : String} (hy : plainName y.cls = true) (ho : y.cls = own) (hlen : (lg_sl avs).length ≤ nL)
    (H : ∀ (p : Program) (e : Env) (s : State) (m : MethodId) (args : Array Value) (below : List Frame) (meth : Method) (c : Code) (Q : State → Prop) (A : Nat → Prop), (∀ (ws2 : va_W) (lv2 : List (Nat × Value)) (pc2 : Nat) (v : Int32), decode cc pc2 = .ok (.ireturn, 1) → narrow rt (.int v) = .int v → v = r → ws2 = wsF → WW p l e rm s m args below meth c Q nL D A 0 0 ws2 lv2 pc2 [.int v]) → CX p s m args c cc nL own D k A →
      WW p l e rm s m args below meth c Q nL D A 0 0 ws (lv_args 0 avs) 0 []) : MI l y cc nL rt rm D k avs ws r wsF := mkMI hy ho hlen (fun p e s m args below meth c hr hk C => H p e s m args below meth c _ _ (fun _ _ _ _ hd hn h1 h2 => ww_iret C hr hk hn h1 h2 hd) C)
theorem mkML' {l : Launch} {y : MethodName} {cc : ByteArray} {nL : Nat} {r : Int64} {rm : Room} {D : va_G} {k : Nat → ClassId} {avs : List Value} {ws wsF : va_W} {own : String} (hy : plainName y.cls = true) (ho : y.cls = own) (hlen : (lg_sl avs).length ≤ nL)
    (H : ∀ (p : Program) (e : Env) (s : State) (m : MethodId) (args : Array Value) (below : List Frame) (meth : Method) (c : Code) (Q : State → Prop) (A : Nat → Prop), (∀ (ws2 : va_W) (lv2 : List (Nat × Value)) (pc2 : Nat) (v : Int64), decode cc pc2 = .ok (.lreturn, 1) → v = r → ws2 = wsF → WW p l e rm s m args below meth c Q nL D A 0 0 ws2 lv2 pc2 [.long v]) → CX p s m args c cc nL own D k A →
      WW p l e rm s m args below meth c Q nL D A 0 0 ws (lv_args 0 avs) 0 []) : ML l y cc nL rm D k avs ws r wsF := mkML hy ho hlen (fun p e s m args below meth c hr hk C => H p e s m args below meth c _ _ (fun _ _ _ _ hd h1 h2 => ww_lret C hr hk h1 h2 hd) C)
theorem mkMV' {l : Launch} {y : MethodName} {cc : ByteArray} {nL : Nat}  {rm : Room} {D : va_G} {k : Nat → ClassId} {avs : List Value} {ws wsF : va_W} {own : String} (hy : plainName y.cls = true) (ho : y.cls = own) (hlen : (lg_sl avs).length ≤ nL)
    (H : ∀ (p : Program) (e : Env) (s : State) (m : MethodId) (args : Array Value) (below : List Frame) (meth : Method) (c : Code) (Q : State → Prop) (A : Nat → Prop), (∀ (ws2 : va_W) (lv2 : List (Nat × Value)) (pc2 : Nat), decode cc pc2 = .ok (.return_, 1) → ws2 = wsF → WW p l e rm s m args below meth c Q nL D A 0 0 ws2 lv2 pc2 []) → CX p s m args c cc nL own D k A →
      WW p l e rm s m args below meth c Q nL D A 0 0 ws (lv_args 0 avs) 0 []) : MV l y cc nL rm D k avs ws wsF := mkMV hy ho hlen (fun p e s m args below meth c hr hk C => H p e s m args below meth c _ _ (fun _ _ _ hd h2 => ww_vret C hr hk h2 hd) C)
end WWC
