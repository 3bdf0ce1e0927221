section WWK
theorem mkMVx {l : Launch} {y : MethodName} {cc : ByteArray} {nL mc ms : Nat} {rm : Room} {D : va_G} {k : Nat → ClassId} {avs : List Value} {ws : va_W} {PF : va_W → Prop} {own : String} (hy : plainName y.cls = true) (ho : y.cls = own) (hlen : (lg_sl avs).length ≤ nL)
    (H : ∀ (p : Program) (e : Env) (s : State) (m : MethodId) (args : Array Value) (below : List Frame) (meth : Method) (c : Code) (Q : State → Prop) (A : Nat → Prop), (∀ (ws2 : va_W) (lv2 : List (Nat × Value)) (pc2 : Nat), decode cc pc2 = .ok (.return_, 1) → PF ws2 → WW p l e rm s m args below meth c Q nL D A mc ms ws2 lv2 pc2 []) → meth.name = y.name → CX p s m args c cc nL own D k A →
      WW p l e rm s m args below meth c Q nL D A 0 0 ws (lv_args 0 avs) 0 []) : MVx l y cc nL rm D k avs ws PF mc ms := by
  intro sz
  refine Met.ofW (cc := cc) (maxL := nL) (ret := none) hy rfl ?_
  intro p e s m args below meth c s₁ B hml hv
  obtain ⟨rfl, rfl, hP, hK, hD0, hX⟩ := hv
  have hts := atoms_spec (ws := WSM y cc nL none) B.pre
  have hown : s.vm.findClass own = some m.cls := ho ▸ findClass_of_methodNamed B.named
  have hl := lv_entry avs (n := nL) hlen
  rw [lg_entry_eq]
  have C : CX p s m avs.toArray c cc nL own D k (va_A ws s.heap.size) := ⟨B.exec, B.bytes, hml, hown, fun w hw => hts w (List.mem_cons_of_mem _ hw), hK, fun q h => Or.inr h, hX⟩
  refine H p e s m _ below meth c _ _ (fun ws2 lv2 pc2 hd hPF => ?_) (name_of_methodNamed B.named B.method).1 C s.heap [] _ hP hD0.self va_S.rf hl
  exact fun H locs ls hP hD hS hl => W.vret C.1 C.2.1 B.returns (fun t ht hW => ⟨⟨ws2, rfl, hPF, by rw [ht]; exact hP, va_K.moved hW.alike C.2.2.2.2.2.1, hD⟩, hS.F ht⟩) hS.2.2 hd B.notSynchronized
theorem mkMIx {l : Launch} {y : MethodName} {cc : ByteArray} {nL mc ms : Nat} {rt : FieldType} {rm : Room} {D : va_G} {k : Nat → ClassId} {avs : List Value} {ws : va_W} {PF : Int32 → va_W → Prop} {own : String} (hy : plainName y.cls = true) (ho : y.cls = own) (hlen : (lg_sl avs).length ≤ nL)
    (H : ∀ (p : Program) (e : Env) (s : State) (m : MethodId) (args : Array Value) (below : List Frame) (meth : Method) (c : Code) (Q : State → Prop) (A : Nat → Prop), (∀ (ws2 : va_W) (lv2 : List (Nat × Value)) (pc2 : Nat) (v : Int32), decode cc pc2 = .ok (.ireturn, 1) → narrow rt (.int v) = .int v → PF v ws2 → WW p l e rm s m args below meth c Q nL D A mc ms ws2 lv2 pc2 [.int v]) → CX p s m args c cc nL own D k A →
      WW p l e rm s m args below meth c Q nL D A 0 0 ws (lv_args 0 avs) 0 []) : MIx l y cc nL rt rm D k avs ws PF mc ms := by
  intro sz
  refine Met.ofW (cc := cc) (maxL := nL) (ret := some rt) hy rfl ?_
  intro p e s m args below meth c s₁ B hml hv
  obtain ⟨rfl, rfl, hP, hK, hD0, hX⟩ := hv
  have hts := atoms_spec (ws := WSM y cc nL (some rt)) B.pre
  have hown : s.vm.findClass own = some m.cls := ho ▸ findClass_of_methodNamed B.named
  have hl := lv_entry avs (n := nL) hlen
  rw [lg_entry_eq]
  have C : CX p s m avs.toArray c cc nL own D k (va_A ws s.heap.size) := ⟨B.exec, B.bytes, hml, hown, fun w hw => hts w (List.mem_cons_of_mem _ hw), hK, fun q h => Or.inr h, hX⟩
  refine H p e s m _ below meth c _ _ (fun ws2 lv2 pc2 v hd hn hPF => ?_) C s.heap [] _ hP hD0.self va_S.rf hl
  exact fun H locs ls hP hD hS hl => W.zret C.1 C.2.1 B.returns hn (fun t ht hW => ⟨⟨v, ws2, rfl, ⟨hPF, hn⟩, by rw [ht]; exact hP, va_K.moved hW.alike C.2.2.2.2.2.1, hD⟩, hS.F ht⟩) hS.2.2 hd B.notSynchronized
variable {p : Program} {l : Launch} {e : Env} {R : Room} {s : State} {m : MethodId} {args : Array Value} {below : List Frame} {meth : Method} {c : Code} {Q : State → Prop} {cells slots : Nat} {cc : ByteArray} {nL : Nat} {own : String} {D : va_G} {k : Nat → ClassId} {A : Nat → Prop} {ws ws' : va_W} {lv lv' : List (Nat × Value)} {pc tgt : Nat} {st : List Value}
set_option maxRecDepth 100000 in
theorem kar_I : Cond.arrayClass .int ∈ TB := kwt1 40 (by rfl) rfl
theorem ww_newaI (C : CX p s m args c cc nL own D k A) {n : Int32} {N : Nat} (hn : ¬ n < 0) (hN : n.toNatClampNeg = N) (hby : N * componentBytes .int ≤ 536870912) (hcap : cells + 1 ≤ R.cells ∧ slots + N ≤ R.slots) (hd : decode cc pc = .ok (.newarray .int, 2)) (kk : ∀ q : Nat, WW p l e R s m args below meth c Q nL D A (cells + 1) (slots + N) (ws ++ [aI k q N (fun _ => 0)]) lv (pc + 2) (.ref q :: st)) : WW p l e R s m args below meth c Q nL D A cells slots ws lv pc (.int n :: st) := by
  intro H locs ls hP hD hS hl
  refine va_newa (atype := .int) (ty := .int) (a0 := (N, .inl (fun _ => 0))) C.1 C.2.1 (C.2.2.2.2.1 _ kar_I) rfl C.2.2.2.2.2.1 hP hD hS C.2.2.2.2.2.2.1 (fun _ => rfl) hn hN hby hcap.1 hcap.2 hd (fun q cA H1 hK hP hD hS => ?_)
  have h1 : s.vm.findClass ("[" ++ FieldType.toString .int) = some cA := (hK.2 5 _ rfl).2
  have h2 : s.vm.findClass ("[" ++ FieldType.toString .int) = some (k 1) := (C.2.2.2.2.2.1.2 1 _ rfl).2
  obtain rfl : k 1 = cA := Option.some.inj (h2.symm.trans h1)
  exact kk q H1 locs ls hP hD hS hl
set_option maxRecDepth 100000 in
theorem kar_J : Cond.arrayClass .long ∈ TB := kwt1 55 (by rfl) rfl
theorem ww_newaJ (C : CX p s m args c cc nL own D k A) {n : Int32} {N : Nat} (hn : ¬ n < 0) (hN : n.toNatClampNeg = N) (hby : N * componentBytes .long ≤ 536870912) (hcap : cells + 1 ≤ R.cells ∧ slots + N ≤ R.slots) (hd : decode cc pc = .ok (.newarray .long, 2)) (kk : ∀ q : Nat, WW p l e R s m args below meth c Q nL D A (cells + 1) (slots + N) (ws ++ [aJ k q N (fun _ => 0)]) lv (pc + 2) (.ref q :: st)) : WW p l e R s m args below meth c Q nL D A cells slots ws lv pc (.int n :: st) := by
  intro H locs ls hP hD hS hl
  refine va_newa (atype := .long) (ty := .long) (a0 := (N, .inr (.inl (fun _ => 0)))) C.1 C.2.1 (C.2.2.2.2.1 _ kar_J) rfl C.2.2.2.2.2.1 hP hD hS C.2.2.2.2.2.2.1 (fun _ => rfl) hn hN hby hcap.1 hcap.2 hd (fun q cA H1 hK hP hD hS => ?_)
  have h1 : s.vm.findClass ("[" ++ FieldType.toString .long) = some cA := (hK.2 5 _ rfl).2
  have h2 : s.vm.findClass ("[" ++ FieldType.toString .long) = some (k 2) := (C.2.2.2.2.2.1.2 2 _ rfl).2
  obtain rfl : k 2 = cA := Option.some.inj (h2.symm.trans h1)
  exact kk q H1 locs ls hP hD hS hl
set_option maxRecDepth 100000 in
theorem kar_B : Cond.arrayClass .byte ∈ TB := kwt4 210 (by rfl) rfl
theorem ww_newaB (C : CX p s m args c cc nL own D k A) {n : Int32} {N : Nat} (hn : ¬ n < 0) (hN : n.toNatClampNeg = N) (hby : N * componentBytes .byte ≤ 536870912) (hcap : cells + 1 ≤ R.cells ∧ slots + N ≤ R.slots) (hd : decode cc pc = .ok (.newarray .byte, 2)) (kk : ∀ q : Nat, WW p l e R s m args below meth c Q nL D A (cells + 1) (slots + N) (ws ++ [aB k q N (fun _ => 0)]) lv (pc + 2) (.ref q :: st)) : WW p l e R s m args below meth c Q nL D A cells slots ws lv pc (.int n :: st) := by
  intro H locs ls hP hD hS hl
  refine va_newa (atype := .byte) (ty := .byte) (a0 := (N, .inl (fun _ => 0))) C.1 C.2.1 (C.2.2.2.2.1 _ kar_B) rfl C.2.2.2.2.2.1 hP hD hS C.2.2.2.2.2.2.1 (fun _ => rfl) hn hN hby hcap.1 hcap.2 hd (fun q cA H1 hK hP hD hS => ?_)
  have h1 : s.vm.findClass ("[" ++ FieldType.toString .byte) = some cA := (hK.2 5 _ rfl).2
  have h2 : s.vm.findClass ("[" ++ FieldType.toString .byte) = some (k 0) := (C.2.2.2.2.2.1.2 0 _ rfl).2
  obtain rfl : k 0 = cA := Option.some.inj (h2.symm.trans h1)
  exact kk q H1 locs ls hP hD hS hl
set_option maxRecDepth 100000 in
theorem kar_Z : Cond.arrayClass .boolean ∈ TB := kwt5 86 (by rfl) rfl
theorem ww_newaZ (C : CX p s m args c cc nL own D k A) {n : Int32} {N : Nat} (hn : ¬ n < 0) (hN : n.toNatClampNeg = N) (hby : N * componentBytes .boolean ≤ 536870912) (hcap : cells + 1 ≤ R.cells ∧ slots + N ≤ R.slots) (hd : decode cc pc = .ok (.newarray .boolean, 2)) (kk : ∀ q : Nat, WW p l e R s m args below meth c Q nL D A (cells + 1) (slots + N) (ws ++ [aZ k q N (fun _ => 0)]) lv (pc + 2) (.ref q :: st)) : WW p l e R s m args below meth c Q nL D A cells slots ws lv pc (.int n :: st) := by
  intro H locs ls hP hD hS hl
  refine va_newa (atype := .boolean) (ty := .boolean) (a0 := (N, .inl (fun _ => 0))) C.1 C.2.1 (C.2.2.2.2.1 _ kar_Z) rfl C.2.2.2.2.2.1 hP hD hS C.2.2.2.2.2.2.1 (fun _ => rfl) hn hN hby hcap.1 hcap.2 hd (fun q cA H1 hK hP hD hS => ?_)
  have h1 : s.vm.findClass ("[" ++ FieldType.toString .boolean) = some cA := (hK.2 5 _ rfl).2
  have h2 : s.vm.findClass ("[" ++ FieldType.toString .boolean) = some (k 3) := (C.2.2.2.2.2.1.2 3 _ rfl).2
  obtain rfl : k 3 = cA := Option.some.inj (h2.symm.trans h1)
  exact kk q H1 locs ls hP hD hS hl
theorem ww_newS (C : CX p s m args c cc nL own D k A) {index : Nat} {n : Int32} {N : Nat} (hk : Cond.classLink own index "DoorWalk$State" ∈ TB) (hn : ¬ n < 0) (hN : n.toNatClampNeg = N) (hby : N * 4 ≤ 536870912) (hcap : cells + 1 ≤ R.cells ∧ slots + N ≤ R.slots) (hd : decode cc pc = .ok (.anewarray index, 3)) (kk : ∀ q : Nat, WW p l e R s m args below meth c Q nL D A (cells + 1) (slots + N) (ws ++ [aS k q N (fun _ => none)]) lv (pc + 3) (.ref q :: st)) : WW p l e R s m args below meth c Q nL D A cells slots ws lv pc (.int n :: st) := by
  intro H locs ls hP hD hS hl
  refine va_newq (C := "DoorWalk$State") C.1 C.2.1 C.2.2.2.1 (C.2.2.2.2.1 _ hk) C.2.2.2.2.2.2.2.2.2.2 C.2.2.2.2.2.1 hP hD hS C.2.2.2.2.2.2.1 hn hN hby hcap.1 hcap.2 hd (fun q cA H1 hK hP hD hS => ?_)
  obtain ⟨kA1, comp1, -, -, -, h1⟩ := (hK.2 5 _ rfl).2
  obtain ⟨kA2, comp2, -, -, -, h2⟩ := (C.2.2.2.2.2.1.2 4 _ rfl).2
  obtain rfl : k 4 = cA := Option.some.inj (h2.symm.trans h1)
  exact kk q H1 locs ls hP hD hS hl
set_option maxRecDepth 100000 in
theorem kcl_L_8 : Cond.classLink "DoorWalkLaw" 8 "DoorWalk" ∈ TB := kwt1 18 (by rfl) rfl
set_option maxRecDepth 100000 in
theorem kcl_X7_9 : Cond.classLink "DoorWalk" 9 "DoorWalk$Text" ∈ TB := kwt1 26 (by rfl) rfl
set_option maxRecDepth 100000 in
theorem kcl_X7_16 : Cond.classLink "DoorWalk" 16 "DoorWalk$Row" ∈ TB := kwt1 41 (by rfl) rfl
set_option maxRecDepth 100000 in
theorem kcl_X7_23 : Cond.classLink "DoorWalk" 23 "DoorWalk$State" ∈ TB := kwt1 56 (by rfl) rfl
set_option maxRecDepth 100000 in
theorem kcl_X5_7 : Cond.classLink "DoorWalk$State" 7 "DoorWalk$Grid" ∈ TB := kwt1 62 (by rfl) rfl
set_option maxRecDepth 100000 in
theorem kcl_X5_16 : Cond.classLink "DoorWalk$State" 16 "DoorWalk$Rule" ∈ TB := kwt1 106 (by rfl) rfl
set_option maxRecDepth 100000 in
theorem kcl_X7_30 : Cond.classLink "DoorWalk" 30 "DoorWalk$Grid" ∈ TB := kwt1 139 (by rfl) rfl
set_option maxRecDepth 100000 in
theorem kcl_X7_37 : Cond.classLink "DoorWalk" 37 "DoorWalk$Doors" ∈ TB := kwt1 141 (by rfl) rfl
set_option maxRecDepth 100000 in
theorem kcl_X7_44 : Cond.classLink "DoorWalk" 44 "DoorWalk$History" ∈ TB := kwt1 165 (by rfl) rfl
set_option maxRecDepth 100000 in
theorem kcl_X2_9 : Cond.classLink "DoorWalk$History" 9 "DoorWalk$State" ∈ TB := kwt1 171 (by rfl) rfl
set_option maxRecDepth 100000 in
theorem kcl_L_24 : Cond.classLink "DoorWalkLaw" 24 "DoorWalkModel" ∈ TB := kwt4 229 (by rfl) rfl
set_option maxRecDepth 100000 in
theorem kin_0 : Cond.instantiable "DoorWalk$Doors" 5 ∈ TB ∧ Cond.initialized "DoorWalk$Doors" ∈ TB := ⟨kwt1 142 (by rfl) rfl, kwt1 7 (by rfl) rfl⟩
theorem ww_new0 (C : CX p s m args c cc nL own D k A) {index : Nat} (hk : Cond.classLink own index "DoorWalk$Doors" ∈ TB) (hcap : cells + 1 ≤ R.cells ∧ slots + 5 ≤ R.slots) (hd : decode cc pc = .ok (.new index, 3)) (kk : ∀ q : Nat, WW p l e R s m args below meth c Q nL D A (cells + 1) (slots + 5) (ws ++ [(q, .inr (0, [.null, .null, .int 0, .int 0, .int 0]))]) lv (pc + 3) (.ref q :: st)) : WW p l e R s m args below meth c Q nL D A cells slots ws lv pc st := by
  intro H locs ls hP hD hS hl
  refine va_new (ci := 0) (fs := [.null, .null, .int 0, .int 0, .int 0]) (C := RX0) (T := TX0) (N := 5) C.1 C.2.1 C.2.2.2.2.1 inX0 tyX0 tyX0_ok C.2.2.2.1 (C.2.2.2.2.1 _ hk) (C.2.2.2.2.1 _ kin_0.1) (C.2.2.2.2.1 _ kin_0.2) C.2.2.2.2.2.1 hP hD hS C.2.2.2.2.2.2.1 rfl (fun j hj => ?_) hcap.1 hcap.2 hd (fun q H1 hP hD hS => kk q H1 locs ls hP hD hS hl)
  match j, hj with
  | 0, _ => rfl
  | 1, _ => rfl
  | 2, _ => rfl
  | 3, _ => rfl
  | 4, _ => rfl
  | j + 5, hj => exact absurd hj (by omega)
theorem pr0_0 (C : CX p s m args c cc nL "DoorWalk$Doors" D k A) {index a v : Nat} {fs : List Value} (hnm : meth.name = "<init>") (hk : Cond.fieldLink "DoorWalk$Doors" index "DoorWalk$Doors" "way" "[I" ∈ TB) (q0 : Nat) (hq : ws[q0]? = some (a, .inr (0, fs))) (hl2 : 0 < fs.length) (hs : ws.set q0 (a, .inr (0, fs.set 0 (.ref v))) = ws') (hd : decode cc pc = .ok (.putfield index, 3)) (kk : WW p l e R s m args below meth c Q nL D A cells slots ws' lv (pc + 3) st) : WW p l e R s m args below meth c Q nL D A cells slots ws lv pc (.ref v :: .ref a :: st) := by
  subst hs
  exact fun H locs ls hP hD hS hl => va_putF (D := D) (ci := 0) (v := .ref v) (ty := tyX0 0) (C := RX0) (T := TX0) (N := 5) C.1 C.2.1 C.2.2.2.2.1 inX0 tyX0 tyX0_ok nmX0 C.2.2.2.1 C.2.2.2.2.2.1 hP hD hS q0 hq rfl 0 (by decide) (C.2.2.2.2.1 _ hk) (fun _ h9 => h9) rfl hnm rfl (by decide +kernel) rfl rfl hl2 hd (fun H1 locs1 hP hD hS => kk H1 locs1 ls hP hD hS hl)
theorem pr0_1 (C : CX p s m args c cc nL "DoorWalk$Doors" D k A) {index a v : Nat} {fs : List Value} (hnm : meth.name = "<init>") (hk : Cond.fieldLink "DoorWalk$Doors" index "DoorWalk$Doors" "seen" "[I" ∈ TB) (q0 : Nat) (hq : ws[q0]? = some (a, .inr (0, fs))) (hl2 : 1 < fs.length) (hs : ws.set q0 (a, .inr (0, fs.set 1 (.ref v))) = ws') (hd : decode cc pc = .ok (.putfield index, 3)) (kk : WW p l e R s m args below meth c Q nL D A cells slots ws' lv (pc + 3) st) : WW p l e R s m args below meth c Q nL D A cells slots ws lv pc (.ref v :: .ref a :: st) := by
  subst hs
  exact fun H locs ls hP hD hS hl => va_putF (D := D) (ci := 0) (v := .ref v) (ty := tyX0 1) (C := RX0) (T := TX0) (N := 5) C.1 C.2.1 C.2.2.2.2.1 inX0 tyX0 tyX0_ok nmX0 C.2.2.2.1 C.2.2.2.2.2.1 hP hD hS q0 hq rfl 1 (by decide) (C.2.2.2.2.1 _ hk) (fun _ h9 => h9) rfl hnm rfl (by decide +kernel) rfl rfl hl2 hd (fun H1 locs1 hP hD hS => kk H1 locs1 ls hP hD hS hl)
set_option maxRecDepth 100000 in
theorem kin_1 : Cond.instantiable "DoorWalk$Grid" 6 ∈ TB ∧ Cond.initialized "DoorWalk$Grid" ∈ TB := ⟨kwt1 63 (by rfl) rfl, kwt1 5 (by rfl) rfl⟩
theorem ww_new1 (C : CX p s m args c cc nL own D k A) {index : Nat} (hk : Cond.classLink own index "DoorWalk$Grid" ∈ TB) (hcap : cells + 1 ≤ R.cells ∧ slots + 6 ≤ R.slots) (hd : decode cc pc = .ok (.new index, 3)) (kk : ∀ q : Nat, WW p l e R s m args below meth c Q nL D A (cells + 1) (slots + 6) (ws ++ [(q, .inr (1, [.null, .int 0, .int 0, .int 0, .int 0, .int 0]))]) lv (pc + 3) (.ref q :: st)) : WW p l e R s m args below meth c Q nL D A cells slots ws lv pc st := by
  intro H locs ls hP hD hS hl
  refine va_new (ci := 1) (fs := [.null, .int 0, .int 0, .int 0, .int 0, .int 0]) (C := RX1) (T := TX1) (N := 6) C.1 C.2.1 C.2.2.2.2.1 inX1 tyX1 tyX1_ok C.2.2.2.1 (C.2.2.2.2.1 _ hk) (C.2.2.2.2.1 _ kin_1.1) (C.2.2.2.2.1 _ kin_1.2) C.2.2.2.2.2.1 hP hD hS C.2.2.2.2.2.2.1 rfl (fun j hj => ?_) hcap.1 hcap.2 hd (fun q H1 hP hD hS => kk q H1 locs ls hP hD hS hl)
  match j, hj with
  | 0, _ => rfl
  | 1, _ => rfl
  | 2, _ => rfl
  | 3, _ => rfl
  | 4, _ => rfl
  | 5, _ => rfl
  | j + 6, hj => exact absurd hj (by omega)
theorem pr1_0 (C : CX p s m args c cc nL "DoorWalk$Grid" D k A) {index a v : Nat} {fs : List Value} (hnm : meth.name = "<init>") (hk : Cond.fieldLink "DoorWalk$Grid" index "DoorWalk$Grid" "marks" "[I" ∈ TB) (q0 : Nat) (hq : ws[q0]? = some (a, .inr (1, fs))) (hl2 : 0 < fs.length) (hs : ws.set q0 (a, .inr (1, fs.set 0 (.ref v))) = ws') (hd : decode cc pc = .ok (.putfield index, 3)) (kk : WW p l e R s m args below meth c Q nL D A cells slots ws' lv (pc + 3) st) : WW p l e R s m args below meth c Q nL D A cells slots ws lv pc (.ref v :: .ref a :: st) := by
  subst hs
  exact fun H locs ls hP hD hS hl => va_putF (D := D) (ci := 1) (v := .ref v) (ty := tyX1 0) (C := RX1) (T := TX1) (N := 6) C.1 C.2.1 C.2.2.2.2.1 inX1 tyX1 tyX1_ok nmX1 C.2.2.2.1 C.2.2.2.2.2.1 hP hD hS q0 hq rfl 0 (by decide) (C.2.2.2.2.1 _ hk) (fun _ h9 => h9) rfl hnm rfl (by decide +kernel) rfl rfl hl2 hd (fun H1 locs1 hP hD hS => kk H1 locs1 ls hP hD hS hl)
set_option maxRecDepth 100000 in
theorem kin_2 : Cond.instantiable "DoorWalk$History" 3 ∈ TB ∧ Cond.initialized "DoorWalk$History" ∈ TB := ⟨kwt1 166 (by rfl) rfl, kwt1 8 (by rfl) rfl⟩
theorem ww_new2 (C : CX p s m args c cc nL own D k A) {index : Nat} (hk : Cond.classLink own index "DoorWalk$History" ∈ TB) (hcap : cells + 1 ≤ R.cells ∧ slots + 3 ≤ R.slots) (hd : decode cc pc = .ok (.new index, 3)) (kk : ∀ q : Nat, WW p l e R s m args below meth c Q nL D A (cells + 1) (slots + 3) (ws ++ [(q, .inr (2, [.null, .int 0, .int 0]))]) lv (pc + 3) (.ref q :: st)) : WW p l e R s m args below meth c Q nL D A cells slots ws lv pc st := by
  intro H locs ls hP hD hS hl
  refine va_new (ci := 2) (fs := [.null, .int 0, .int 0]) (C := RX2) (T := TX2) (N := 3) C.1 C.2.1 C.2.2.2.2.1 inX2 tyX2 tyX2_ok C.2.2.2.1 (C.2.2.2.2.1 _ hk) (C.2.2.2.2.1 _ kin_2.1) (C.2.2.2.2.1 _ kin_2.2) C.2.2.2.2.2.1 hP hD hS C.2.2.2.2.2.2.1 rfl (fun j hj => ?_) hcap.1 hcap.2 hd (fun q H1 hP hD hS => kk q H1 locs ls hP hD hS hl)
  match j, hj with
  | 0, _ => rfl
  | 1, _ => rfl
  | 2, _ => rfl
  | j + 3, hj => exact absurd hj (by omega)
theorem pr2_0 (C : CX p s m args c cc nL "DoorWalk$History" D k A) {index a v : Nat} {fs : List Value} (hnm : meth.name = "<init>") (hk : Cond.fieldLink "DoorWalk$History" index "DoorWalk$History" "ring" "[LDoorWalk$State;" ∈ TB) (q0 : Nat) (hq : ws[q0]? = some (a, .inr (2, fs))) (hl2 : 0 < fs.length) (hs : ws.set q0 (a, .inr (2, fs.set 0 (.ref v))) = ws') (hd : decode cc pc = .ok (.putfield index, 3)) (kk : WW p l e R s m args below meth c Q nL D A cells slots ws' lv (pc + 3) st) : WW p l e R s m args below meth c Q nL D A cells slots ws lv pc (.ref v :: .ref a :: st) := by
  subst hs
  exact fun H locs ls hP hD hS hl => va_putF (D := D) (ci := 2) (v := .ref v) (ty := tyX2 0) (C := RX2) (T := TX2) (N := 3) C.1 C.2.1 C.2.2.2.2.1 inX2 tyX2 tyX2_ok nmX2 C.2.2.2.1 C.2.2.2.2.2.1 hP hD hS q0 hq rfl 0 (by decide) (C.2.2.2.2.1 _ hk) (fun _ h9 => h9) rfl hnm rfl (by decide +kernel) rfl rfl hl2 hd (fun H1 locs1 hP hD hS => kk H1 locs1 ls hP hD hS hl)
set_option maxRecDepth 100000 in
theorem kin_3 : Cond.instantiable "DoorWalk$Row" 2 ∈ TB ∧ Cond.initialized "DoorWalk$Row" ∈ TB := ⟨kwt1 42 (by rfl) rfl, kwt1 3 (by rfl) rfl⟩
theorem ww_new3 (C : CX p s m args c cc nL own D k A) {index : Nat} (hk : Cond.classLink own index "DoorWalk$Row" ∈ TB) (hcap : cells + 1 ≤ R.cells ∧ slots + 2 ≤ R.slots) (hd : decode cc pc = .ok (.new index, 3)) (kk : ∀ q : Nat, WW p l e R s m args below meth c Q nL D A (cells + 1) (slots + 2) (ws ++ [(q, .inr (3, [.null, .int 0]))]) lv (pc + 3) (.ref q :: st)) : WW p l e R s m args below meth c Q nL D A cells slots ws lv pc st := by
  intro H locs ls hP hD hS hl
  refine va_new (ci := 3) (fs := [.null, .int 0]) (C := RX3) (T := TX3) (N := 2) C.1 C.2.1 C.2.2.2.2.1 inX3 tyX3 tyX3_ok C.2.2.2.1 (C.2.2.2.2.1 _ hk) (C.2.2.2.2.1 _ kin_3.1) (C.2.2.2.2.1 _ kin_3.2) C.2.2.2.2.2.1 hP hD hS C.2.2.2.2.2.2.1 rfl (fun j hj => ?_) hcap.1 hcap.2 hd (fun q H1 hP hD hS => kk q H1 locs ls hP hD hS hl)
  match j, hj with
  | 0, _ => rfl
  | 1, _ => rfl
  | j + 2, hj => exact absurd hj (by omega)
theorem pr3_0 (C : CX p s m args c cc nL "DoorWalk$Row" D k A) {index a v : Nat} {fs : List Value} (hnm : meth.name = "<init>") (hk : Cond.fieldLink "DoorWalk$Row" index "DoorWalk$Row" "numbers" "[J" ∈ TB) (q0 : Nat) (hq : ws[q0]? = some (a, .inr (3, fs))) (hl2 : 0 < fs.length) (hs : ws.set q0 (a, .inr (3, fs.set 0 (.ref v))) = ws') (hd : decode cc pc = .ok (.putfield index, 3)) (kk : WW p l e R s m args below meth c Q nL D A cells slots ws' lv (pc + 3) st) : WW p l e R s m args below meth c Q nL D A cells slots ws lv pc (.ref v :: .ref a :: st) := by
  subst hs
  exact fun H locs ls hP hD hS hl => va_putF (D := D) (ci := 3) (v := .ref v) (ty := tyX3 0) (C := RX3) (T := TX3) (N := 2) C.1 C.2.1 C.2.2.2.2.1 inX3 tyX3 tyX3_ok nmX3 C.2.2.2.1 C.2.2.2.2.2.1 hP hD hS q0 hq rfl 0 (by decide) (C.2.2.2.2.1 _ hk) (fun _ h9 => h9) rfl hnm rfl (by decide +kernel) rfl rfl hl2 hd (fun H1 locs1 hP hD hS => kk H1 locs1 ls hP hD hS hl)
set_option maxRecDepth 100000 in
theorem kin_4 : Cond.instantiable "DoorWalk$Rule" 5 ∈ TB ∧ Cond.initialized "DoorWalk$Rule" ∈ TB := ⟨kwt1 107 (by rfl) rfl, kwt1 6 (by rfl) rfl⟩
theorem ww_new4 (C : CX p s m args c cc nL own D k A) {index : Nat} (hk : Cond.classLink own index "DoorWalk$Rule" ∈ TB) (hcap : cells + 1 ≤ R.cells ∧ slots + 5 ≤ R.slots) (hd : decode cc pc = .ok (.new index, 3)) (kk : ∀ q : Nat, WW p l e R s m args below meth c Q nL D A (cells + 1) (slots + 5) (ws ++ [(q, .inr (4, [.null, .null, .null, .int 0, .int 0]))]) lv (pc + 3) (.ref q :: st)) : WW p l e R s m args below meth c Q nL D A cells slots ws lv pc st := by
  intro H locs ls hP hD hS hl
  refine va_new (ci := 4) (fs := [.null, .null, .null, .int 0, .int 0]) (C := RX4) (T := TX4) (N := 5) C.1 C.2.1 C.2.2.2.2.1 inX4 tyX4 tyX4_ok C.2.2.2.1 (C.2.2.2.2.1 _ hk) (C.2.2.2.2.1 _ kin_4.1) (C.2.2.2.2.1 _ kin_4.2) C.2.2.2.2.2.1 hP hD hS C.2.2.2.2.2.2.1 rfl (fun j hj => ?_) hcap.1 hcap.2 hd (fun q H1 hP hD hS => kk q H1 locs ls hP hD hS hl)
  match j, hj with
  | 0, _ => rfl
  | 1, _ => rfl
  | 2, _ => rfl
  | 3, _ => rfl
  | 4, _ => rfl
  | j + 5, hj => exact absurd hj (by omega)
theorem pr4_0 (C : CX p s m args c cc nL "DoorWalk$Rule" D k A) {index a v : Nat} {fs : List Value} (hnm : meth.name = "<init>") (hk : Cond.fieldLink "DoorWalk$Rule" index "DoorWalk$Rule" "owned" "[I" ∈ TB) (q0 : Nat) (hq : ws[q0]? = some (a, .inr (4, fs))) (hl2 : 0 < fs.length) (hs : ws.set q0 (a, .inr (4, fs.set 0 (.ref v))) = ws') (hd : decode cc pc = .ok (.putfield index, 3)) (kk : WW p l e R s m args below meth c Q nL D A cells slots ws' lv (pc + 3) st) : WW p l e R s m args below meth c Q nL D A cells slots ws lv pc (.ref v :: .ref a :: st) := by
  subst hs
  exact fun H locs ls hP hD hS hl => va_putF (D := D) (ci := 4) (v := .ref v) (ty := tyX4 0) (C := RX4) (T := TX4) (N := 5) C.1 C.2.1 C.2.2.2.2.1 inX4 tyX4 tyX4_ok nmX4 C.2.2.2.1 C.2.2.2.2.2.1 hP hD hS q0 hq rfl 0 (by decide) (C.2.2.2.2.1 _ hk) (fun _ h9 => h9) rfl hnm rfl (by decide +kernel) rfl rfl hl2 hd (fun H1 locs1 hP hD hS => kk H1 locs1 ls hP hD hS hl)
theorem pr4_1 (C : CX p s m args c cc nL "DoorWalk$Rule" D k A) {index a v : Nat} {fs : List Value} (hnm : meth.name = "<init>") (hk : Cond.fieldLink "DoorWalk$Rule" index "DoorWalk$Rule" "wished" "[I" ∈ TB) (q0 : Nat) (hq : ws[q0]? = some (a, .inr (4, fs))) (hl2 : 1 < fs.length) (hs : ws.set q0 (a, .inr (4, fs.set 1 (.ref v))) = ws') (hd : decode cc pc = .ok (.putfield index, 3)) (kk : WW p l e R s m args below meth c Q nL D A cells slots ws' lv (pc + 3) st) : WW p l e R s m args below meth c Q nL D A cells slots ws lv pc (.ref v :: .ref a :: st) := by
  subst hs
  exact fun H locs ls hP hD hS hl => va_putF (D := D) (ci := 4) (v := .ref v) (ty := tyX4 1) (C := RX4) (T := TX4) (N := 5) C.1 C.2.1 C.2.2.2.2.1 inX4 tyX4 tyX4_ok nmX4 C.2.2.2.1 C.2.2.2.2.2.1 hP hD hS q0 hq rfl 1 (by decide) (C.2.2.2.2.1 _ hk) (fun _ h9 => h9) rfl hnm rfl (by decide +kernel) rfl rfl hl2 hd (fun H1 locs1 hP hD hS => kk H1 locs1 ls hP hD hS hl)
theorem pr4_2 (C : CX p s m args c cc nL "DoorWalk$Rule" D k A) {index a v : Nat} {fs : List Value} (hnm : meth.name = "<init>") (hk : Cond.fieldLink "DoorWalk$Rule" index "DoorWalk$Rule" "pulls" "[J" ∈ TB) (q0 : Nat) (hq : ws[q0]? = some (a, .inr (4, fs))) (hl2 : 2 < fs.length) (hs : ws.set q0 (a, .inr (4, fs.set 2 (.ref v))) = ws') (hd : decode cc pc = .ok (.putfield index, 3)) (kk : WW p l e R s m args below meth c Q nL D A cells slots ws' lv (pc + 3) st) : WW p l e R s m args below meth c Q nL D A cells slots ws lv pc (.ref v :: .ref a :: st) := by
  subst hs
  exact fun H locs ls hP hD hS hl => va_putF (D := D) (ci := 4) (v := .ref v) (ty := tyX4 2) (C := RX4) (T := TX4) (N := 5) C.1 C.2.1 C.2.2.2.2.1 inX4 tyX4 tyX4_ok nmX4 C.2.2.2.1 C.2.2.2.2.2.1 hP hD hS q0 hq rfl 2 (by decide) (C.2.2.2.2.1 _ hk) (fun _ h9 => h9) rfl hnm rfl (by decide +kernel) rfl rfl hl2 hd (fun H1 locs1 hP hD hS => kk H1 locs1 ls hP hD hS hl)
set_option maxRecDepth 100000 in
theorem kin_5 : Cond.instantiable "DoorWalk$State" 2 ∈ TB ∧ Cond.initialized "DoorWalk$State" ∈ TB := ⟨kwt1 57 (by rfl) rfl, kwt1 4 (by rfl) rfl⟩
theorem ww_new5 (C : CX p s m args c cc nL own D k A) {index : Nat} (hk : Cond.classLink own index "DoorWalk$State" ∈ TB) (hcap : cells + 1 ≤ R.cells ∧ slots + 2 ≤ R.slots) (hd : decode cc pc = .ok (.new index, 3)) (kk : ∀ q : Nat, WW p l e R s m args below meth c Q nL D A (cells + 1) (slots + 2) (ws ++ [(q, .inr (5, [.null, .null]))]) lv (pc + 3) (.ref q :: st)) : WW p l e R s m args below meth c Q nL D A cells slots ws lv pc st := by
  intro H locs ls hP hD hS hl
  refine va_new (ci := 5) (fs := [.null, .null]) (C := RX5) (T := TX5) (N := 2) C.1 C.2.1 C.2.2.2.2.1 inX5 tyX5 tyX5_ok C.2.2.2.1 (C.2.2.2.2.1 _ hk) (C.2.2.2.2.1 _ kin_5.1) (C.2.2.2.2.1 _ kin_5.2) C.2.2.2.2.2.1 hP hD hS C.2.2.2.2.2.2.1 rfl (fun j hj => ?_) hcap.1 hcap.2 hd (fun q H1 hP hD hS => kk q H1 locs ls hP hD hS hl)
  match j, hj with
  | 0, _ => rfl
  | 1, _ => rfl
  | j + 2, hj => exact absurd hj (by omega)
theorem pr5_0 (C : CX p s m args c cc nL "DoorWalk$State" D k A) {index a v : Nat} {fs : List Value} (hnm : meth.name = "<init>") (hk : Cond.fieldLink "DoorWalk$State" index "DoorWalk$State" "grid" "LDoorWalk$Grid;" ∈ TB) (q0 : Nat) (hq : ws[q0]? = some (a, .inr (5, fs))) (hl2 : 0 < fs.length) (hs : ws.set q0 (a, .inr (5, fs.set 0 (.ref v))) = ws') (hd : decode cc pc = .ok (.putfield index, 3)) (kk : WW p l e R s m args below meth c Q nL D A cells slots ws' lv (pc + 3) st) : WW p l e R s m args below meth c Q nL D A cells slots ws lv pc (.ref v :: .ref a :: st) := by
  subst hs
  exact fun H locs ls hP hD hS hl => va_putF (D := D) (ci := 5) (v := .ref v) (ty := tyX5 0) (C := RX5) (T := TX5) (N := 2) C.1 C.2.1 C.2.2.2.2.1 inX5 tyX5 tyX5_ok nmX5 C.2.2.2.1 C.2.2.2.2.2.1 hP hD hS q0 hq rfl 0 (by decide) (C.2.2.2.2.1 _ hk) (fun _ h9 => h9) rfl hnm rfl (by decide +kernel) rfl rfl hl2 hd (fun H1 locs1 hP hD hS => kk H1 locs1 ls hP hD hS hl)
theorem pr5_1 (C : CX p s m args c cc nL "DoorWalk$State" D k A) {index a v : Nat} {fs : List Value} (hnm : meth.name = "<init>") (hk : Cond.fieldLink "DoorWalk$State" index "DoorWalk$State" "rule" "LDoorWalk$Rule;" ∈ TB) (q0 : Nat) (hq : ws[q0]? = some (a, .inr (5, fs))) (hl2 : 1 < fs.length) (hs : ws.set q0 (a, .inr (5, fs.set 1 (.ref v))) = ws') (hd : decode cc pc = .ok (.putfield index, 3)) (kk : WW p l e R s m args below meth c Q nL D A cells slots ws' lv (pc + 3) st) : WW p l e R s m args below meth c Q nL D A cells slots ws lv pc (.ref v :: .ref a :: st) := by
  subst hs
  exact fun H locs ls hP hD hS hl => va_putF (D := D) (ci := 5) (v := .ref v) (ty := tyX5 1) (C := RX5) (T := TX5) (N := 2) C.1 C.2.1 C.2.2.2.2.1 inX5 tyX5 tyX5_ok nmX5 C.2.2.2.1 C.2.2.2.2.2.1 hP hD hS q0 hq rfl 1 (by decide) (C.2.2.2.2.1 _ hk) (fun _ h9 => h9) rfl hnm rfl (by decide +kernel) rfl rfl hl2 hd (fun H1 locs1 hP hD hS => kk H1 locs1 ls hP hD hS hl)
set_option maxRecDepth 100000 in
theorem kin_6 : Cond.instantiable "DoorWalk$Text" 2 ∈ TB ∧ Cond.initialized "DoorWalk$Text" ∈ TB := ⟨kwt1 27 (by rfl) rfl, kwt1 2 (by rfl) rfl⟩
theorem ww_new6 (C : CX p s m args c cc nL own D k A) {index : Nat} (hk : Cond.classLink own index "DoorWalk$Text" ∈ TB) (hcap : cells + 1 ≤ R.cells ∧ slots + 2 ≤ R.slots) (hd : decode cc pc = .ok (.new index, 3)) (kk : ∀ q : Nat, WW p l e R s m args below meth c Q nL D A (cells + 1) (slots + 2) (ws ++ [(q, .inr (6, [.null, .int 0]))]) lv (pc + 3) (.ref q :: st)) : WW p l e R s m args below meth c Q nL D A cells slots ws lv pc st := by
  intro H locs ls hP hD hS hl
  refine va_new (ci := 6) (fs := [.null, .int 0]) (C := RX6) (T := TX6) (N := 2) C.1 C.2.1 C.2.2.2.2.1 inX6 tyX6 tyX6_ok C.2.2.2.1 (C.2.2.2.2.1 _ hk) (C.2.2.2.2.1 _ kin_6.1) (C.2.2.2.2.1 _ kin_6.2) C.2.2.2.2.2.1 hP hD hS C.2.2.2.2.2.2.1 rfl (fun j hj => ?_) hcap.1 hcap.2 hd (fun q H1 hP hD hS => kk q H1 locs ls hP hD hS hl)
  match j, hj with
  | 0, _ => rfl
  | 1, _ => rfl
  | j + 2, hj => exact absurd hj (by omega)
theorem pr6_0 (C : CX p s m args c cc nL "DoorWalk$Text" D k A) {index a v : Nat} {fs : List Value} (hnm : meth.name = "<init>") (hk : Cond.fieldLink "DoorWalk$Text" index "DoorWalk$Text" "signs" "[I" ∈ TB) (q0 : Nat) (hq : ws[q0]? = some (a, .inr (6, fs))) (hl2 : 0 < fs.length) (hs : ws.set q0 (a, .inr (6, fs.set 0 (.ref v))) = ws') (hd : decode cc pc = .ok (.putfield index, 3)) (kk : WW p l e R s m args below meth c Q nL D A cells slots ws' lv (pc + 3) st) : WW p l e R s m args below meth c Q nL D A cells slots ws lv pc (.ref v :: .ref a :: st) := by
  subst hs
  exact fun H locs ls hP hD hS hl => va_putF (D := D) (ci := 6) (v := .ref v) (ty := tyX6 0) (C := RX6) (T := TX6) (N := 2) C.1 C.2.1 C.2.2.2.2.1 inX6 tyX6 tyX6_ok nmX6 C.2.2.2.1 C.2.2.2.2.2.1 hP hD hS q0 hq rfl 0 (by decide) (C.2.2.2.2.1 _ hk) (fun _ h9 => h9) rfl hnm rfl (by decide +kernel) rfl rfl hl2 hd (fun H1 locs1 hP hD hS => kk H1 locs1 ls hP hD hS hl)
set_option maxRecDepth 100000 in
theorem kin_7 : Cond.instantiable "DoorWalk" 7 ∈ TB ∧ Cond.initialized "DoorWalk" ∈ TB := ⟨kwt1 19 (by rfl) rfl, kwt1 1 (by rfl) rfl⟩
theorem ww_new7 (C : CX p s m args c cc nL own D k A) {index : Nat} (hk : Cond.classLink own index "DoorWalk" ∈ TB) (hcap : cells + 1 ≤ R.cells ∧ slots + 7 ≤ R.slots) (hd : decode cc pc = .ok (.new index, 3)) (kk : ∀ q : Nat, WW p l e R s m args below meth c Q nL D A (cells + 1) (slots + 7) (ws ++ [(q, .inr (7, [.null, .null, .null, .null, .null, .null, .null]))]) lv (pc + 3) (.ref q :: st)) : WW p l e R s m args below meth c Q nL D A cells slots ws lv pc st := by
  intro H locs ls hP hD hS hl
  refine va_new (ci := 7) (fs := [.null, .null, .null, .null, .null, .null, .null]) (C := RX7) (T := TX7) (N := 7) C.1 C.2.1 C.2.2.2.2.1 inX7 tyX7 tyX7_ok C.2.2.2.1 (C.2.2.2.2.1 _ hk) (C.2.2.2.2.1 _ kin_7.1) (C.2.2.2.2.1 _ kin_7.2) C.2.2.2.2.2.1 hP hD hS C.2.2.2.2.2.2.1 rfl (fun j hj => ?_) hcap.1 hcap.2 hd (fun q H1 hP hD hS => kk q H1 locs ls hP hD hS hl)
  match j, hj with
  | 0, _ => rfl
  | 1, _ => rfl
  | 2, _ => rfl
  | 3, _ => rfl
  | 4, _ => rfl
  | 5, _ => rfl
  | 6, _ => rfl
  | j + 7, hj => exact absurd hj (by omega)
theorem pr7_0 (C : CX p s m args c cc nL "DoorWalk" D k A) {index a v : Nat} {fs : List Value} (hnm : meth.name = "<init>") (hk : Cond.fieldLink "DoorWalk" index "DoorWalk" "text" "LDoorWalk$Text;" ∈ TB) (q0 : Nat) (hq : ws[q0]? = some (a, .inr (7, fs))) (hl2 : 0 < fs.length) (hs : ws.set q0 (a, .inr (7, fs.set 0 (.ref v))) = ws') (hd : decode cc pc = .ok (.putfield index, 3)) (kk : WW p l e R s m args below meth c Q nL D A cells slots ws' lv (pc + 3) st) : WW p l e R s m args below meth c Q nL D A cells slots ws lv pc (.ref v :: .ref a :: st) := by
  subst hs
  exact fun H locs ls hP hD hS hl => va_putF (D := D) (ci := 7) (v := .ref v) (ty := tyX7 0) (C := RX7) (T := TX7) (N := 7) C.1 C.2.1 C.2.2.2.2.1 inX7 tyX7 tyX7_ok nmX7 C.2.2.2.1 C.2.2.2.2.2.1 hP hD hS q0 hq rfl 0 (by decide) (C.2.2.2.2.1 _ hk) (fun _ h9 => h9) rfl hnm rfl (by decide +kernel) rfl rfl hl2 hd (fun H1 locs1 hP hD hS => kk H1 locs1 ls hP hD hS hl)
theorem pr7_1 (C : CX p s m args c cc nL "DoorWalk" D k A) {index a v : Nat} {fs : List Value} (hnm : meth.name = "<init>") (hk : Cond.fieldLink "DoorWalk" index "DoorWalk" "row" "LDoorWalk$Row;" ∈ TB) (q0 : Nat) (hq : ws[q0]? = some (a, .inr (7, fs))) (hl2 : 1 < fs.length) (hs : ws.set q0 (a, .inr (7, fs.set 1 (.ref v))) = ws') (hd : decode cc pc = .ok (.putfield index, 3)) (kk : WW p l e R s m args below meth c Q nL D A cells slots ws' lv (pc + 3) st) : WW p l e R s m args below meth c Q nL D A cells slots ws lv pc (.ref v :: .ref a :: st) := by
  subst hs
  exact fun H locs ls hP hD hS hl => va_putF (D := D) (ci := 7) (v := .ref v) (ty := tyX7 1) (C := RX7) (T := TX7) (N := 7) C.1 C.2.1 C.2.2.2.2.1 inX7 tyX7 tyX7_ok nmX7 C.2.2.2.1 C.2.2.2.2.2.1 hP hD hS q0 hq rfl 1 (by decide) (C.2.2.2.2.1 _ hk) (fun _ h9 => h9) rfl hnm rfl (by decide +kernel) rfl rfl hl2 hd (fun H1 locs1 hP hD hS => kk H1 locs1 ls hP hD hS hl)
theorem pr7_2 (C : CX p s m args c cc nL "DoorWalk" D k A) {index a v : Nat} {fs : List Value} (hnm : meth.name = "<init>") (hk : Cond.fieldLink "DoorWalk" index "DoorWalk" "now" "LDoorWalk$State;" ∈ TB) (q0 : Nat) (hq : ws[q0]? = some (a, .inr (7, fs))) (hl2 : 2 < fs.length) (hs : ws.set q0 (a, .inr (7, fs.set 2 (.ref v))) = ws') (hd : decode cc pc = .ok (.putfield index, 3)) (kk : WW p l e R s m args below meth c Q nL D A cells slots ws' lv (pc + 3) st) : WW p l e R s m args below meth c Q nL D A cells slots ws lv pc (.ref v :: .ref a :: st) := by
  subst hs
  exact fun H locs ls hP hD hS hl => va_putF (D := D) (ci := 7) (v := .ref v) (ty := tyX7 2) (C := RX7) (T := TX7) (N := 7) C.1 C.2.1 C.2.2.2.2.1 inX7 tyX7 tyX7_ok nmX7 C.2.2.2.1 C.2.2.2.2.2.1 hP hD hS q0 hq rfl 2 (by decide) (C.2.2.2.2.1 _ hk) (fun _ h9 => h9) rfl hnm rfl (by decide +kernel) rfl rfl hl2 hd (fun H1 locs1 hP hD hS => kk H1 locs1 ls hP hD hS hl)
theorem pr7_3 (C : CX p s m args c cc nL "DoorWalk" D k A) {index a v : Nat} {fs : List Value} (hnm : meth.name = "<init>") (hk : Cond.fieldLink "DoorWalk" index "DoorWalk" "trial" "LDoorWalk$Grid;" ∈ TB) (q0 : Nat) (hq : ws[q0]? = some (a, .inr (7, fs))) (hl2 : 3 < fs.length) (hs : ws.set q0 (a, .inr (7, fs.set 3 (.ref v))) = ws') (hd : decode cc pc = .ok (.putfield index, 3)) (kk : WW p l e R s m args below meth c Q nL D A cells slots ws' lv (pc + 3) st) : WW p l e R s m args below meth c Q nL D A cells slots ws lv pc (.ref v :: .ref a :: st) := by
  subst hs
  exact fun H locs ls hP hD hS hl => va_putF (D := D) (ci := 7) (v := .ref v) (ty := tyX7 3) (C := RX7) (T := TX7) (N := 7) C.1 C.2.1 C.2.2.2.2.1 inX7 tyX7 tyX7_ok nmX7 C.2.2.2.1 C.2.2.2.2.2.1 hP hD hS q0 hq rfl 3 (by decide) (C.2.2.2.2.1 _ hk) (fun _ h9 => h9) rfl hnm rfl (by decide +kernel) rfl rfl hl2 hd (fun H1 locs1 hP hD hS => kk H1 locs1 ls hP hD hS hl)
theorem pr7_4 (C : CX p s m args c cc nL "DoorWalk" D k A) {index a v : Nat} {fs : List Value} (hnm : meth.name = "<init>") (hk : Cond.fieldLink "DoorWalk" index "DoorWalk" "doors" "LDoorWalk$Doors;" ∈ TB) (q0 : Nat) (hq : ws[q0]? = some (a, .inr (7, fs))) (hl2 : 4 < fs.length) (hs : ws.set q0 (a, .inr (7, fs.set 4 (.ref v))) = ws') (hd : decode cc pc = .ok (.putfield index, 3)) (kk : WW p l e R s m args below meth c Q nL D A cells slots ws' lv (pc + 3) st) : WW p l e R s m args below meth c Q nL D A cells slots ws lv pc (.ref v :: .ref a :: st) := by
  subst hs
  exact fun H locs ls hP hD hS hl => va_putF (D := D) (ci := 7) (v := .ref v) (ty := tyX7 4) (C := RX7) (T := TX7) (N := 7) C.1 C.2.1 C.2.2.2.2.1 inX7 tyX7 tyX7_ok nmX7 C.2.2.2.1 C.2.2.2.2.2.1 hP hD hS q0 hq rfl 4 (by decide) (C.2.2.2.2.1 _ hk) (fun _ h9 => h9) rfl hnm rfl (by decide +kernel) rfl rfl hl2 hd (fun H1 locs1 hP hD hS => kk H1 locs1 ls hP hD hS hl)
theorem pr7_5 (C : CX p s m args c cc nL "DoorWalk" D k A) {index a v : Nat} {fs : List Value} (hnm : meth.name = "<init>") (hk : Cond.fieldLink "DoorWalk" index "DoorWalk" "history" "LDoorWalk$History;" ∈ TB) (q0 : Nat) (hq : ws[q0]? = some (a, .inr (7, fs))) (hl2 : 5 < fs.length) (hs : ws.set q0 (a, .inr (7, fs.set 5 (.ref v))) = ws') (hd : decode cc pc = .ok (.putfield index, 3)) (kk : WW p l e R s m args below meth c Q nL D A cells slots ws' lv (pc + 3) st) : WW p l e R s m args below meth c Q nL D A cells slots ws lv pc (.ref v :: .ref a :: st) := by
  subst hs
  exact fun H locs ls hP hD hS hl => va_putF (D := D) (ci := 7) (v := .ref v) (ty := tyX7 5) (C := RX7) (T := TX7) (N := 7) C.1 C.2.1 C.2.2.2.2.1 inX7 tyX7 tyX7_ok nmX7 C.2.2.2.1 C.2.2.2.2.2.1 hP hD hS q0 hq rfl 5 (by decide) (C.2.2.2.2.1 _ hk) (fun _ h9 => h9) rfl hnm rfl (by decide +kernel) rfl rfl hl2 hd (fun H1 locs1 hP hD hS => kk H1 locs1 ls hP hD hS hl)
theorem pr7_6 (C : CX p s m args c cc nL "DoorWalk" D k A) {index a v : Nat} {fs : List Value} (hnm : meth.name = "<init>") (hk : Cond.fieldLink "DoorWalk" index "DoorWalk" "kept" "[LDoorWalk$State;" ∈ TB) (q0 : Nat) (hq : ws[q0]? = some (a, .inr (7, fs))) (hl2 : 6 < fs.length) (hs : ws.set q0 (a, .inr (7, fs.set 6 (.ref v))) = ws') (hd : decode cc pc = .ok (.putfield index, 3)) (kk : WW p l e R s m args below meth c Q nL D A cells slots ws' lv (pc + 3) st) : WW p l e R s m args below meth c Q nL D A cells slots ws lv pc (.ref v :: .ref a :: st) := by
  subst hs
  exact fun H locs ls hP hD hS hl => va_putF (D := D) (ci := 7) (v := .ref v) (ty := tyX7 6) (C := RX7) (T := TX7) (N := 7) C.1 C.2.1 C.2.2.2.2.1 inX7 tyX7 tyX7_ok nmX7 C.2.2.2.1 C.2.2.2.2.2.1 hP hD hS q0 hq rfl 6 (by decide) (C.2.2.2.2.1 _ hk) (fun _ h9 => h9) rfl hnm rfl (by decide +kernel) rfl rfl hl2 hd (fun H1 locs1 hP hD hS => kk H1 locs1 ls hP hD hS hl)
set_option maxRecDepth 100000 in
theorem kin_8 : Cond.instantiable "DoorWalkModel" 26 ∈ TB ∧ Cond.initialized "DoorWalkModel" ∈ TB := ⟨kwt4 230 (by rfl) rfl, kwt1 9 (by rfl) rfl⟩
theorem ww_new8 (C : CX p s m args c cc nL own D k A) {index : Nat} (hk : Cond.classLink own index "DoorWalkModel" ∈ TB) (hcap : cells + 1 ≤ R.cells ∧ slots + 26 ≤ R.slots) (hd : decode cc pc = .ok (.new index, 3)) (kk : ∀ q : Nat, WW p l e R s m args below meth c Q nL D A (cells + 1) (slots + 26) (ws ++ [(q, .inr (8, [.null, .null, .int 0, .null, .int 0, .int 0, .int 0, .int 0, .int 0, .null, .null, .null, .int 0, .null, .int 0, .int 0, .null, .null, .null, .null, .null, .null, .int 0, .int 0, .null, .null]))]) lv (pc + 3) (.ref q :: st)) : WW p l e R s m args below meth c Q nL D A cells slots ws lv pc st := by
  intro H locs ls hP hD hS hl
  refine va_new (ci := 8) (fs := [.null, .null, .int 0, .null, .int 0, .int 0, .int 0, .int 0, .int 0, .null, .null, .null, .int 0, .null, .int 0, .int 0, .null, .null, .null, .null, .null, .null, .int 0, .int 0, .null, .null]) (C := RX8) (T := TX8) (N := 26) C.1 C.2.1 C.2.2.2.2.1 inX8 tyX8 tyX8_ok C.2.2.2.1 (C.2.2.2.2.1 _ hk) (C.2.2.2.2.1 _ kin_8.1) (C.2.2.2.2.1 _ kin_8.2) C.2.2.2.2.2.1 hP hD hS C.2.2.2.2.2.2.1 rfl (fun j hj => ?_) hcap.1 hcap.2 hd (fun q H1 hP hD hS => kk q H1 locs ls hP hD hS hl)
  match j, hj with
  | 0, _ => rfl
  | 1, _ => rfl
  | 2, _ => rfl
  | 3, _ => rfl
  | 4, _ => rfl
  | 5, _ => rfl
  | 6, _ => rfl
  | 7, _ => rfl
  | 8, _ => rfl
  | 9, _ => rfl
  | 10, _ => rfl
  | 11, _ => rfl
  | 12, _ => rfl
  | 13, _ => rfl
  | 14, _ => rfl
  | 15, _ => rfl
  | 16, _ => rfl
  | 17, _ => rfl
  | 18, _ => rfl
  | 19, _ => rfl
  | 20, _ => rfl
  | 21, _ => rfl
  | 22, _ => rfl
  | 23, _ => rfl
  | 24, _ => rfl
  | 25, _ => rfl
  | j + 26, hj => exact absurd hj (by omega)
theorem pr8_0 (C : CX p s m args c cc nL "DoorWalkModel" D k A) {index a v : Nat} {fs : List Value} (hnm : meth.name = "<init>") (hk : Cond.fieldLink "DoorWalkModel" index "DoorWalkModel" "now" "[I" ∈ TB) (q0 : Nat) (hq : ws[q0]? = some (a, .inr (8, fs))) (hl2 : 0 < fs.length) (hs : ws.set q0 (a, .inr (8, fs.set 0 (.ref v))) = ws') (hd : decode cc pc = .ok (.putfield index, 3)) (kk : WW p l e R s m args below meth c Q nL D A cells slots ws' lv (pc + 3) st) : WW p l e R s m args below meth c Q nL D A cells slots ws lv pc (.ref v :: .ref a :: st) := by
  subst hs
  exact fun H locs ls hP hD hS hl => va_putF (D := D) (ci := 8) (v := .ref v) (ty := tyX8 0) (C := RX8) (T := TX8) (N := 26) C.1 C.2.1 C.2.2.2.2.1 inX8 tyX8 tyX8_ok nmX8 C.2.2.2.1 C.2.2.2.2.2.1 hP hD hS q0 hq rfl 0 (by decide) (C.2.2.2.2.1 _ hk) (fun _ h9 => h9) rfl hnm rfl (by decide +kernel) rfl rfl hl2 hd (fun H1 locs1 hP hD hS => kk H1 locs1 ls hP hD hS hl)
theorem pr8_1 (C : CX p s m args c cc nL "DoorWalkModel" D k A) {index a v : Nat} {fs : List Value} (hnm : meth.name = "<init>") (hk : Cond.fieldLink "DoorWalkModel" index "DoorWalkModel" "text" "[B" ∈ TB) (q0 : Nat) (hq : ws[q0]? = some (a, .inr (8, fs))) (hl2 : 1 < fs.length) (hs : ws.set q0 (a, .inr (8, fs.set 1 (.ref v))) = ws') (hd : decode cc pc = .ok (.putfield index, 3)) (kk : WW p l e R s m args below meth c Q nL D A cells slots ws' lv (pc + 3) st) : WW p l e R s m args below meth c Q nL D A cells slots ws lv pc (.ref v :: .ref a :: st) := by
  subst hs
  exact fun H locs ls hP hD hS hl => va_putF (D := D) (ci := 8) (v := .ref v) (ty := tyX8 1) (C := RX8) (T := TX8) (N := 26) C.1 C.2.1 C.2.2.2.2.1 inX8 tyX8 tyX8_ok nmX8 C.2.2.2.1 C.2.2.2.2.2.1 hP hD hS q0 hq rfl 1 (by decide) (C.2.2.2.2.1 _ hk) (fun _ h9 => h9) rfl hnm rfl (by decide +kernel) rfl rfl hl2 hd (fun H1 locs1 hP hD hS => kk H1 locs1 ls hP hD hS hl)
theorem pr8_3 (C : CX p s m args c cc nL "DoorWalkModel" D k A) {index a v : Nat} {fs : List Value} (hnm : meth.name = "<init>") (hk : Cond.fieldLink "DoorWalkModel" index "DoorWalkModel" "row" "[J" ∈ TB) (q0 : Nat) (hq : ws[q0]? = some (a, .inr (8, fs))) (hl2 : 3 < fs.length) (hs : ws.set q0 (a, .inr (8, fs.set 3 (.ref v))) = ws') (hd : decode cc pc = .ok (.putfield index, 3)) (kk : WW p l e R s m args below meth c Q nL D A cells slots ws' lv (pc + 3) st) : WW p l e R s m args below meth c Q nL D A cells slots ws lv pc (.ref v :: .ref a :: st) := by
  subst hs
  exact fun H locs ls hP hD hS hl => va_putF (D := D) (ci := 8) (v := .ref v) (ty := tyX8 3) (C := RX8) (T := TX8) (N := 26) C.1 C.2.1 C.2.2.2.2.1 inX8 tyX8 tyX8_ok nmX8 C.2.2.2.1 C.2.2.2.2.2.1 hP hD hS q0 hq rfl 3 (by decide) (C.2.2.2.2.1 _ hk) (fun _ h9 => h9) rfl hnm rfl (by decide +kernel) rfl rfl hl2 hd (fun H1 locs1 hP hD hS => kk H1 locs1 ls hP hD hS hl)
theorem pr8_9 (C : CX p s m args c cc nL "DoorWalkModel" D k A) {index a v : Nat} {fs : List Value} (hnm : meth.name = "<init>") (hk : Cond.fieldLink "DoorWalkModel" index "DoorWalkModel" "read" "[I" ∈ TB) (q0 : Nat) (hq : ws[q0]? = some (a, .inr (8, fs))) (hl2 : 9 < fs.length) (hs : ws.set q0 (a, .inr (8, fs.set 9 (.ref v))) = ws') (hd : decode cc pc = .ok (.putfield index, 3)) (kk : WW p l e R s m args below meth c Q nL D A cells slots ws' lv (pc + 3) st) : WW p l e R s m args below meth c Q nL D A cells slots ws lv pc (.ref v :: .ref a :: st) := by
  subst hs
  exact fun H locs ls hP hD hS hl => va_putF (D := D) (ci := 8) (v := .ref v) (ty := tyX8 9) (C := RX8) (T := TX8) (N := 26) C.1 C.2.1 C.2.2.2.2.1 inX8 tyX8 tyX8_ok nmX8 C.2.2.2.1 C.2.2.2.2.2.1 hP hD hS q0 hq rfl 9 (by decide) (C.2.2.2.2.1 _ hk) (fun _ h9 => h9) rfl hnm rfl (by decide +kernel) rfl rfl hl2 hd (fun H1 locs1 hP hD hS => kk H1 locs1 ls hP hD hS hl)
theorem pr8_10 (C : CX p s m args c cc nL "DoorWalkModel" D k A) {index a v : Nat} {fs : List Value} (hnm : meth.name = "<init>") (hk : Cond.fieldLink "DoorWalkModel" index "DoorWalkModel" "outerCell" "[I" ∈ TB) (q0 : Nat) (hq : ws[q0]? = some (a, .inr (8, fs))) (hl2 : 10 < fs.length) (hs : ws.set q0 (a, .inr (8, fs.set 10 (.ref v))) = ws') (hd : decode cc pc = .ok (.putfield index, 3)) (kk : WW p l e R s m args below meth c Q nL D A cells slots ws' lv (pc + 3) st) : WW p l e R s m args below meth c Q nL D A cells slots ws lv pc (.ref v :: .ref a :: st) := by
  subst hs
  exact fun H locs ls hP hD hS hl => va_putF (D := D) (ci := 8) (v := .ref v) (ty := tyX8 10) (C := RX8) (T := TX8) (N := 26) C.1 C.2.1 C.2.2.2.2.1 inX8 tyX8 tyX8_ok nmX8 C.2.2.2.1 C.2.2.2.2.2.1 hP hD hS q0 hq rfl 10 (by decide) (C.2.2.2.2.1 _ hk) (fun _ h9 => h9) rfl hnm rfl (by decide +kernel) rfl rfl hl2 hd (fun H1 locs1 hP hD hS => kk H1 locs1 ls hP hD hS hl)
theorem pr8_11 (C : CX p s m args c cc nL "DoorWalkModel" D k A) {index a v : Nat} {fs : List Value} (hnm : meth.name = "<init>") (hk : Cond.fieldLink "DoorWalkModel" index "DoorWalkModel" "outerDoor" "[I" ∈ TB) (q0 : Nat) (hq : ws[q0]? = some (a, .inr (8, fs))) (hl2 : 11 < fs.length) (hs : ws.set q0 (a, .inr (8, fs.set 11 (.ref v))) = ws') (hd : decode cc pc = .ok (.putfield index, 3)) (kk : WW p l e R s m args below meth c Q nL D A cells slots ws' lv (pc + 3) st) : WW p l e R s m args below meth c Q nL D A cells slots ws lv pc (.ref v :: .ref a :: st) := by
  subst hs
  exact fun H locs ls hP hD hS hl => va_putF (D := D) (ci := 8) (v := .ref v) (ty := tyX8 11) (C := RX8) (T := TX8) (N := 26) C.1 C.2.1 C.2.2.2.2.1 inX8 tyX8 tyX8_ok nmX8 C.2.2.2.1 C.2.2.2.2.2.1 hP hD hS q0 hq rfl 11 (by decide) (C.2.2.2.2.1 _ hk) (fun _ h9 => h9) rfl hnm rfl (by decide +kernel) rfl rfl hl2 hd (fun H1 locs1 hP hD hS => kk H1 locs1 ls hP hD hS hl)
theorem pr8_13 (C : CX p s m args c cc nL "DoorWalkModel" D k A) {index a v : Nat} {fs : List Value} (hnm : meth.name = "<init>") (hk : Cond.fieldLink "DoorWalkModel" index "DoorWalkModel" "walked" "[I" ∈ TB) (q0 : Nat) (hq : ws[q0]? = some (a, .inr (8, fs))) (hl2 : 13 < fs.length) (hs : ws.set q0 (a, .inr (8, fs.set 13 (.ref v))) = ws') (hd : decode cc pc = .ok (.putfield index, 3)) (kk : WW p l e R s m args below meth c Q nL D A cells slots ws' lv (pc + 3) st) : WW p l e R s m args below meth c Q nL D A cells slots ws lv pc (.ref v :: .ref a :: st) := by
  subst hs
  exact fun H locs ls hP hD hS hl => va_putF (D := D) (ci := 8) (v := .ref v) (ty := tyX8 13) (C := RX8) (T := TX8) (N := 26) C.1 C.2.1 C.2.2.2.2.1 inX8 tyX8 tyX8_ok nmX8 C.2.2.2.1 C.2.2.2.2.2.1 hP hD hS q0 hq rfl 13 (by decide) (C.2.2.2.2.1 _ hk) (fun _ h9 => h9) rfl hnm rfl (by decide +kernel) rfl rfl hl2 hd (fun H1 locs1 hP hD hS => kk H1 locs1 ls hP hD hS hl)
theorem pr8_16 (C : CX p s m args c cc nL "DoorWalkModel" D k A) {index a v : Nat} {fs : List Value} (hnm : meth.name = "<init>") (hk : Cond.fieldLink "DoorWalkModel" index "DoorWalkModel" "onWalks" "[I" ∈ TB) (q0 : Nat) (hq : ws[q0]? = some (a, .inr (8, fs))) (hl2 : 16 < fs.length) (hs : ws.set q0 (a, .inr (8, fs.set 16 (.ref v))) = ws') (hd : decode cc pc = .ok (.putfield index, 3)) (kk : WW p l e R s m args below meth c Q nL D A cells slots ws' lv (pc + 3) st) : WW p l e R s m args below meth c Q nL D A cells slots ws lv pc (.ref v :: .ref a :: st) := by
  subst hs
  exact fun H locs ls hP hD hS hl => va_putF (D := D) (ci := 8) (v := .ref v) (ty := tyX8 16) (C := RX8) (T := TX8) (N := 26) C.1 C.2.1 C.2.2.2.2.1 inX8 tyX8 tyX8_ok nmX8 C.2.2.2.1 C.2.2.2.2.2.1 hP hD hS q0 hq rfl 16 (by decide) (C.2.2.2.2.1 _ hk) (fun _ h9 => h9) rfl hnm rfl (by decide +kernel) rfl rfl hl2 hd (fun H1 locs1 hP hD hS => kk H1 locs1 ls hP hD hS hl)
theorem pr8_17 (C : CX p s m args c cc nL "DoorWalkModel" D k A) {index a v : Nat} {fs : List Value} (hnm : meth.name = "<init>") (hk : Cond.fieldLink "DoorWalkModel" index "DoorWalkModel" "far" "[I" ∈ TB) (q0 : Nat) (hq : ws[q0]? = some (a, .inr (8, fs))) (hl2 : 17 < fs.length) (hs : ws.set q0 (a, .inr (8, fs.set 17 (.ref v))) = ws') (hd : decode cc pc = .ok (.putfield index, 3)) (kk : WW p l e R s m args below meth c Q nL D A cells slots ws' lv (pc + 3) st) : WW p l e R s m args below meth c Q nL D A cells slots ws lv pc (.ref v :: .ref a :: st) := by
  subst hs
  exact fun H locs ls hP hD hS hl => va_putF (D := D) (ci := 8) (v := .ref v) (ty := tyX8 17) (C := RX8) (T := TX8) (N := 26) C.1 C.2.1 C.2.2.2.2.1 inX8 tyX8 tyX8_ok nmX8 C.2.2.2.1 C.2.2.2.2.2.1 hP hD hS q0 hq rfl 17 (by decide) (C.2.2.2.2.1 _ hk) (fun _ h9 => h9) rfl hnm rfl (by decide +kernel) rfl rfl hl2 hd (fun H1 locs1 hP hD hS => kk H1 locs1 ls hP hD hS hl)
theorem pr8_18 (C : CX p s m args c cc nL "DoorWalkModel" D k A) {index a v : Nat} {fs : List Value} (hnm : meth.name = "<init>") (hk : Cond.fieldLink "DoorWalkModel" index "DoorWalkModel" "aside" "[I" ∈ TB) (q0 : Nat) (hq : ws[q0]? = some (a, .inr (8, fs))) (hl2 : 18 < fs.length) (hs : ws.set q0 (a, .inr (8, fs.set 18 (.ref v))) = ws') (hd : decode cc pc = .ok (.putfield index, 3)) (kk : WW p l e R s m args below meth c Q nL D A cells slots ws' lv (pc + 3) st) : WW p l e R s m args below meth c Q nL D A cells slots ws lv pc (.ref v :: .ref a :: st) := by
  subst hs
  exact fun H locs ls hP hD hS hl => va_putF (D := D) (ci := 8) (v := .ref v) (ty := tyX8 18) (C := RX8) (T := TX8) (N := 26) C.1 C.2.1 C.2.2.2.2.1 inX8 tyX8 tyX8_ok nmX8 C.2.2.2.1 C.2.2.2.2.2.1 hP hD hS q0 hq rfl 18 (by decide) (C.2.2.2.2.1 _ hk) (fun _ h9 => h9) rfl hnm rfl (by decide +kernel) rfl rfl hl2 hd (fun H1 locs1 hP hD hS => kk H1 locs1 ls hP hD hS hl)
theorem pr8_19 (C : CX p s m args c cc nL "DoorWalkModel" D k A) {index a v : Nat} {fs : List Value} (hnm : meth.name = "<init>") (hk : Cond.fieldLink "DoorWalkModel" index "DoorWalkModel" "wasFull" "[Z" ∈ TB) (q0 : Nat) (hq : ws[q0]? = some (a, .inr (8, fs))) (hl2 : 19 < fs.length) (hs : ws.set q0 (a, .inr (8, fs.set 19 (.ref v))) = ws') (hd : decode cc pc = .ok (.putfield index, 3)) (kk : WW p l e R s m args below meth c Q nL D A cells slots ws' lv (pc + 3) st) : WW p l e R s m args below meth c Q nL D A cells slots ws lv pc (.ref v :: .ref a :: st) := by
  subst hs
  exact fun H locs ls hP hD hS hl => va_putF (D := D) (ci := 8) (v := .ref v) (ty := tyX8 19) (C := RX8) (T := TX8) (N := 26) C.1 C.2.1 C.2.2.2.2.1 inX8 tyX8 tyX8_ok nmX8 C.2.2.2.1 C.2.2.2.2.2.1 hP hD hS q0 hq rfl 19 (by decide) (C.2.2.2.2.1 _ hk) (fun _ h9 => h9) rfl hnm rfl (by decide +kernel) rfl rfl hl2 hd (fun H1 locs1 hP hD hS => kk H1 locs1 ls hP hD hS hl)
theorem pr8_20 (C : CX p s m args c cc nL "DoorWalkModel" D k A) {index a v : Nat} {fs : List Value} (hnm : meth.name = "<init>") (hk : Cond.fieldLink "DoorWalkModel" index "DoorWalkModel" "undos" "[I" ∈ TB) (q0 : Nat) (hq : ws[q0]? = some (a, .inr (8, fs))) (hl2 : 20 < fs.length) (hs : ws.set q0 (a, .inr (8, fs.set 20 (.ref v))) = ws') (hd : decode cc pc = .ok (.putfield index, 3)) (kk : WW p l e R s m args below meth c Q nL D A cells slots ws' lv (pc + 3) st) : WW p l e R s m args below meth c Q nL D A cells slots ws lv pc (.ref v :: .ref a :: st) := by
  subst hs
  exact fun H locs ls hP hD hS hl => va_putF (D := D) (ci := 8) (v := .ref v) (ty := tyX8 20) (C := RX8) (T := TX8) (N := 26) C.1 C.2.1 C.2.2.2.2.1 inX8 tyX8 tyX8_ok nmX8 C.2.2.2.1 C.2.2.2.2.2.1 hP hD hS q0 hq rfl 20 (by decide) (C.2.2.2.2.1 _ hk) (fun _ h9 => h9) rfl hnm rfl (by decide +kernel) rfl rfl hl2 hd (fun H1 locs1 hP hD hS => kk H1 locs1 ls hP hD hS hl)
theorem pr8_21 (C : CX p s m args c cc nL "DoorWalkModel" D k A) {index a v : Nat} {fs : List Value} (hnm : meth.name = "<init>") (hk : Cond.fieldLink "DoorWalkModel" index "DoorWalkModel" "was" "[I" ∈ TB) (q0 : Nat) (hq : ws[q0]? = some (a, .inr (8, fs))) (hl2 : 21 < fs.length) (hs : ws.set q0 (a, .inr (8, fs.set 21 (.ref v))) = ws') (hd : decode cc pc = .ok (.putfield index, 3)) (kk : WW p l e R s m args below meth c Q nL D A cells slots ws' lv (pc + 3) st) : WW p l e R s m args below meth c Q nL D A cells slots ws lv pc (.ref v :: .ref a :: st) := by
  subst hs
  exact fun H locs ls hP hD hS hl => va_putF (D := D) (ci := 8) (v := .ref v) (ty := tyX8 21) (C := RX8) (T := TX8) (N := 26) C.1 C.2.1 C.2.2.2.2.1 inX8 tyX8 tyX8_ok nmX8 C.2.2.2.1 C.2.2.2.2.2.1 hP hD hS q0 hq rfl 21 (by decide) (C.2.2.2.2.1 _ hk) (fun _ h9 => h9) rfl hnm rfl (by decide +kernel) rfl rfl hl2 hd (fun H1 locs1 hP hD hS => kk H1 locs1 ls hP hD hS hl)
theorem pr8_24 (C : CX p s m args c cc nL "DoorWalkModel" D k A) {index a v : Nat} {fs : List Value} (hnm : meth.name = "<init>") (hk : Cond.fieldLink "DoorWalkModel" index "DoorWalkModel" "kept" "[I" ∈ TB) (q0 : Nat) (hq : ws[q0]? = some (a, .inr (8, fs))) (hl2 : 24 < fs.length) (hs : ws.set q0 (a, .inr (8, fs.set 24 (.ref v))) = ws') (hd : decode cc pc = .ok (.putfield index, 3)) (kk : WW p l e R s m args below meth c Q nL D A cells slots ws' lv (pc + 3) st) : WW p l e R s m args below meth c Q nL D A cells slots ws lv pc (.ref v :: .ref a :: st) := by
  subst hs
  exact fun H locs ls hP hD hS hl => va_putF (D := D) (ci := 8) (v := .ref v) (ty := tyX8 24) (C := RX8) (T := TX8) (N := 26) C.1 C.2.1 C.2.2.2.2.1 inX8 tyX8 tyX8_ok nmX8 C.2.2.2.1 C.2.2.2.2.2.1 hP hD hS q0 hq rfl 24 (by decide) (C.2.2.2.2.1 _ hk) (fun _ h9 => h9) rfl hnm rfl (by decide +kernel) rfl rfl hl2 hd (fun H1 locs1 hP hD hS => kk H1 locs1 ls hP hD hS hl)
theorem pr8_25 (C : CX p s m args c cc nL "DoorWalkModel" D k A) {index a v : Nat} {fs : List Value} (hnm : meth.name = "<init>") (hk : Cond.fieldLink "DoorWalkModel" index "DoorWalkModel" "isKept" "[Z" ∈ TB) (q0 : Nat) (hq : ws[q0]? = some (a, .inr (8, fs))) (hl2 : 25 < fs.length) (hs : ws.set q0 (a, .inr (8, fs.set 25 (.ref v))) = ws') (hd : decode cc pc = .ok (.putfield index, 3)) (kk : WW p l e R s m args below meth c Q nL D A cells slots ws' lv (pc + 3) st) : WW p l e R s m args below meth c Q nL D A cells slots ws lv pc (.ref v :: .ref a :: st) := by
  subst hs
  exact fun H locs ls hP hD hS hl => va_putF (D := D) (ci := 8) (v := .ref v) (ty := tyX8 25) (C := RX8) (T := TX8) (N := 26) C.1 C.2.1 C.2.2.2.2.1 inX8 tyX8 tyX8_ok nmX8 C.2.2.2.1 C.2.2.2.2.2.1 hP hD hS q0 hq rfl 25 (by decide) (C.2.2.2.2.1 _ hk) (fun _ h9 => h9) rfl hnm rfl (by decide +kernel) rfl rfl hl2 hd (fun H1 locs1 hP hD hS => kk H1 locs1 ls hP hD hS hl)
set_option maxRecDepth 100000 in
theorem koi : Cond.instanceMethod Lib.objectInit ∈ TB ∧ Cond.code Lib.objectInit ⟨#[0xb1]⟩ 1 none ∈ TB := ⟨kwt1 24 (by rfl) rfl, kwt1 25 (by decide +kernel) rfl⟩
set_option maxRecDepth 100000 in
theorem koi_X7 : Cond.methodLink "DoorWalk" 3 Lib.objectInit ∈ TB := kwt1 23 (by rfl) rfl
set_option maxRecDepth 100000 in
theorem koi_X6 : Cond.methodLink "DoorWalk$Text" 3 Lib.objectInit ∈ TB := kwt1 31 (by rfl) rfl
set_option maxRecDepth 100000 in
theorem koi_X3 : Cond.methodLink "DoorWalk$Row" 3 Lib.objectInit ∈ TB := kwt1 46 (by rfl) rfl
set_option maxRecDepth 100000 in
theorem koi_X5 : Cond.methodLink "DoorWalk$State" 1 Lib.objectInit ∈ TB := kwt1 61 (by rfl) rfl
set_option maxRecDepth 100000 in
theorem koi_X1 : Cond.methodLink "DoorWalk$Grid" 3 Lib.objectInit ∈ TB := kwt1 67 (by rfl) rfl
set_option maxRecDepth 100000 in
theorem koi_X4 : Cond.methodLink "DoorWalk$Rule" 3 Lib.objectInit ∈ TB := kwt1 111 (by rfl) rfl
set_option maxRecDepth 100000 in
theorem koi_X0 : Cond.methodLink "DoorWalk$Doors" 3 Lib.objectInit ∈ TB := kwt1 146 (by rfl) rfl
set_option maxRecDepth 100000 in
theorem koi_X2 : Cond.methodLink "DoorWalk$History" 3 Lib.objectInit ∈ TB := kwt1 170 (by rfl) rfl
set_option maxRecDepth 100000 in
theorem koi_X8 : Cond.methodLink "DoorWalkModel" 3 Lib.objectInit ∈ TB := kwt4 234 (by rfl) rfl
theorem ww_objInit (C : CX p s m args c cc nL own D k A) {index a : Nat} (hk : Cond.methodLink own index Lib.objectInit ∈ TB) (hroom : 1 ≤ R.frames ∧ (st.map fun v => v.category).sum + 12 ≤ R.locals) (hd : decode cc pc = .ok (.invokespecial index, 3)) (kk : WW p l e R s m args below meth c Q nL D A cells slots ws lv (pc + 3) st) : WW p l e R s m args below meth c Q nL D A cells slots ws lv pc (.ref a :: st) := fun H locs ls hP hD hS hl => W.objInit C.1 C.2.1 C.2.2.2.1 (C.2.2.2.2.1 _ hk) (C.2.2.2.2.1 _ koi.1) (C.2.2.2.2.1 _ koi.2) rfl (by rw [C.2.2.1]; exact hl.1) rfl hd hroom.1 (by simpa using hroom.2) (kk H locs ls hP hD hS hl)
def CWI (own : String) (index : Nat) (y : MethodName) (bytes : ByteArray) (maxL : Nat) : Prop :=
  (Cond.methodLink own index y ∈ TB ∨ (own, index, y) ∈ nbM) ∧ Cond.instanceMethod y ∈ TB ∧ Cond.initialized y.cls ∈ TB ∧ Cond.code y bytes maxL none ∈ TB ∧ (y.cls ≠ "java/lang/invoke/MethodHandle" ∧ y.cls ≠ "java/lang/invoke/VarHandle" ∧ (parseMethodDescriptor y.desc).map (fun d => d.parameters.length) = some 0) ∧ y.name = "<init>"
theorem ww_callPI (C : CX p s m args c cc nL own D k A) {y : MethodName} {bytes : ByteArray} {maxL index b mc ms : Nat} {rm : Room} {wc wr : va_W} {PF : va_W → Prop} {rest : List Value} (hM : MVx l y bytes maxL rm D k [.ref b] wc PF mc ms) (hw : CWI own index y bytes maxL) (hR : RoomA R rm maxL mc ms) (hp : ws.Perm (wc ++ wr)) (hst : st = .ref b :: rest) (hrest : (rest.map fun v => v.category).sum ≤ 8) (hcap : cells + mc ≤ R.cells ∧ slots + ms ≤ R.slots) (hd : decode cc pc = .ok (.invokespecial index, 3)) (kk : ∀ wF, PF wF → WW p l e R s m args below meth c Q nL D A (cells + mc) (slots + ms) (wF ++ wr) lv (pc + 3) rest) : WW p l e R s m args below meth c Q nL D A cells slots ws lv pc st := by
  subst hst
  intro H locs ls hP hD hS hl
  have hF := free_perm hp hD hS C.2.2.2.2.2.2.1
  have hPc : va_P D vwCl wc H := va_P_mem.mpr (fun q hq => va_P_mem.mp (va_P_perm hp hP) q (List.mem_append_left _ hq))
  have hDt := cut_perm hp hD
  have hPre : PreS s H (va_Pc [.ref b] (PRE D k wc H.size)) (.ref b :: []) := ⟨pre_blind D k _ wc H.size, fun U hU hW => ⟨rfl, pre_of C hPc hDt hS hF U hU hW⟩⟩
  have run : va_Run p l e R s m args below meth c H locs cells slots mc ms (F0 m pc ls (.ref b :: rest)) rest (va_Qv PF (fun wsF t => PST D k wc wsF H.size t) (va_A wc H.size) #[.ref b]) (va_A wc H.size) := by
    rcases hw.1 with h | h
    · exact va_runI (As := []) (rest := rest) ⟨C.1, C.2.1, C.2.2.1, C.2.2.2.1, C.2.2.2.2.1⟩ (hM H.size) ⟨callB_of 0 C.2.2.2.2.1 (wsm_good hw.2.2.2.1) rfl hR.2.1 hR.2.2 (C.2.2.2.2.1 _ hw.2.2.1) (C.2.2.2.2.1 _ h) hw.2.2.2.2.1 hR.1, hw.2.2.2.2.2, C.2.2.2.2.1 _ hw.2.1⟩ hPre rfl rfl hl.1 rfl (lv_room hrest) hd hcap
    · have hnl := nx_use C h
      exact va_runIN (host := "DoorWalk") (As := []) (rest := rest) ⟨C.1, C.2.1, C.2.2.1, C.2.2.2.1, C.2.2.2.2.1⟩ (hM H.size) ⟨⟨⟨hR.2.1, hR.2.2, hR.1.1, hR.1.2, pay_in C.2.2.2.2.1 (wsm_good hw.2.2.2.1), List.mem_cons_self⟩, C.2.2.2.2.1 _ hw.2.2.2.1, C.2.2.2.2.1 _ hw.2.2.1, ⟨hw.2.2.2.2.1.1, hw.2.2.2.2.1.2.1⟩, fun sig h => by have h2 := hw.2.2.2.2.1.2.2; rw [h] at h2; exact (Option.some.inj h2).symm, hnl⟩, hw.2.2.2.2.2, C.2.2.2.2.1 _ hw.2.1⟩ hPre rfl rfl hl.1 rfl (lv_room hrest) hd hcap
  refine va_callv run hS (fun q _ h => hF q h) hF (fun u t H1 locs1 ht hvm hw1 hB hz1 hk1 hS1 => ?_)
  obtain ⟨hP1, hK1, hD1⟩ := hB
  rw [ht] at hP1
  obtain ⟨hP2, hD2⟩ := join_perm hp hP hD hF hk1 hP1 hD1
  exact kk u hw1 H1 locs1 ls hP2 hD2 hS1 hl
set_option maxRecDepth 100000 in
theorem ci_L_23 : CWI "DoorWalkLaw" 23 yX7_init cX7_init 1 := ⟨Or.inl (kwt1 20 (by rfl) rfl), kwt1 21 (by rfl) rfl, kwt1 1 (by rfl) rfl, kwt1 22 (by rfl) rfl, ⟨by decide, by decide, by decide +kernel⟩, rfl⟩
set_option maxRecDepth 100000 in
theorem ci_X7_11 : CWI "DoorWalk" 11 yX6_init cX6_init 1 := ⟨Or.inr (by simp [nbM]), kwt1 29 (by rfl) rfl, kwt1 2 (by rfl) rfl, kwt1 30 (by rfl) rfl, ⟨by decide, by decide, by decide +kernel⟩, rfl⟩
set_option maxRecDepth 100000 in
theorem ci_X7_18 : CWI "DoorWalk" 18 yX3_init cX3_init 1 := ⟨Or.inr (by simp [nbM]), kwt1 44 (by rfl) rfl, kwt1 3 (by rfl) rfl, kwt1 45 (by rfl) rfl, ⟨by decide, by decide, by decide +kernel⟩, rfl⟩
set_option maxRecDepth 100000 in
theorem ci_X7_25 : CWI "DoorWalk" 25 yX5_init cX5_init 1 := ⟨Or.inr (by simp [nbM]), kwt1 59 (by rfl) rfl, kwt1 4 (by rfl) rfl, kwt1 60 (by rfl) rfl, ⟨by decide, by decide, by decide +kernel⟩, rfl⟩
set_option maxRecDepth 100000 in
theorem ci_X5_9 : CWI "DoorWalk$State" 9 yX1_init cX1_init 3 := ⟨Or.inl (kwt1 64 (by rfl) rfl), kwt1 65 (by rfl) rfl, kwt1 5 (by rfl) rfl, kwt1 66 (by rfl) rfl, ⟨by decide, by decide, by decide +kernel⟩, rfl⟩
set_option maxRecDepth 100000 in
theorem ci_X5_18 : CWI "DoorWalk$State" 18 yX4_init cX4_init 1 := ⟨Or.inr (by simp [nbM]), kwt1 109 (by rfl) rfl, kwt1 6 (by rfl) rfl, kwt1 110 (by rfl) rfl, ⟨by decide, by decide, by decide +kernel⟩, rfl⟩
set_option maxRecDepth 100000 in
theorem ci_X7_32 : CWI "DoorWalk" 32 yX1_init cX1_init 3 := ⟨Or.inl (kwt1 140 (by rfl) rfl), kwt1 65 (by rfl) rfl, kwt1 5 (by rfl) rfl, kwt1 66 (by rfl) rfl, ⟨by decide, by decide, by decide +kernel⟩, rfl⟩
set_option maxRecDepth 100000 in
theorem ci_X7_39 : CWI "DoorWalk" 39 yX0_init cX0_init 1 := ⟨Or.inr (by simp [nbM]), kwt1 144 (by rfl) rfl, kwt1 7 (by rfl) rfl, kwt1 145 (by rfl) rfl, ⟨by decide, by decide, by decide +kernel⟩, rfl⟩
set_option maxRecDepth 100000 in
theorem ci_X7_46 : CWI "DoorWalk" 46 yX2_init cX2_init 1 := ⟨Or.inr (by simp [nbM]), kwt1 168 (by rfl) rfl, kwt1 8 (by rfl) rfl, kwt1 169 (by rfl) rfl, ⟨by decide, by decide, by decide +kernel⟩, rfl⟩
set_option maxRecDepth 100000 in
theorem ci_X2_24 : CWI "DoorWalk$History" 24 yX5_init cX5_init 1 := ⟨Or.inr (by simp [nbM]), kwt1 59 (by rfl) rfl, kwt1 4 (by rfl) rfl, kwt1 60 (by rfl) rfl, ⟨by decide, by decide, by decide +kernel⟩, rfl⟩
set_option maxRecDepth 100000 in
theorem ci_L_26 : CWI "DoorWalkLaw" 26 yX8_init cX8_init 1 := ⟨Or.inl (kwt4 231 (by rfl) rfl), kwt4 232 (by rfl) rfl, kwt1 9 (by rfl) rfl, kwt4 233 (by rfl) rfl, ⟨by decide, by decide, by decide +kernel⟩, rfl⟩
end WWK
