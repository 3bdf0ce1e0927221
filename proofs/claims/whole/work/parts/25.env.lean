/-! THE CLAIM OUT OF ONE WALK OF THE LAW'S BODY. Your part is whole_start (and what it stands on); all else here is the same for every law, but numbers. -/
def R_law : String := "DoorWalkLaw"
def lw_P (b : Addr) (xs : List Int32) (args : Array Value) (s : State) : Prop := args = #[.ref b] ∧ s.IntsAt b xs ∧ xs.length ≤ 3072 ∧ (Jvm.Cond.and given_1 narrow_1).before args s = true
def lw_Q (_ : Array Value) (s : State) (o : Outcome) (t : State) : Prop := o = .returned (some (.int 1)) ∧ Framed s o t [] 601024 7293034
def lw_Z (below : List Frame) (a : Array Value) (s : State) : State → Prop := fun t => ∃ o, t.status = .running ∧ Ended t below o ∧ lw_Q a s o t
/-- the law's own end, with 1 on the stack, nothing written that was there before, its room as the claim has it -/
theorem lw_ret {p : Program} {l : Launch} {e : Env} {s : State} {m : MethodId} {below : List Frame} {meth : Method} {c : Code} {b : Nat} (hx : p.tables.exec = Jvm.exec) (hb : c.code = code) (hr : meth.sig.returnType = ret) (hlocks : meth.locks = false) {pc : Nat} {H : Heap} {ls : Array Slot} (hdg : decode code pc = .ok (.ireturn, 1)) : W p l e room_1 s m #[Value.ref b] below meth c H [] 601024 7293034 (lw_Z below #[Value.ref b] s) (F0 m pc ls [.int 1]) := by
  intro T hT X
  obtain ⟨fs, hret, hrun, hended, hW, hframe⟩ := X.leave (v := some (.int 1)) (hlocks := hlocks) (fun h => by rw [hr] at h; cases h)
  have hmeth' : T.vm.method? m = some meth := X.method'
  refine ⟨T.setFrames fs, ?_, .returned (some (.int 1)), hrun, hended, rfl, ⟨_, rfl⟩, hW, hframe⟩
  jvm_step X.here [X.here.top, hx, hb, hdg, hmeth', hr, ret, narrow_b1]
  (try refine ⟨rfl, ?_⟩); (try refine ⟨rfl, ?_⟩)
  first | (intro acts; rw [hret _ acts rfl rfl rfl]) | rw [hret _ _ rfl rfl rfl]
  exact Steps.refl _
/-- what holds at the law's entry: the machine, the code, the tables' words (any of lw_tbl by 'hts w (by decide +kernel)'), the script of L ints xs at the cell b, what the Statement gives of the start (any of its parts by flat_of_before) -/
def lw_At (p : Program) (s : State) (m : MethodId) (meth : Method) (c : Code) (b L : Nat) (xs : Nat → Int32) : Prop :=
  p.tables.exec = Jvm.exec ∧ c.code = code ∧ meth.sig.returnType = ret ∧ c.maxLocals = 8 ∧ s.vm.findClass R_law = some m.cls ∧ (∀ w ∈ lw_tbl, w.before #[Value.ref b] s = true) ∧ va_X b L xs s s.heap ∧ b < s.heap.size ∧ meth.locks = false ∧ (Jvm.Cond.and given_1 narrow_1).before #[Value.ref b] s = true

theorem arr_of {args : Array Value} {s : State} {ty : FieldType} (h : (Cond.arrayClass ty).before args s = true) : ∃ cA : ClassId, ArrOfT s cA ty ∧ s.vm.findClass ("[" ++ ty.toString) = some cA := by
  obtain ⟨cA, kA, comp, h1, h2, h3⟩ := Cond.arrayClass_spec h
  exact ⟨cA, fun n z => ⟨fun k h => (by cases h), kA, h2, comp, h3⟩, h1⟩
section ENV
variable {p : Program} {s : State} {m : MethodId} {meth : Method} {c : Code} {b L : Nat} {xs : Nat → Int32}
abbrev lwA (s : State) : Nat → Prop := fun q => s.heap.size ≤ q
theorem env_far (s : State) : ∀ a : Nat, a < s.heap.size → ¬ lwA s a := fun a h => Nat.not_le.mpr h
set_option maxRecDepth 100000 in
theorem env_CORNER_I (hts : ∀ w ∈ lw_tbl, w.before #[Value.ref b] s = true) (hgv : (Jvm.Cond.and given_1 narrow_1).before #[Value.ref b] s = true) : SA "CORNER_I" 3 tCI (lwA s) s s.heap := by
  have hs := flat_of_before _ hgv
  have hel : ∀ j : Nat, j < 3 → (Term.elem (.static "DoorWalk" "CORNER_I" "[I") (.int (Int32.ofNat j))).eval #[Value.ref b] s none [] s = some (.int (tCI j)) := by
    intro j hj
    match j, hj with
    | 0, _ => exact va_eqt (z := tCI 0) (hs (.eq (.elem (.static "DoorWalk" "CORNER_I" "[I") (.int (0 : Int32))) (.int (0 : Int32))) (by decide +kernel))
    | 1, _ => exact va_eqt (z := tCI 1) (hs (.eq (.elem (.static "DoorWalk" "CORNER_I" "[I") (.int (1 : Int32))) (.int (1 : Int32))) (by decide +kernel))
    | 2, _ => exact va_eqt (z := tCI 2) (hs (.eq (.elem (.static "DoorWalk" "CORNER_I" "[I") (.int (2 : Int32))) (.int (0 : Int32))) (by decide +kernel))
    | j + 3, hj => exact absurd hj (by omega)
  obtain ⟨t, h1, h2⟩ := va_Tof (tm := (.static "DoorWalk" "CORNER_I" "[I")) (ty := .int) (N := 3) (f := fun j => .int (tCI j)) (A := lwA s) (args := #[Value.ref b]) (s := s) (by decide) (hs _ (by decide +kernel)) (va_eqt (z := Int32.ofNat 3) (hs (.eq (.length (.static "DoorWalk" "CORNER_I" "[I")) (.int (3 : Int32))) (by decide +kernel))) hel (env_far s)
  exact ⟨t, va_Zof (hts _ (List.mem_of_getElem? (i := 749) (by rfl))) (hts _ (List.mem_of_getElem? (i := 90) (by rfl))) h1 (env_far s), h2⟩
set_option maxRecDepth 100000 in
theorem env_CORNER_J (hts : ∀ w ∈ lw_tbl, w.before #[Value.ref b] s = true) (hgv : (Jvm.Cond.and given_1 narrow_1).before #[Value.ref b] s = true) : SA "CORNER_J" 3 tCJ (lwA s) s s.heap := by
  have hs := flat_of_before _ hgv
  have hel : ∀ j : Nat, j < 3 → (Term.elem (.static "DoorWalk" "CORNER_J" "[I") (.int (Int32.ofNat j))).eval #[Value.ref b] s none [] s = some (.int (tCJ j)) := by
    intro j hj
    match j, hj with
    | 0, _ => exact va_eqt (z := tCJ 0) (hs (.eq (.elem (.static "DoorWalk" "CORNER_J" "[I") (.int (0 : Int32))) (.int (0 : Int32))) (by decide +kernel))
    | 1, _ => exact va_eqt (z := tCJ 1) (hs (.eq (.elem (.static "DoorWalk" "CORNER_J" "[I") (.int (1 : Int32))) (.int (0 : Int32))) (by decide +kernel))
    | 2, _ => exact va_eqt (z := tCJ 2) (hs (.eq (.elem (.static "DoorWalk" "CORNER_J" "[I") (.int (2 : Int32))) (.int (1 : Int32))) (by decide +kernel))
    | j + 3, hj => exact absurd hj (by omega)
  obtain ⟨t, h1, h2⟩ := va_Tof (tm := (.static "DoorWalk" "CORNER_J" "[I")) (ty := .int) (N := 3) (f := fun j => .int (tCJ j)) (A := lwA s) (args := #[Value.ref b]) (s := s) (by decide) (hs _ (by decide +kernel)) (va_eqt (z := Int32.ofNat 3) (hs (.eq (.length (.static "DoorWalk" "CORNER_J" "[I")) (.int (3 : Int32))) (by decide +kernel))) hel (env_far s)
  exact ⟨t, va_Zof (hts _ (List.mem_of_getElem? (i := 755) (by rfl))) (hts _ (List.mem_of_getElem? (i := 90) (by rfl))) h1 (env_far s), h2⟩
set_option maxRecDepth 100000 in
theorem env_ROUND_I (hts : ∀ w ∈ lw_tbl, w.before #[Value.ref b] s = true) (hgv : (Jvm.Cond.and given_1 narrow_1).before #[Value.ref b] s = true) : SA "ROUND_I" 6 tRI (lwA s) s s.heap := by
  have hs := flat_of_before _ hgv
  have hel : ∀ j : Nat, j < 6 → (Term.elem (.static "DoorWalk" "ROUND_I" "[I") (.int (Int32.ofNat j))).eval #[Value.ref b] s none [] s = some (.int (tRI j)) := by
    intro j hj
    match j, hj with
    | 0, _ => exact va_eqt (z := tRI 0) (hs (.eq (.elem (.static "DoorWalk" "ROUND_I" "[I") (.int (0 : Int32))) (.int (0 : Int32))) (by decide +kernel))
    | 1, _ => exact va_eqt (z := tRI 1) (hs (.eq (.elem (.static "DoorWalk" "ROUND_I" "[I") (.int (1 : Int32))) (.int (-1 : Int32))) (by decide +kernel))
    | 2, _ => exact va_eqt (z := tRI 2) (hs (.eq (.elem (.static "DoorWalk" "ROUND_I" "[I") (.int (2 : Int32))) (.int (0 : Int32))) (by decide +kernel))
    | 3, _ => exact va_eqt (z := tRI 3) (hs (.eq (.elem (.static "DoorWalk" "ROUND_I" "[I") (.int (3 : Int32))) (.int (-1 : Int32))) (by decide +kernel))
    | 4, _ => exact va_eqt (z := tRI 4) (hs (.eq (.elem (.static "DoorWalk" "ROUND_I" "[I") (.int (4 : Int32))) (.int (0 : Int32))) (by decide +kernel))
    | 5, _ => exact va_eqt (z := tRI 5) (hs (.eq (.elem (.static "DoorWalk" "ROUND_I" "[I") (.int (5 : Int32))) (.int (-1 : Int32))) (by decide +kernel))
    | j + 6, hj => exact absurd hj (by omega)
  obtain ⟨t, h1, h2⟩ := va_Tof (tm := (.static "DoorWalk" "ROUND_I" "[I")) (ty := .int) (N := 6) (f := fun j => .int (tRI j)) (A := lwA s) (args := #[Value.ref b]) (s := s) (by decide) (hs _ (by decide +kernel)) (va_eqt (z := Int32.ofNat 6) (hs (.eq (.length (.static "DoorWalk" "ROUND_I" "[I")) (.int (6 : Int32))) (by decide +kernel))) hel (env_far s)
  exact ⟨t, va_Zof (hts _ (List.mem_of_getElem? (i := 810) (by rfl))) (hts _ (List.mem_of_getElem? (i := 90) (by rfl))) h1 (env_far s), h2⟩
set_option maxRecDepth 100000 in
theorem env_ROUND_J (hts : ∀ w ∈ lw_tbl, w.before #[Value.ref b] s = true) (hgv : (Jvm.Cond.and given_1 narrow_1).before #[Value.ref b] s = true) : SA "ROUND_J" 6 tRJ (lwA s) s s.heap := by
  have hs := flat_of_before _ hgv
  have hel : ∀ j : Nat, j < 6 → (Term.elem (.static "DoorWalk" "ROUND_J" "[I") (.int (Int32.ofNat j))).eval #[Value.ref b] s none [] s = some (.int (tRJ j)) := by
    intro j hj
    match j, hj with
    | 0, _ => exact va_eqt (z := tRJ 0) (hs (.eq (.elem (.static "DoorWalk" "ROUND_J" "[I") (.int (0 : Int32))) (.int (0 : Int32))) (by decide +kernel))
    | 1, _ => exact va_eqt (z := tRJ 1) (hs (.eq (.elem (.static "DoorWalk" "ROUND_J" "[I") (.int (1 : Int32))) (.int (0 : Int32))) (by decide +kernel))
    | 2, _ => exact va_eqt (z := tRJ 2) (hs (.eq (.elem (.static "DoorWalk" "ROUND_J" "[I") (.int (2 : Int32))) (.int (-1 : Int32))) (by decide +kernel))
    | 3, _ => exact va_eqt (z := tRJ 3) (hs (.eq (.elem (.static "DoorWalk" "ROUND_J" "[I") (.int (3 : Int32))) (.int (-1 : Int32))) (by decide +kernel))
    | 4, _ => exact va_eqt (z := tRJ 4) (hs (.eq (.elem (.static "DoorWalk" "ROUND_J" "[I") (.int (4 : Int32))) (.int (-1 : Int32))) (by decide +kernel))
    | 5, _ => exact va_eqt (z := tRJ 5) (hs (.eq (.elem (.static "DoorWalk" "ROUND_J" "[I") (.int (5 : Int32))) (.int (0 : Int32))) (by decide +kernel))
    | j + 6, hj => exact absurd hj (by omega)
  obtain ⟨t, h1, h2⟩ := va_Tof (tm := (.static "DoorWalk" "ROUND_J" "[I")) (ty := .int) (N := 6) (f := fun j => .int (tRJ j)) (A := lwA s) (args := #[Value.ref b]) (s := s) (by decide) (hs _ (by decide +kernel)) (va_eqt (z := Int32.ofNat 6) (hs (.eq (.length (.static "DoorWalk" "ROUND_J" "[I")) (.int (6 : Int32))) (by decide +kernel))) hel (env_far s)
  exact ⟨t, va_Zof (hts _ (List.mem_of_getElem? (i := 812) (by rfl))) (hts _ (List.mem_of_getElem? (i := 90) (by rfl))) h1 (env_far s), h2⟩
set_option maxRecDepth 100000 in
theorem env_ROUND_DOWN (hts : ∀ w ∈ lw_tbl, w.before #[Value.ref b] s = true) (hgv : (Jvm.Cond.and given_1 narrow_1).before #[Value.ref b] s = true) : SA "ROUND_DOWN" 6 tRD (lwA s) s s.heap := by
  have hs := flat_of_before _ hgv
  have hel : ∀ j : Nat, j < 6 → (Term.elem (.static "DoorWalk" "ROUND_DOWN" "[I") (.int (Int32.ofNat j))).eval #[Value.ref b] s none [] s = some (.int (tRD j)) := by
    intro j hj
    match j, hj with
    | 0, _ => exact va_eqt (z := tRD 0) (hs (.eq (.elem (.static "DoorWalk" "ROUND_DOWN" "[I") (.int (0 : Int32))) (.int (0 : Int32))) (by decide +kernel))
    | 1, _ => exact va_eqt (z := tRD 1) (hs (.eq (.elem (.static "DoorWalk" "ROUND_DOWN" "[I") (.int (1 : Int32))) (.int (0 : Int32))) (by decide +kernel))
    | 2, _ => exact va_eqt (z := tRD 2) (hs (.eq (.elem (.static "DoorWalk" "ROUND_DOWN" "[I") (.int (2 : Int32))) (.int (0 : Int32))) (by decide +kernel))
    | 3, _ => exact va_eqt (z := tRD 3) (hs (.eq (.elem (.static "DoorWalk" "ROUND_DOWN" "[I") (.int (3 : Int32))) (.int (1 : Int32))) (by decide +kernel))
    | 4, _ => exact va_eqt (z := tRD 4) (hs (.eq (.elem (.static "DoorWalk" "ROUND_DOWN" "[I") (.int (4 : Int32))) (.int (1 : Int32))) (by decide +kernel))
    | 5, _ => exact va_eqt (z := tRD 5) (hs (.eq (.elem (.static "DoorWalk" "ROUND_DOWN" "[I") (.int (5 : Int32))) (.int (1 : Int32))) (by decide +kernel))
    | j + 6, hj => exact absurd hj (by omega)
  obtain ⟨t, h1, h2⟩ := va_Tof (tm := (.static "DoorWalk" "ROUND_DOWN" "[I")) (ty := .int) (N := 6) (f := fun j => .int (tRD j)) (A := lwA s) (args := #[Value.ref b]) (s := s) (by decide) (hs _ (by decide +kernel)) (va_eqt (z := Int32.ofNat 6) (hs (.eq (.length (.static "DoorWalk" "ROUND_DOWN" "[I")) (.int (6 : Int32))) (by decide +kernel))) hel (env_far s)
  exact ⟨t, va_Zof (hts _ (List.mem_of_getElem? (i := 814) (by rfl))) (hts _ (List.mem_of_getElem? (i := 90) (by rfl))) h1 (env_far s), h2⟩
set_option maxRecDepth 100000 in
theorem env_nx (hts : ∀ w ∈ lw_tbl, w.before #[Value.ref b] s = true) : NX s := by
  refine ⟨fun q hq => ?_, fun q hq => ?_, va_AO.of (hts _ (List.mem_of_getElem? (i := 261) (by rfl)))⟩
  · simp only [nbF, List.mem_cons, List.not_mem_nil, or_false] at hq
    rcases hq with rfl | rfl | rfl | rfl | rfl
    · exact va_Nw.of rfl (hts _ (List.mem_of_getElem? (i := 748) (by rfl)))
    · exact va_Nw.of rfl (hts _ (List.mem_of_getElem? (i := 754) (by rfl)))
    · exact va_Nw.of rfl (hts _ (List.mem_of_getElem? (i := 809) (by rfl)))
    · exact va_Nw.of rfl (hts _ (List.mem_of_getElem? (i := 811) (by rfl)))
    · exact va_Nw.of rfl (hts _ (List.mem_of_getElem? (i := 813) (by rfl)))
  · simp only [nbM, List.mem_cons, List.not_mem_nil, or_false] at hq
    rcases hq with rfl | rfl | rfl | rfl | rfl | rfl | rfl | rfl | rfl
    · exact va_Nw.of rfl (hts _ (List.mem_of_getElem? (i := 117) (by rfl)))
    · exact va_Nw.of rfl (hts _ (List.mem_of_getElem? (i := 132) (by rfl)))
    · exact va_Nw.of rfl (hts _ (List.mem_of_getElem? (i := 147) (by rfl)))
    · exact va_Nw.of rfl (hts _ (List.mem_of_getElem? (i := 197) (by rfl)))
    · exact va_Nw.of rfl (hts _ (List.mem_of_getElem? (i := 232) (by rfl)))
    · exact va_Nw.of rfl (hts _ (List.mem_of_getElem? (i := 256) (by rfl)))
    · exact va_Nw.of rfl (hts _ (List.mem_of_getElem? (i := 332) (by rfl)))
    · exact va_Nw.of rfl (hts _ (List.mem_of_getElem? (i := 344) (by rfl)))
    · exact va_Nw.of rfl (hts _ (List.mem_of_getElem? (i := 421) (by rfl)))
set_option maxRecDepth 100000 in
theorem env_exc (hts : ∀ w ∈ lw_tbl, w.before #[Value.ref b] s = true) (hgv : (Jvm.Cond.and given_1 narrow_1).before #[Value.ref b] s = true) {cD : ClassId} (hD : s.vm.findClass "DoorWalk" = some cD) : EXC (lwA s) s s.heap := by
  have hs := flat_of_before _ hgv
  have w0 : (Cond.stringRef "DoorWalk" 138 "no such POINT").before #[Value.ref b] s = true := hts _ (List.mem_of_getElem? (i := 993) (by rfl))
  obtain ⟨-, -, -, a0, -, -, -, -, -, e0⟩ := Cond.stringRef_spec hD w0
  have w1 : (Cond.stringRef "DoorWalk" 237 "no such WALK").before #[Value.ref b] s = true := hts _ (List.mem_of_getElem? (i := 1027) (by rfl))
  obtain ⟨-, -, -, a1, -, -, -, -, -, e1⟩ := Cond.stringRef_spec hD w1
  have w2 : (Cond.stringRef "DoorWalk" 239 "no such CELL of the WALK").before #[Value.ref b] s = true := hts _ (List.mem_of_getElem? (i := 1028) (by rfl))
  obtain ⟨-, -, -, a2, -, -, -, -, -, e2⟩ := Cond.stringRef_spec hD w2
  have w3 : (Cond.stringRef "DoorWalk" 404 "the ROW has no such number").before #[Value.ref b] s = true := hts _ (List.mem_of_getElem? (i := 1037) (by rfl))
  obtain ⟨-, -, -, a3, -, -, -, -, -, e3⟩ := Cond.stringRef_spec hD w3
  refine ⟨vx_Zqof (hts _ (List.mem_of_getElem? (i := 981) (by rfl))) (hts _ (List.mem_of_getElem? (i := 101) (by rfl))) (hs _ (by decide +kernel)) (env_far s), vx_Zqof (hts _ (List.mem_of_getElem? (i := 983) (by rfl))) (hts _ (List.mem_of_getElem? (i := 101) (by rfl))) (hs _ (by decide +kernel)) (env_far s), fun x hx => ?_, va_Nw.of rfl (hts _ (List.mem_of_getElem? (i := 956) (by rfl))), a0, a1, a2, a3, vk_R.of w0 e0, vk_R.of w1 e1, vk_R.of w2 e2, vk_R.of w3 e3⟩
  simp only [xD, List.mem_cons, List.not_mem_nil, or_false] at hx
  rcases hx with rfl | rfl | rfl
  · exact va_Nw.of rfl (hts _ (List.mem_of_getElem? (i := 958) (by rfl)))
  · exact va_Nw.of rfl (hts _ (List.mem_of_getElem? (i := 960) (by rfl)))
  · exact va_Nw.of rfl (hts _ (List.mem_of_getElem? (i := 962) (by rfl)))
set_option maxRecDepth 100000 in
theorem law_env (C0 : lw_At p s m meth c b L xs) : ∃ (D : va_G) (k : Nat → ClassId), CX p s m #[Value.ref b] c cL_law 8 "DoorWalkLaw" D k (lwA s) ∧ EXC (lwA s) s s.heap := by
  obtain ⟨hx, hb, hr, hml, hown, hts, hX, hbl, hlocks, hgv⟩ := C0
  have htb : ∀ w ∈ TB, w.before #[Value.ref b] s = true := fun w hw => hts w (List.mem_filter.mp hw).1
  obtain ⟨c0, i0, hK0⟩ := u_known (C := RX0) (T := TX0) (N := 5) (n := 5) htb inX0 (htb _ kin_0.1)
  obtain ⟨c1, i1, hK1⟩ := u_known (C := RX1) (T := TX1) (N := 6) (n := 6) htb inX1 (htb _ kin_1.1)
  obtain ⟨c2, i2, hK2⟩ := u_known (C := RX2) (T := TX2) (N := 3) (n := 3) htb inX2 (htb _ kin_2.1)
  obtain ⟨c3, i3, hK3⟩ := u_known (C := RX3) (T := TX3) (N := 2) (n := 2) htb inX3 (htb _ kin_3.1)
  obtain ⟨c4, i4, hK4⟩ := u_known (C := RX4) (T := TX4) (N := 5) (n := 5) htb inX4 (htb _ kin_4.1)
  obtain ⟨c5, i5, hK5⟩ := u_known (C := RX5) (T := TX5) (N := 2) (n := 2) htb inX5 (htb _ kin_5.1)
  obtain ⟨c6, i6, hK6⟩ := u_known (C := RX6) (T := TX6) (N := 2) (n := 2) htb inX6 (htb _ kin_6.1)
  obtain ⟨c7, i7, hK7⟩ := u_known (C := RX7) (T := TX7) (N := 7) (n := 7) htb inX7 (htb _ kin_7.1)
  obtain ⟨c8, i8, hK8⟩ := u_known (C := RX8) (T := TX8) (N := 26) (n := 26) htb inX8 (htb _ kin_8.1)
  obtain ⟨aB, hAB, hNB⟩ := arr_of (htb _ kar_B)
  obtain ⟨aI, hAI, hNI⟩ := arr_of (htb _ kar_I)
  obtain ⟨aJ, hAJ, hNJ⟩ := arr_of (htb _ kar_J)
  obtain ⟨aZ, hAZ, hNZ⟩ := arr_of (htb _ kar_Z)
  obtain ⟨comp, aS, kS, g1, -, g2, g3, g4⟩ := Cond.arrayOver_spec (n := "DoorWalk$State") (hts _ (List.mem_of_getElem? (i := 261) (by rfl)))
  refine ⟨(fun k => match k with | 0 => c0 | 1 => c1 | 2 => c2 | 3 => c3 | 4 => c4 | 5 => c5 | 6 => c6 | 7 => c7 | _ => c8, fun k => match k with | 0 => i0 | 1 => i1 | 2 => i2 | 3 => i3 | 4 => i4 | 5 => i5 | 6 => i6 | 7 => i7 | _ => i8), (fun k => match k with | 0 => aB | 1 => aI | 2 => aJ | 3 => aZ | _ => aS), ⟨hx, hb, hml, hown, htb, ⟨fun k q hq => ?_, fun k q hq => ?_⟩, fun q h => h, ⟨env_CORNER_I hts hgv, env_CORNER_J hts hgv, env_ROUND_I hts hgv, env_ROUND_J hts hgv, env_ROUND_DOWN hts hgv⟩, env_nx hts⟩, env_exc hts hgv (cD := c7) hK7.2.1⟩
  · match k, hq with
    | 0, hq => cases hq; exact hK0
    | 1, hq => cases hq; exact hK1
    | 2, hq => cases hq; exact hK2
    | 3, hq => cases hq; exact hK3
    | 4, hq => cases hq; exact hK4
    | 5, hq => cases hq; exact hK5
    | 6, hq => cases hq; exact hK6
    | 7, hq => cases hq; exact hK7
    | 8, hq => cases hq; exact hK8
    | k + 9, hq => simp [vwCl] at hq
  · match k, hq with
    | 0, hq => cases hq; exact ⟨hAB, hNB⟩
    | 1, hq => cases hq; exact ⟨hAI, hNI⟩
    | 2, hq => cases hq; exact ⟨hAJ, hNJ⟩
    | 3, hq => cases hq; exact ⟨hAZ, hNZ⟩
    | 4, hq => cases hq; exact ⟨fun N z => ⟨(fun k h => by cases h), kS, g2, comp, g3⟩, kS, comp, g2, g3, g1, g4⟩
    | k + 5, hq => simp [TY] at hq
end ENV
