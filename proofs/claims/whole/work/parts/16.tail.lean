/-! Worlds up to order; contracts that make cells; the states that are kept (history's ring, kept). -/
section PRM
theorem va_P_mem {D : va_G} {cl : List vw_C} {ws : va_W} {H : Heap} : va_P D cl ws H ↔ ∀ q ∈ ws, va_at D cl q H :=
  ⟨fun h q hq => by obtain ⟨j, hj⟩ := List.mem_iff_getElem?.mp hq; exact h j q hj, fun h j q hj => h q (List.mem_of_getElem? hj)⟩
theorem va_D_nd {A : Nat → Prop} {ws : va_W} (h : va_D A ws) : (ws.map Prod.fst).Nodup := by
  refine List.pairwise_iff_getElem.mpr (fun i j hi hj hij he => ?_)
  have hi' : i < ws.length := by simpa using hi
  have hj' : j < ws.length := by simpa using hj
  rw [List.getElem_map, List.getElem_map] at he
  have := h.1 i j _ _ (List.getElem?_eq_getElem hi') (List.getElem?_eq_getElem hj') he
  omega
theorem va_D_of {A : Nat → Prop} {ws : va_W} (h1 : (ws.map Prod.fst).Nodup) (h2 : ∀ q ∈ ws, A q.1) : va_D A ws := by
  refine ⟨fun i j x y hx hy hxy => ?_, fun j q hq => h2 q (List.mem_of_getElem? hq)⟩
  have h3 := List.pairwise_iff_getElem.mp h1
  obtain ⟨hi, ei⟩ := List.getElem?_eq_some_iff.mp hx
  obtain ⟨hj, ej⟩ := List.getElem?_eq_some_iff.mp hy
  rcases Nat.lt_trichotomy i j with h | h | h
  · exact absurd (by rw [List.getElem_map, List.getElem_map, ei, ej]; exact hxy) (h3 i j (by simpa using hi) (by simpa using hj) h)
  · exact h
  · exact absurd (by rw [List.getElem_map, List.getElem_map, ei, ej]; exact hxy.symm) (h3 j i (by simpa using hj) (by simpa using hi) h)
theorem va_D_in {A : Nat → Prop} {ws : va_W} (h : va_D A ws) {q : Nat × va_E} (hq : q ∈ ws) : A q.1 := by
  obtain ⟨j, hj⟩ := List.mem_iff_getElem?.mp hq
  exact h.2 j q hj
theorem va_P_perm {D : va_G} {cl : List vw_C} {ws ws' : va_W} {H : Heap} (hp : ws.Perm ws') (h : va_P D cl ws H) : va_P D cl ws' H := va_P_mem.mpr (fun q hq => va_P_mem.mp h q (hp.mem_iff.mpr hq))
theorem va_D_perm {A : Nat → Prop} {ws ws' : va_W} (hp : ws.Perm ws') (h : va_D A ws) : va_D A ws' := va_D_of ((hp.map Prod.fst).nodup_iff.mp (va_D_nd h)) (fun q hq => va_D_in h (hp.mem_iff.mpr hq))
theorem va_A_mem {ws : va_W} {sz q : Nat} : va_A ws sz q ↔ (∃ x ∈ ws, x.1 = q) ∨ sz ≤ q := by
  constructor
  · rintro (⟨j, e, h⟩ | h)
    · exact Or.inl ⟨(q, e), List.mem_of_getElem? h, rfl⟩
    · exact Or.inr h
  · rintro (⟨x, hx, rfl⟩ | h)
    · obtain ⟨j, hj⟩ := List.mem_iff_getElem?.mp hx
      exact Or.inl ⟨j, x.2, hj⟩
    · exact Or.inr h
/-- behind a call: the callee's world as it came back, beside the rest -/
theorem join_perm {A0 : Nat → Prop} {D : va_G} {ws wc wr wF : va_W} {H H1 : Heap} (hp : ws.Perm (wc ++ wr)) (hP : va_P D vwCl ws H) (hD : va_D A0 ws) (hF : ∀ q, va_A wc H.size q → A0 q)
    (hk : ∀ q : Nat, q < H.size → ¬ va_A wc H.size q → H1[q]? = H[q]?) (hP1 : va_P D vwCl wF H1) (hD1 : va_D (va_A wc H.size) wF) : va_P D vwCl (wF ++ wr) H1 ∧ va_D A0 (wF ++ wr) := by
  have hP' := va_P_mem.mp (va_P_perm hp hP)
  have hD' := va_D_perm hp hD
  have hnd := va_D_nd hD'
  rw [List.map_append, List.nodup_append] at hnd
  have apart : ∀ q ∈ wr, q.1 < H.size ∧ ¬ va_A wc H.size q.1 := by
    intro q hq
    have hl : q.1 < H.size := by
      obtain ⟨j, hj⟩ := List.mem_iff_getElem?.mp (List.mem_append_right wc hq)
      exact ((va_P_perm hp hP) j q hj).lt
    refine ⟨hl, fun h => ?_⟩
    rcases va_A_mem.mp h with ⟨x, hx, he⟩ | h
    · exact hnd.2.2 x.1 (List.mem_map.mpr ⟨x, hx, rfl⟩) q.1 (List.mem_map.mpr ⟨q, hq, rfl⟩) he
    · omega
  constructor
  · refine va_P_mem.mpr (fun q hq => ?_)
    rcases List.mem_append.mp hq with h | h
    · exact va_P_mem.mp hP1 q h
    · obtain ⟨g1, g2⟩ := apart q h
      exact (hP' q (List.mem_append_right _ h)).kept (hk q.1 g1 g2)
  · refine va_D_of ?_ (fun q hq => ?_)
    · rw [List.map_append, List.nodup_append]
      refine ⟨va_D_nd hD1, hnd.2.1, fun a ha b hb he => ?_⟩
      obtain ⟨x, hx, rfl⟩ := List.mem_map.mp ha
      obtain ⟨y, hy, rfl⟩ := List.mem_map.mp hb
      exact (apart y hy).2 (he ▸ va_D_in hD1 hx)
    · rcases List.mem_append.mp hq with h | h
      · exact hF _ (va_D_in hD1 h)
      · exact va_D_in hD' (List.mem_append_right _ h)
theorem perm_idx {X Y : va_W} (is : List Nat) (h : is.Perm (List.range X.length)) (hX : is.map (fun i => X[i]?) = Y.map some) : X.Perm Y := by
  have h1 : (X.map some).Perm (Y.map some) := by
    rw [← hX]
    have h2 : X.map some = (List.range X.length).map (fun i => X[i]?) := by
      apply List.ext_getElem?
      intro j
      rw [List.getElem?_map, List.getElem?_map]
      by_cases hj : j < X.length
      · rw [List.getElem?_range hj, List.getElem?_eq_getElem hj]
        simp [hj]
      · rw [List.getElem?_eq_none (by omega), List.getElem?_eq_none (by simpa using hj)]
        rfl
    rw [h2]
    exact (h.map _).symm
  have h3 := h1.filterMap id
  simpa [List.filterMap_map] using h3
end PRM
section WWT
/-- contracts whose world behind them is told by a property, and that may make cells -/
def MVx (l : Launch) (y : MethodName) (cc : ByteArray) (nL : Nat) (rm : Room) (D : va_G) (k : Nat → ClassId) (avs : List Value) (ws : va_W) (PF : va_W → Prop) (mc ms : Nat) : Prop :=
  ∀ sz, Met l y (WSM y cc nL none) rm (va_Pc avs (PRE D k ws sz)) (va_Qv PF (fun wsF t => PST D k ws wsF sz t) (va_A ws sz)) mc ms (va_A ws sz)
def MIx (l : Launch) (y : MethodName) (cc : ByteArray) (nL : Nat) (rt : FieldType) (rm : Room) (D : va_G) (k : Nat → ClassId) (avs : List Value) (ws : va_W) (PF : Int32 → va_W → Prop) (mc ms : Nat) : Prop :=
  ∀ sz, Met l y (WSM y cc nL (some rt)) rm (va_Pc avs (PRE D k ws sz)) (va_Qi (fun v wsF => PF v wsF ∧ narrow rt (.int v) = .int v) (fun wsF t => PST D k ws wsF sz t) (va_A ws sz)) mc ms (va_A ws sz)
theorem MV.x {l : Launch} {y : MethodName} {cc : ByteArray} {nL : Nat} {rm : Room} {D : va_G} {k : Nat → ClassId} {avs : List Value} {ws wsF : va_W} (h : MV l y cc nL rm D k avs ws wsF) : MVx l y cc nL rm D k avs ws (fun w => w = wsF) 0 0 := by
  intro sz p e ha hc hk s m args below hf h2 hP hT
  obtain ⟨k1, o, h3, h4, h5, ⟨⟨⟨u, e1, -, hB⟩, hF⟩, hL⟩⟩ := h sz p e ha hc hk s m args below hf h2 hP hT
  exact ⟨k1, o, h3, h4, h5, ⟨⟨⟨wsF, e1, rfl, hB⟩, hF⟩, hL⟩⟩
theorem MI.x {l : Launch} {y : MethodName} {cc : ByteArray} {nL : Nat} {rt : FieldType} {rm : Room} {D : va_G} {k : Nat → ClassId} {avs : List Value} {ws wsF : va_W} {r : Int32} (h : MI l y cc nL rt rm D k avs ws r wsF) : MIx l y cc nL rt rm D k avs ws (fun v w => v = r ∧ w = wsF) 0 0 := by
  intro sz p e ha hc hk s m args below hf h2 hP hT
  obtain ⟨k1, o, h3, h4, h5, ⟨⟨⟨v, u, e1, hv, hB⟩, hF⟩, hL⟩⟩ := h sz p e ha hc hk s m args below hf h2 hP hT
  exact ⟨k1, o, h3, h4, h5, ⟨⟨⟨v, wsF, e1, ⟨⟨hv.1, rfl⟩, hv.2⟩, hB⟩, hF⟩, hL⟩⟩
abbrev RMa (frames cells slots locals : Nat) : Room := { frames := frames, cells := cells, slots := slots, locals := locals }
abbrev RoomA (R rm : Room) (maxL mc ms : Nat) : Prop := (rm.frames + 1 ≤ R.frames ∧ 8 + (maxL + 11) + rm.locals ≤ R.locals) ∧ rm.cells = mc ∧ rm.slots = ms
variable {p : Program} {l : Launch} {e : Env} {R : Room} {s : State} {m : MethodId} {args : Array Value} {below : List Frame} {meth : Method} {c : Code} {Q : State → Prop} {cells slots : Nat} {cc : ByteArray} {nL : Nat} {own : String} {D : va_G} {k : Nat → ClassId} {A : Nat → Prop} {ws ws' : va_W} {lv lv' : List (Nat × Value)} {pc tgt : Nat} {st : List Value}
theorem ww_perm (hp : ws.Perm ws') (kk : WW p l e R s m args below meth c Q nL D A cells slots ws' lv pc st) : WW p l e R s m args below meth c Q nL D A cells slots ws lv pc st := fun H locs ls hP hD hS hl => kk H locs ls (va_P_perm hp hP) (va_D_perm hp hD) hS hl
theorem ww_widen {c2 s2 : Nat} (h1 : cells ≤ c2) (h2 : slots ≤ s2) (kk : WW p l e R s m args below meth c Q nL D A c2 s2 ws lv pc st) : WW p l e R s m args below meth c Q nL D A cells slots ws lv pc st := fun H locs ls hP hD hS hl => W.widen h1 h2 (kk H locs ls hP hD hS hl)
theorem recv_mem {H : Heap} {b ci : Nat} {fs : List Value} {T : u_T} {N : Nat} {C9 : String} (C : CX p s m args c cc nL own D k A) (hP : va_P D vwCl ws H) (hq : (b, .inr (ci, fs)) ∈ ws) (hci : vwCl[ci]? = some (C9, T, N)) : ∃ cell : Cell, H[b]? = some cell ∧ cell.vm.isStatics = false ∧ s.vm.findClass C9 = some cell.cls := by
  obtain ⟨j, hj⟩ := List.mem_iff_getElem?.mp hq
  exact va_recv C.2.2.2.2.2.1 hP hci hj
theorem free_perm {A0 : Nat → Prop} {H0 H : Heap} {locs : List Loc} {wc wr : va_W} (hp : ws.Perm (wc ++ wr)) (hD : va_D A0 ws) (hS : va_S A0 H0 H locs) (hA : ∀ q, H0.size ≤ q → A0 q) : ∀ q, va_A wc H.size q → A0 q := by
  intro q h
  rcases va_A_mem.mp h with ⟨x, hx, rfl⟩ | h
  · exact va_D_in hD (hp.mem_iff.mpr (List.mem_append_left _ hx))
  · exact hA q (Nat.le_trans hS.1 h)
theorem cut_perm {wc wr : va_W} (hp : ws.Perm (wc ++ wr)) (hD : va_D A ws) : va_D (fun _ => True) wc := by
  have h := va_D_nd (va_D_perm hp hD)
  rw [List.map_append, List.nodup_append] at h
  exact va_D_of h.1 (fun _ _ => trivial)
theorem ww_callPVv (C : CX p s m args c cc nL own D k A) {y : MethodName} {bytes : ByteArray} {maxL n index b mc ms : Nat} {rm : Room} {wc wr : va_W} {PF : va_W → Prop} {As rest : List Value} (hM : MVx l y bytes maxL rm D k (.ref b :: As) wc PF mc ms) (hw : CWV own index y bytes maxL none n) (hR : RoomA R rm maxL mc ms) {ci : Nat} {fs : List Value} {T : u_T} {N : Nat} (hq : (b, .inr (ci, fs)) ∈ ws) (hci : vwCl[ci]? = some (y.cls, T, N)) (hp : ws.Perm (wc ++ wr)) (hst : st = As.reverse ++ .ref b :: rest) (hn : As.length = n) (hrest : (rest.map fun v => v.category).sum ≤ 8) (hcap : cells + mc ≤ R.cells ∧ slots + ms ≤ R.slots) (hd : decode cc pc = .ok (.invokevirtual index, 3)) (kk : ∀ wF, PF wF → WW p l e R s m args below meth c Q nL D A (cells + mc) (slots + ms) (wF ++ wr) lv (pc + 3) rest) : WW p l e R s m args below meth c Q nL D A cells slots ws lv pc st := by
  subst hst
  intro H locs ls hP hD hS hl
  have hF := free_perm hp hD hS C.2.2.2.2.2.2.1
  have hPc : va_P D vwCl wc H := va_P_mem.mpr (fun q hq => va_P_mem.mp (va_P_perm hp hP) q (List.mem_append_left _ hq))
  have hDt := cut_perm hp hD
  refine va_callv (va_runV (As := As) (rest := rest) ⟨C.1, C.2.1, C.2.2.1, C.2.2.2.1, C.2.2.2.2.1⟩ (hM H.size) ⟨callB_of n C.2.2.2.2.1 (wsm_good hw.2.2.2.2.1) rfl hR.2.1 hR.2.2 (C.2.2.2.2.1 _ hw.2.2.2.1) (C.2.2.2.2.1 _ hw.1) hw.2.2.2.2.2 hR.1, C.2.2.2.2.1 _ hw.2.1, C.2.2.2.2.1 _ hw.2.2.1⟩ ⟨pre_blind D k _ wc H.size, recv_mem C hP hq hci, fun U hU hW => ⟨rfl, pre_of C hPc hDt hS hF U hU hW⟩⟩ rfl hn hl.1 rfl (lv_room hrest) hd hcap) hS (fun q _ h => hF q h) hF (fun u t H1 locs1 ht hvm hw1 hB hz1 hk1 hS1 => ?_)
  obtain ⟨hP1, hK1, hD1⟩ := hB
  rw [ht] at hP1
  obtain ⟨hP2, hD2⟩ := join_perm hp hP hD hF hk1 hP1 hD1
  exact kk u hw1 H1 locs1 ls hP2 hD2 hS1 hl
theorem ww_callPVi (C : CX p s m args c cc nL own D k A) {y : MethodName} {bytes : ByteArray} {maxL n index b mc ms : Nat} {rt : FieldType} {rm : Room} {wc wr : va_W} {PF : Int32 → va_W → Prop} {As rest : List Value} (hM : MIx l y bytes maxL rt rm D k (.ref b :: As) wc PF mc ms) (hw : CWV own index y bytes maxL (some rt) n) (hR : RoomA R rm maxL mc ms) {ci : Nat} {fs : List Value} {T : u_T} {N : Nat} (hq : (b, .inr (ci, fs)) ∈ ws) (hci : vwCl[ci]? = some (y.cls, T, N)) (hp : ws.Perm (wc ++ wr)) (hst : st = As.reverse ++ .ref b :: rest) (hn : As.length = n) (hrest : (rest.map fun v => v.category).sum ≤ 8) (hcap : cells + mc ≤ R.cells ∧ slots + ms ≤ R.slots) (hd : decode cc pc = .ok (.invokevirtual index, 3)) (kk : ∀ v wF, PF v wF → narrow rt (.int v) = .int v → WW p l e R s m args below meth c Q nL D A (cells + mc) (slots + ms) (wF ++ wr) lv (pc + 3) (.int v :: rest)) : WW p l e R s m args below meth c Q nL D A cells slots ws lv pc st := by
  subst hst
  intro H locs ls hP hD hS hl
  have hF := free_perm hp hD hS C.2.2.2.2.2.2.1
  have hPc : va_P D vwCl wc H := va_P_mem.mpr (fun q hq => va_P_mem.mp (va_P_perm hp hP) q (List.mem_append_left _ hq))
  have hDt := cut_perm hp hD
  refine va_calli (va_runV (As := As) (rest := rest) ⟨C.1, C.2.1, C.2.2.1, C.2.2.2.1, C.2.2.2.2.1⟩ (hM H.size) ⟨callB_of n C.2.2.2.2.1 (wsm_good hw.2.2.2.2.1) rfl hR.2.1 hR.2.2 (C.2.2.2.2.1 _ hw.2.2.2.1) (C.2.2.2.2.1 _ hw.1) hw.2.2.2.2.2 hR.1, C.2.2.2.2.1 _ hw.2.1, C.2.2.2.2.1 _ hw.2.2.1⟩ ⟨pre_blind D k _ wc H.size, recv_mem C hP hq hci, fun U hU hW => ⟨rfl, pre_of C hPc hDt hS hF U hU hW⟩⟩ rfl hn hl.1 rfl (lv_room hrest) hd hcap) hS (fun q _ h => hF q h) hF (fun r9 u t H1 locs1 ht hvm hw1 hB hz1 hk1 hS1 => ?_)
  obtain ⟨hP1, hK1, hD1⟩ := hB
  rw [ht] at hP1
  obtain ⟨hP2, hD2⟩ := join_perm hp hP hD hF hk1 hP1 hD1
  exact kk r9 u hw1.1 hw1.2 H1 locs1 ls hP2 hD2 hS1 hl
end WWT
