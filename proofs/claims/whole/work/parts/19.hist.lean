theorem perm_g {α : Type} {X Y : List α} {n : Nat} (is : List Nat) (hn : X.length = n) (h : is.Perm (List.range n)) (hX : is.map (fun i => X[i]?) = Y.map some) : X.Perm Y := by
  subst hn
  have h1 : (X.map some).Perm (Y.map some) := by
    rw [← hX]
    have h2 : X.map some = (List.range X.length).map (fun i => X[i]?) := by
      apply List.ext_getElem?
      intro j
      rw [List.getElem?_map, List.getElem?_map]
      by_cases hj : j < X.length
      · rw [List.getElem?_range hj, List.getElem?_eq_getElem hj]
        simp [hj]
      · rw [List.getElem?_eq_none (by omega), List.getElem?_eq_none (by simpa using hj)]
        rfl
    rw [h2]
    exact (h.map _).symm
  have h3 := h1.filterMap id
  simpa [List.filterMap_map] using h3
theorem perm_f {α : Type} {X Y : List (List α)} {n : Nat} (is : List Nat) (hn : X.length = n) (h : is.Perm (List.range n)) (hX : is.map (fun i => X[i]?) = Y.map some) : X.flatten.Perm Y.flatten := (perm_g is hn h hX).flatten
/-- a state's data: size, full, turns, firstFull, lastFull, marks, kind, traders, owned, pulls, wished -/
abbrev SD : Type := Int32 × Int32 × Int32 × Int32 × Int32 × (Nat → Int32) × Int32 × Int32 × (Nat → Int32) × (Nat → Int64) × (Nat → Int32)
/-- its cells: state, grid, rule, marks, owned, wished, pulls -/
abbrev AD : Type := Nat × Nat × Nat × Nat × Nat × Nat × Nat
abbrev stC (k : Nat → ClassId) (a : AD) (d : SD) : va_W := [oX5 a.1 a.2.1 a.2.2.1, oX1 a.2.1 a.2.2.2.1 d.1 d.2.1 d.2.2.1 d.2.2.2.1 d.2.2.2.2.1, aI k a.2.2.2.1 153 d.2.2.2.2.2.1, oX4 a.2.2.1 a.2.2.2.2.1 a.2.2.2.2.2.1 a.2.2.2.2.2.2 d.2.2.2.2.2.2.1 d.2.2.2.2.2.2.2.1, aI k a.2.2.2.2.1 12 d.2.2.2.2.2.2.2.2.1, aJ k a.2.2.2.2.2.2 9 d.2.2.2.2.2.2.2.2.2.1, aI k a.2.2.2.2.2.1 12 d.2.2.2.2.2.2.2.2.2.2]
def tS (k : Nat → ClassId) (ad : Nat → AD) (hd : Nat → Option SD) (i : Nat) : va_W := match hd i with
  | none => []
  | some d => stC k (ad i) d
def PL (k : Nat → ClassId) (ad : Nat → AD) (hd : Nat → Option SD) : va_W := (List.range 11).flatMap (tS k ad hd)
def PLx (k : Nat → ClassId) (ad : Nat → AD) (hd : Nat → Option SD) (i : Nat) : va_W := ((List.range 11).filter (fun j => decide (j ≠ i))).flatMap (tS k ad hd)
def rgR (ad : Nat → AD) (hd : Nat → Option SD) : Nat → Option Nat := fun i => if i < 9 then (hd i).map (fun _ => (ad i).1) else none
def rgK (ad : Nat → AD) (hd : Nat → Option SD) : Nat → Option Nat := fun i => (hd (9 + i)).map (fun _ => (ad (9 + i)).1)
def TT (k : Nat → ClassId) (qr qk : Nat) (ad : Nat → AD) (hd : Nat → Option SD) : va_W := aS k qr 9 (rgR ad hd) :: aS k qk 2 (rgK ad hd) :: PL k ad hd
theorem pl_cut (k : Nat → ClassId) (ad : Nat → AD) (hd : Nat → Option SD) {i : Nat} (hi : i < 11) : (PL k ad hd).Perm (tS k ad hd i ++ PLx k ad hd i) := by
  have h1 : (List.range 11).Perm (i :: (List.range 11).filter (fun j => decide (j ≠ i))) := by
    have : ∀ i, i < 11 → (List.range 11).Perm (i :: (List.range 11).filter (fun j => decide (j ≠ i))) := by decide
    exact this i hi
  have h2 := List.Perm.flatMap_right (tS k ad hd) h1
  simpa [PL, PLx, List.flatMap_cons] using h2
theorem plx_eq (k : Nat → ClassId) {ad ad' : Nat → AD} {hd hd' : Nat → Option SD} {i : Nat} (h1 : ∀ j, j ≠ i → ad' j = ad j) (h2 : ∀ j, j ≠ i → hd' j = hd j) : PLx k ad' hd' i = PLx k ad hd i := by
  unfold PLx
  have : ∀ l : List Nat, (∀ j ∈ l, j ≠ i) → l.flatMap (tS k ad' hd') = l.flatMap (tS k ad hd) := by
    intro l
    induction l with
    | nil => intro _; rfl
    | cons a l ih =>
      intro h
      rw [List.flatMap_cons, List.flatMap_cons, ih (fun j hj => h j (List.mem_cons_of_mem _ hj))]
      have ha := h a List.mem_cons_self
      unfold tS
      rw [h1 a ha, h2 a ha]
  exact this _ (fun j hj => by simpa using (List.mem_filter.mp hj).2)
theorem ts_some {k : Nat → ClassId} {ad : Nat → AD} {hd : Nat → Option SD} {i : Nat} {d : SD} (h : hd i = some d) : tS k ad hd i = stC k (ad i) d := by unfold tS; rw [h]
theorem ts_none {k : Nat → ClassId} {ad : Nat → AD} {hd : Nat → Option SD} {i : Nat} (h : hd i = none) : tS k ad hd i = [] := by unfold tS; rw [h]
def stNew : SD := (4, 0, 0, -1, -1, mk0, 0, 0, fun _ => 0, fun _ => 0, fun _ => 0)
/-- a state over which another is copied -/
def cpS (d : SD) (s1 : Int32) (s2 : Nat → Int32) (s3 s4 : Int32) (s5 : Nat → Int32) (s6 : Nat → Int64) (s7 : Nat → Int32) : Option SD := bd7 (fX5_copy s1 s2 s3 s4 s5 s6 s7 d.1 d.2.2.2.2.2.1 d.2.2.2.2.2.2.1 d.2.2.2.2.2.2.2.1 d.2.2.2.2.2.2.2.2.1 d.2.2.2.2.2.2.2.2.2.1 d.2.2.2.2.2.2.2.2.2.2) fun v1 v2 v3 v4 v5 v6 v7 => some (v1, d.2.1, d.2.2.1, d.2.2.2.1, d.2.2.2.2.1, v2, v3, v4, v5, v6, v7)
section WWH
variable {p : Program} {l : Launch} {e : Env} {R : Room} {s : State} {m : MethodId} {args : Array Value} {below : List Frame} {meth : Method} {c : Code} {Q : State → Prop} {cells slots : Nat} {cc : ByteArray} {nL : Nat} {own : String} {D : va_G} {k : Nat → ClassId} {A : Nat → Prop} {ws ws' : va_W} {lv lv' : List (Nat × Value)} {pc tgt : Nat} {st : List Value}
theorem ww_aald (C : CX p s m args c cc nL own D k A) {a n : Nat} {f : Nat → Option Nat} {i : Int32} {v : Value} (q0 : Nat) (hq : ws[q0]? = some (aS k a n f)) (h1 : vp_in i n) (hv : va_rf (f i.toNatClampNeg) = v) (hd : decode cc pc = .ok (.aaload, 1)) (kk : WW p l e R s m args below meth c Q nL D A cells slots ws lv (pc + 1) (v :: st)) : WW p l e R s m args below meth c Q nL D A cells slots ws lv pc (.int i :: .ref a :: st) := by
  subst hv
  exact fun H locs ls hP hD hS hl => va_aldq C.1 C.2.1 C.2.2.2.2.2.1 hP q0 4 hq rfl h1 hd (kk H locs ls hP hD hS hl)
theorem ww_aast (C : CX p s m args c cc nL own D k A) {a n v : Nat} {f : Nat → Option Nat} {i : Int32} {vs : List Value} (q0 qk : Nat) (hq : ws[q0]? = some (aS k a n f)) (hv : ws[qk]? = some (v, .inr (5, vs))) (h1 : vp_in i n) (hs : ws.set q0 (aS k a n (va_up f i.toNatClampNeg (some v))) = ws') (hd : decode cc pc = .ok (.aastore, 1)) (kk : WW p l e R s m args below meth c Q nL D A cells slots ws' lv (pc + 1) st) : WW p l e R s m args below meth c Q nL D A cells slots ws lv pc (.ref v :: .int i :: .ref a :: st) := by
  subst hs
  exact fun H locs ls hP hD hS hl => va_astq (r := (RX5, TX5, 2)) C.1 C.2.1 C.2.2.2.2.2.1 hP hD hS q0 4 qk 5 hq rfl hv rfl h1 hd (fun H1 locs1 hP hD hS => kk H1 locs1 ls hP hD hS hl)
theorem ww_ifnonnull (C : CX p s m args c cc nL own D k A) {x : Nat} {off : Int} (hd : decode cc pc = .ok (.ifnonnull off, 3)) (ht : (pc : Int) + off = (tgt : Int)) (kk : WW p l e R s m args below meth c Q nL D A cells slots ws lv tgt st) : WW p l e R s m args below meth c Q nL D A cells slots ws lv pc (.ref x :: st) := fun H locs ls hP hD hS hl => lv_ifnonnull C.1 C.2.1 hd ht (kk H locs ls hP hD hS hl)
theorem ww_ifnonnullN (C : CX p s m args c cc nL own D k A) {off : Int} (hd : decode cc pc = .ok (.ifnonnull off, 3)) (kk : WW p l e R s m args below meth c Q nL D A cells slots ws lv (pc + 3) st) : WW p l e R s m args below meth c Q nL D A cells slots ws lv pc (.null :: st) := fun H locs ls hP hD hS hl => lv_ifnonnullN C.1 C.2.1 hd (kk H locs ls hP hD hS hl)
theorem ww_ifnull (C : CX p s m args c cc nL own D k A) {x : Nat} {off : Int} (hd : decode cc pc = .ok (.ifnull off, 3)) (kk : WW p l e R s m args below meth c Q nL D A cells slots ws lv (pc + 3) st) : WW p l e R s m args below meth c Q nL D A cells slots ws lv pc (.ref x :: st) := fun H locs ls hP hD hS hl => lv_ifnull C.1 C.2.1 hd (kk H locs ls hP hD hS hl)
theorem ww_ifnullN (C : CX p s m args c cc nL own D k A) {off : Int} (hd : decode cc pc = .ok (.ifnull off, 3)) (ht : (pc : Int) + off = (tgt : Int)) (kk : WW p l e R s m args below meth c Q nL D A cells slots ws lv tgt st) : WW p l e R s m args below meth c Q nL D A cells slots ws lv pc (.null :: st) := fun H locs ls hP hD hS hl => lv_ifnullN C.1 C.2.1 hd ht (kk H locs ls hP hD hS hl)
end WWH
theorem in_of {x : Int32} {n : Int32} {N : Nat} (hN : n.toNatClampNeg = N) (h0 : ¬ x < 0) (h1 : x < n) : vp_in x N ∧ x.toNatClampNeg < N := by
  have hx : 0 ≤ x.toInt := by
    have := Int32.not_lt.mp h0
    have := Int32.le_iff_toInt_le.mp this
    simpa using this
  have h2 := Int32.lt_iff_toInt_lt.mp h1
  have e1 : x.toNatClampNeg = x.toInt.toNat := rfl
  have e2 : n.toNatClampNeg = n.toInt.toNat := rfl
  have h3 : x.toNatClampNeg < N := by rw [← hN, e1, e2]; omega
  exact ⟨fun h => h.elim h0 (fun h => by omega), h3⟩
/-- the ring with a state put at a place -/
theorem rg_put {ad : Nat → AD} {hd : Nat → Option SD} {n : Nat} {a : AD} {d : SD} (hn : n < 9) : rgR (va_up ad n a) (va_up hd n (some d)) = va_up (rgR ad hd) n (some a.1) := by
  funext i
  by_cases h : i = n
  · subst h; simp [rgR, va_up, hn]
  · simp [rgR, va_up, h]
theorem rg_keep {ad : Nat → AD} {hd : Nat → Option SD} {n : Nat} {d d' : SD} (h : hd n = some d) : rgR ad (va_up hd n (some d')) = rgR ad hd := by
  funext i
  by_cases h2 : i = n
  · subst h2; simp [rgR, va_up, h]
  · simp [rgR, va_up, h2]
theorem rk_put {ad : Nat → AD} {hd : Nat → Option SD} {n : Nat} {a : AD} {d : SD} : rgK (va_up ad (9 + n) a) (va_up hd (9 + n) (some d)) = va_up (rgK ad hd) n (some a.1) := by
  funext i
  by_cases h : i = n
  · subst h; simp [rgK, va_up]
  · have h2 : ¬ 9 + i = 9 + n := by omega
    simp [rgK, va_up, h, h2]
theorem rk_keep {ad : Nat → AD} {hd : Nat → Option SD} {n : Nat} {d d' : SD} (h : hd n = some d) : rgK ad (va_up hd n (some d')) = rgK ad hd := by
  funext i
  by_cases h2 : 9 + i = n
  · subst h2; simp [rgK, va_up, h]
  · simp [rgK, va_up, h2]
theorem rk_far {ad : Nat → AD} {hd : Nat → Option SD} {n : Nat} {a : AD} {d : SD} (hn : n < 9) : rgK (va_up ad n a) (va_up hd n (some d)) = rgK ad hd := by
  funext i
  have h2 : ¬ 9 + i = n := by omega
  simp [rgK, va_up, h2]
theorem rg_far {ad : Nat → AD} {hd : Nat → Option SD} {n : Nat} {a : AD} {d : SD} (hn : 9 ≤ n) : rgR (va_up ad n a) (va_up hd n (some d)) = rgR ad hd := by
  funext i
  unfold rgR
  by_cases h : i < 9
  · have h2 : ¬ i = n := by omega
    simp [h, va_up, h2]
  · simp [h]
/-- the pool with a state put at an empty place -/
theorem pl_new (k : Nat → ClassId) {ad : Nat → AD} {hd : Nat → Option SD} {n : Nat} {a : AD} {d : SD} (hn : n < 11) (h : hd n = none) : (stC k a d ++ PL k ad hd).Perm (PL k (va_up ad n a) (va_up hd n (some d))) := by
  have h1 := pl_cut k ad hd hn
  rw [ts_none h, List.nil_append] at h1
  have h2 := pl_cut k (va_up ad n a) (va_up hd n (some d)) hn
  rw [ts_some (show va_up hd n (some d) n = some d by simp [va_up]), show va_up ad n a n = a by simp [va_up], plx_eq k (ad := ad) (hd := hd) (fun j hj => by simp [va_up, hj]) (fun j hj => by simp [va_up, hj])] at h2
  exact ((List.Perm.append_left _ h1).trans h2.symm)
theorem pl_set (k : Nat → ClassId) {ad : Nat → AD} {hd : Nat → Option SD} {n : Nat} {d : SD} (hn : n < 11) : (stC k (ad n) d ++ PLx k ad hd n).Perm (PL k ad (va_up hd n (some d))) := by
  have h2 := pl_cut k ad (va_up hd n (some d)) hn
  rw [ts_some (show va_up hd n (some d) n = some d by simp [va_up]), plx_eq k (ad := ad) (hd := hd) (fun j hj => rfl) (fun j hj => by simp [va_up, hj])] at h2
  exact h2.symm

def fX2_note (c_p1_grid_size : Int32) (c_p1_grid_marks : Nat → Int32) (c_p1_rule_kind : Int32) (c_p1_rule_traders : Int32) (c_p1_rule_owned : Nat → Int32) (c_p1_rule_pulls : Nat → Int64) (c_p1_rule_wished : Nat → Int32) (c_next : Int32) (hd : Nat → Option SD) : Option (Nat → Option SD) := if c_next < 0 then some hd else if c_next < (9 : Int32) then (cpS ((hd c_next.toNatClampNeg).getD stNew) c_p1_grid_size c_p1_grid_marks c_p1_rule_kind c_p1_rule_traders c_p1_rule_owned c_p1_rule_pulls c_p1_rule_wished).bind fun d => some (va_up hd c_next.toNatClampNeg (some d)) else some hd
/-- worlds around State.copy: the kept state at place i is cut out of the tail -/
theorem tail_cut (k : Nat → ClassId) (qr qk : Nat) (ad : Nat → AD) (hd : Nat → Option SD) {i : Nat} {d : SD} (hi : i < 11) (h : hd i = some d) (X0 X1 : va_W) : ((X0 ++ X1) ++ TT k qr qk ad hd).Perm ((stC k (ad i) d ++ X1) ++ (X0 ++ (aS k qr 9 (rgR ad hd) :: aS k qk 2 (rgK ad hd) :: PLx k ad hd i))) := by
  have hpl := pl_cut k ad hd hi
  rw [ts_some h] at hpl
  have h6 : ((X0 ++ X1) ++ TT k qr qk ad hd).Perm ((X0 ++ X1) ++ (aS k qr 9 (rgR ad hd) :: aS k qk 2 (rgK ad hd) :: (stC k (ad i) d ++ PLx k ad hd i))) := List.Perm.append_left _ ((hpl.cons _).cons _)
  have h5 := perm_f (X := [X0, X1, [aS k qr 9 (rgR ad hd), aS k qk 2 (rgK ad hd)], stC k (ad i) d, PLx k ad hd i]) (Y := [stC k (ad i) d, X1, X0, [aS k qr 9 (rgR ad hd), aS k qk 2 (rgK ad hd)], PLx k ad hd i]) (n := 5) [3, 1, 0, 2, 4] rfl (by decide) rfl
  refine h6.trans ?_
  simpa only [List.flatten_cons, List.flatten_nil, List.append_nil, List.append_assoc, List.cons_append, List.nil_append] using h5
theorem tail_set (k : Nat → ClassId) (qr qk : Nat) (ad : Nat → AD) (hd : Nat → Option SD) {i : Nat} {d d2 : SD} (hi : i < 11) (h : hd i = some d) (X0 X1 : va_W) : ((stC k (ad i) d2 ++ X1) ++ (X0 ++ (aS k qr 9 (rgR ad hd) :: aS k qk 2 (rgK ad hd) :: PLx k ad hd i))).Perm ((X0 ++ X1) ++ TT k qr qk ad (va_up hd i (some d2))) := by
  have hpl := pl_set k (ad := ad) (hd := hd) (n := i) (d := d2) hi
  have e : TT k qr qk ad (va_up hd i (some d2)) = aS k qr 9 (rgR ad hd) :: aS k qk 2 (rgK ad hd) :: PL k ad (va_up hd i (some d2)) := by unfold TT; rw [rg_keep h, rk_keep h]
  rw [e]
  have h6 : ((X0 ++ X1) ++ (aS k qr 9 (rgR ad hd) :: aS k qk 2 (rgK ad hd) :: (stC k (ad i) d2 ++ PLx k ad hd i))).Perm ((X0 ++ X1) ++ (aS k qr 9 (rgR ad hd) :: aS k qk 2 (rgK ad hd) :: PL k ad (va_up hd i (some d2)))) := List.Perm.append_left _ ((hpl.cons _).cons _)
  have h5 := perm_f (X := [stC k (ad i) d2, X1, X0, [aS k qr 9 (rgR ad hd), aS k qk 2 (rgK ad hd)], PLx k ad hd i]) (Y := [X0, X1, [aS k qr 9 (rgR ad hd), aS k qk 2 (rgK ad hd)], stC k (ad i) d2, PLx k ad hd i]) (n := 5) [2, 1, 3, 0, 4] rfl (by decide) rfl
  refine List.Perm.trans ?_ h6
  simpa only [List.flatten_cons, List.flatten_nil, List.append_nil, List.append_assoc, List.cons_append, List.nil_append] using h5
/-- the same, the kept state being read alone -/
theorem tail_back (k : Nat → ClassId) (qr qk : Nat) (ad : Nat → AD) (hd : Nat → Option SD) {i : Nat} {d : SD} (hi : i < 11) (h : hd i = some d) (X0 X1 : va_W) : ((X1 ++ stC k (ad i) d) ++ (X0 ++ (aS k qr 9 (rgR ad hd) :: aS k qk 2 (rgK ad hd) :: PLx k ad hd i))).Perm ((X0 ++ X1) ++ TT k qr qk ad hd) := by
  have hpl := pl_cut k ad hd hi
  rw [ts_some h] at hpl
  have h6 : ((X0 ++ X1) ++ (aS k qr 9 (rgR ad hd) :: aS k qk 2 (rgK ad hd) :: (stC k (ad i) d ++ PLx k ad hd i))).Perm ((X0 ++ X1) ++ TT k qr qk ad hd) := List.Perm.append_left _ ((hpl.symm.cons _).cons _)
  have h5 := perm_f (X := [X1, stC k (ad i) d, X0, [aS k qr 9 (rgR ad hd), aS k qk 2 (rgK ad hd)], PLx k ad hd i]) (Y := [X0, X1, [aS k qr 9 (rgR ad hd), aS k qk 2 (rgK ad hd)], stC k (ad i) d, PLx k ad hd i]) (n := 5) [2, 0, 3, 1, 4] rfl (by decide) rfl
  refine List.Perm.trans ?_ h6
  simpa only [List.flatten_cons, List.flatten_nil, List.append_nil, List.append_assoc, List.cons_append, List.nil_append] using h5
/-- a new state goes into the tail -/
theorem tail_newR (k : Nat → ClassId) (qr qk : Nat) {ad : Nat → AD} {hd : Nat → Option SD} {i : Nat} {a : AD} {d : SD} (hi : i < 9) (h : hd i = none) (X : va_W) : (stC k a d ++ (X ++ (aS k qr 9 (va_up (rgR ad hd) i (some a.1)) :: aS k qk 2 (rgK ad hd) :: PL k ad hd))).Perm (X ++ TT k qr qk (va_up ad i a) (va_up hd i (some d))) := by
  have e : TT k qr qk (va_up ad i a) (va_up hd i (some d)) = aS k qr 9 (va_up (rgR ad hd) i (some a.1)) :: aS k qk 2 (rgK ad hd) :: PL k (va_up ad i a) (va_up hd i (some d)) := by unfold TT; rw [rg_put hi, rk_far hi]
  rw [e]
  have hpl := pl_new k (ad := ad) (hd := hd) (n := i) (a := a) (d := d) (by omega) h
  have h6 : (X ++ (aS k qr 9 (va_up (rgR ad hd) i (some a.1)) :: aS k qk 2 (rgK ad hd) :: (stC k a d ++ PL k ad hd))).Perm (X ++ (aS k qr 9 (va_up (rgR ad hd) i (some a.1)) :: aS k qk 2 (rgK ad hd) :: PL k (va_up ad i a) (va_up hd i (some d)))) := List.Perm.append_left _ ((hpl.cons _).cons _)
  have h5 := perm_f (X := [stC k a d, X, [aS k qr 9 (va_up (rgR ad hd) i (some a.1)), aS k qk 2 (rgK ad hd)], PL k ad hd]) (Y := [X, [aS k qr 9 (va_up (rgR ad hd) i (some a.1)), aS k qk 2 (rgK ad hd)], stC k a d, PL k ad hd]) (n := 4) [1, 2, 0, 3] rfl (by decide) rfl
  refine List.Perm.trans ?_ h6
  simpa only [List.flatten_cons, List.flatten_nil, List.append_nil, List.append_assoc, List.cons_append, List.nil_append] using h5
/-- .. and into the two that are kept -/
theorem tail_newK (k : Nat → ClassId) (qr qk : Nat) {ad : Nat → AD} {hd : Nat → Option SD} {i : Nat} {a : AD} {d : SD} (hi : i < 2) (h : hd (9 + i) = none) (X : va_W) : (stC k a d ++ (X ++ (aS k qr 9 (rgR ad hd) :: aS k qk 2 (va_up (rgK ad hd) i (some a.1)) :: PL k ad hd))).Perm (X ++ TT k qr qk (va_up ad (9 + i) a) (va_up hd (9 + i) (some d))) := by
  have e : TT k qr qk (va_up ad (9 + i) a) (va_up hd (9 + i) (some d)) = aS k qr 9 (rgR ad hd) :: aS k qk 2 (va_up (rgK ad hd) i (some a.1)) :: PL k (va_up ad (9 + i) a) (va_up hd (9 + i) (some d)) := by unfold TT; rw [rg_far (by omega), rk_put]
  rw [e]
  have hpl := pl_new k (ad := ad) (hd := hd) (n := 9 + i) (a := a) (d := d) (by omega) h
  have h6 : (X ++ (aS k qr 9 (rgR ad hd) :: aS k qk 2 (va_up (rgK ad hd) i (some a.1)) :: (stC k a d ++ PL k ad hd))).Perm (X ++ (aS k qr 9 (rgR ad hd) :: aS k qk 2 (va_up (rgK ad hd) i (some a.1)) :: PL k (va_up ad (9 + i) a) (va_up hd (9 + i) (some d)))) := List.Perm.append_left _ ((hpl.cons _).cons _)
  have h5 := perm_f (X := [stC k a d, X, [aS k qr 9 (rgR ad hd), aS k qk 2 (va_up (rgK ad hd) i (some a.1))], PL k ad hd]) (Y := [X, [aS k qr 9 (rgR ad hd), aS k qk 2 (va_up (rgK ad hd) i (some a.1))], stC k a d, PL k ad hd]) (n := 4) [1, 2, 0, 3] rfl (by decide) rfl
  refine List.Perm.trans ?_ h6
  simpa only [List.flatten_cons, List.flatten_nil, List.append_nil, List.append_assoc, List.cons_append, List.nil_append] using h5
theorem rgR_at {ad : Nat → AD} {hd : Nat → Option SD} {i : Nat} (hi : i < 9) : rgR ad hd i = (hd i).map (fun _ => (ad i).1) := by simp [rgR, hi]
theorem rgK_at {ad : Nat → AD} {hd : Nat → Option SD} {i : Nat} : rgK ad hd i = (hd (9 + i)).map (fun _ => (ad (9 + i)).1) := rfl

set_option maxHeartbeats 4000000 in
set_option maxRecDepth 100000 in
theorem tX2_note (l : Launch) (D : va_G) (k : Nat → ClassId) (q_this q_ring qK : Nat) (q_p1 q_p1_grid q_p1_rule q_p1_grid_marks q_p1_rule_owned q_p1_rule_wished q_p1_rule_pulls : Nat) (c_next c_size : Int32) (c_p1_grid_size : Int32) (c_p1_grid_full : Int32) (c_p1_grid_turns : Int32) (c_p1_grid_firstFull : Int32) (c_p1_grid_lastFull : Int32) (c_p1_grid_marks : Nat → Int32) (c_p1_rule_kind : Int32) (c_p1_rule_traders : Int32) (c_p1_rule_owned : Nat → Int32) (c_p1_rule_pulls : Nat → Int64) (c_p1_rule_wished : Nat → Int32) (ad : Nat → AD) (hd hd2 : Nat → Option SD) (hf : fX2_note c_p1_grid_size c_p1_grid_marks c_p1_rule_kind c_p1_rule_traders c_p1_rule_owned c_p1_rule_pulls c_p1_rule_wished c_next hd = some hd2) : MVx l yX2_note cX2_note 2 (RMa 4 7 199 102) D k [.ref q_this, .ref q_p1] ((([oX2 q_this q_ring c_next c_size] : va_W) ++ [oX5 q_p1 q_p1_grid q_p1_rule, oX1 q_p1_grid q_p1_grid_marks c_p1_grid_size c_p1_grid_full c_p1_grid_turns c_p1_grid_firstFull c_p1_grid_lastFull, aI k q_p1_grid_marks 153 c_p1_grid_marks, oX4 q_p1_rule q_p1_rule_owned q_p1_rule_wished q_p1_rule_pulls c_p1_rule_kind c_p1_rule_traders, aI k q_p1_rule_owned 12 c_p1_rule_owned, aJ k q_p1_rule_pulls 9 c_p1_rule_pulls, aI k q_p1_rule_wished 12 c_p1_rule_wished]) ++ TT k q_ring qK ad hd) (fun w => ∃ ad2, w = (([oX2 q_this q_ring c_next c_size] : va_W) ++ [oX5 q_p1 q_p1_grid q_p1_rule, oX1 q_p1_grid q_p1_grid_marks c_p1_grid_size c_p1_grid_full c_p1_grid_turns c_p1_grid_firstFull c_p1_grid_lastFull, aI k q_p1_grid_marks 153 c_p1_grid_marks, oX4 q_p1_rule q_p1_rule_owned q_p1_rule_wished q_p1_rule_pulls c_p1_rule_kind c_p1_rule_traders, aI k q_p1_rule_owned 12 c_p1_rule_owned, aJ k q_p1_rule_pulls 9 c_p1_rule_pulls, aI k q_p1_rule_wished 12 c_p1_rule_wished]) ++ TT k q_ring qK ad2 hd2) 7 199 := by
  refine mkMVx (own := "DoorWalk$History") (by decide) rfl (Nat.le_of_ble_eq_true rfl) ?_
  intro p e s m args below meth c Q A hret hnm C
  refine ww_lv (lv' := [(0, .ref q_this), (1, .ref q_p1)]) [0, 1] rfl ?_
  have hend : ∀ (pc : Nat), decode cX2_note pc = .ok (.return_, 1) → hd = hd2 → WW p l e (RMa 4 7 199 102) s m args below meth c Q 2 D A 0 0 ((([oX2 q_this q_ring c_next c_size] : va_W) ++ [oX5 q_p1 q_p1_grid q_p1_rule, oX1 q_p1_grid q_p1_grid_marks c_p1_grid_size c_p1_grid_full c_p1_grid_turns c_p1_grid_firstFull c_p1_grid_lastFull, aI k q_p1_grid_marks 153 c_p1_grid_marks, oX4 q_p1_rule q_p1_rule_owned q_p1_rule_wished q_p1_rule_pulls c_p1_rule_kind c_p1_rule_traders, aI k q_p1_rule_owned 12 c_p1_rule_owned, aJ k q_p1_rule_pulls 9 c_p1_rule_pulls, aI k q_p1_rule_wished 12 c_p1_rule_wished]) ++ TT k q_ring qK ad hd) [(0, .ref q_this), (1, .ref q_p1)] pc [] := fun pc h1 h2 => ww_widen (Nat.le_of_ble_eq_true rfl) (Nat.le_of_ble_eq_true rfl) (hret _ _ pc h1 ⟨ad, by rw [h2]⟩)
  have hK : ∀ (ad : Nat → AD) (hd : Nat → Option SD) (d : SD), ¬ c_next < 0 → c_next < (9 : Int32) → hd c_next.toNatClampNeg = some d → ((cpS d c_p1_grid_size c_p1_grid_marks c_p1_rule_kind c_p1_rule_traders c_p1_rule_owned c_p1_rule_pulls c_p1_rule_wished).bind fun d => some (va_up hd c_next.toNatClampNeg (some d))) = some hd2 → WW p l e (RMa 4 7 199 102) s m args below meth c Q 2 D A 7 199 ((([oX2 q_this q_ring c_next c_size] : va_W) ++ [oX5 q_p1 q_p1_grid q_p1_rule, oX1 q_p1_grid q_p1_grid_marks c_p1_grid_size c_p1_grid_full c_p1_grid_turns c_p1_grid_firstFull c_p1_grid_lastFull, aI k q_p1_grid_marks 153 c_p1_grid_marks, oX4 q_p1_rule q_p1_rule_owned q_p1_rule_wished q_p1_rule_pulls c_p1_rule_kind c_p1_rule_traders, aI k q_p1_rule_owned 12 c_p1_rule_owned, aJ k q_p1_rule_pulls 9 c_p1_rule_pulls, aI k q_p1_rule_wished 12 c_p1_rule_wished]) ++ TT k q_ring qK ad hd) [(0, .ref q_this), (1, .ref q_p1)] 45 [] := by
    intro ad hd d h0 h9 hdn hf
    obtain ⟨hin, hlt⟩ := in_of (N := 9) (by decide) h0 h9
    obtain ⟨i, hi⟩ : ∃ i, i = c_next.toNatClampNeg := ⟨_, rfl⟩
    rw [← hi] at hdn hf hlt
    obtain ⟨d2, h1, hf⟩ := bsome hf
    obtain ⟨v1, v2, v3, v4, v5, v6, v7, hcp, h1⟩ := bd7_some h1
    have h1 := Option.some.inj h1
    have hf := Option.some.inj hf
    refine ww_aload_n (pc := 45) C dX2_note_45 rfl 0 rfl ?_
    refine gf2_0 (pc := 46) C kf_X2_11 0 rfl rfl dX2_note_46 ?_
    refine ww_aload_n (pc := 49) C dX2_note_49 rfl 0 rfl ?_
    refine gf2_1 (pc := 50) C kf_X2_17 0 rfl rfl dX2_note_50 ?_
    refine ww_aald (pc := 53) (v := .ref (ad i).1) C 8 rfl hin (by rw [← hi, rgR_at hlt, hdn]; rfl) dX2_note_53 ?_
    refine ww_aload_n (pc := 54) C dX2_note_54 rfl 1 rfl ?_
    have hp := tail_cut k q_ring qK ad hd (by omega) hdn [oX2 q_this q_ring c_next c_size] [oX5 q_p1 q_p1_grid q_p1_rule, oX1 q_p1_grid q_p1_grid_marks c_p1_grid_size c_p1_grid_full c_p1_grid_turns c_p1_grid_firstFull c_p1_grid_lastFull, aI k q_p1_grid_marks 153 c_p1_grid_marks, oX4 q_p1_rule q_p1_rule_owned q_p1_rule_wished q_p1_rule_pulls c_p1_rule_kind c_p1_rule_traders, aI k q_p1_rule_owned 12 c_p1_rule_owned, aJ k q_p1_rule_pulls 9 c_p1_rule_pulls, aI k q_p1_rule_wished 12 c_p1_rule_wished]
    refine ww_callPVv (pc := 55) (As := [.ref q_p1]) (rest := []) C (MV.x (tX5_copy l D k (ad i).1 (ad i).2.1 (ad i).2.2.1 (ad i).2.2.2.1 (ad i).2.2.2.2.1 (ad i).2.2.2.2.2.1 (ad i).2.2.2.2.2.2 q_p1 q_p1_grid q_p1_rule q_p1_grid_marks q_p1_rule_owned q_p1_rule_wished q_p1_rule_pulls d.1 d.2.1 d.2.2.1 d.2.2.2.1 d.2.2.2.2.1 d.2.2.2.2.2.1 d.2.2.2.2.2.2.1 d.2.2.2.2.2.2.2.1 d.2.2.2.2.2.2.2.2.1 d.2.2.2.2.2.2.2.2.2.1 d.2.2.2.2.2.2.2.2.2.2 c_p1_grid_size c_p1_grid_full c_p1_grid_turns c_p1_grid_firstFull c_p1_grid_lastFull c_p1_grid_marks c_p1_rule_kind c_p1_rule_traders c_p1_rule_owned c_p1_rule_pulls c_p1_rule_wished v1 v2 v3 v4 v5 v6 v7 hcp)) cv_X2_25 ⟨⟨Nat.le_of_ble_eq_true rfl, Nat.le_of_ble_eq_true rfl⟩, rfl, rfl⟩ (hp.mem_iff.mpr (List.mem_append_left _ (List.mem_append_left _ List.mem_cons_self))) rfl hp rfl rfl (Nat.le_of_ble_eq_true rfl) ⟨Nat.le_of_ble_eq_true rfl, Nat.le_of_ble_eq_true rfl⟩ dX2_note_55 (fun wF hwF => ?_)
    subst hwF
    subst h1
    refine ww_perm (tail_set k q_ring qK ad hd (d2 := (v1, d.2.1, d.2.2.1, d.2.2.2.1, d.2.2.2.2.1, v2, v3, v4, v5, v6, v7)) (by omega) hdn [oX2 q_this q_ring c_next c_size] [oX5 q_p1 q_p1_grid q_p1_rule, oX1 q_p1_grid q_p1_grid_marks c_p1_grid_size c_p1_grid_full c_p1_grid_turns c_p1_grid_firstFull c_p1_grid_lastFull, aI k q_p1_grid_marks 153 c_p1_grid_marks, oX4 q_p1_rule q_p1_rule_owned q_p1_rule_wished q_p1_rule_pulls c_p1_rule_kind c_p1_rule_traders, aI k q_p1_rule_owned 12 c_p1_rule_owned, aJ k q_p1_rule_pulls 9 c_p1_rule_pulls, aI k q_p1_rule_wished 12 c_p1_rule_wished]) (hret _ _ 58 dX2_note_58 ⟨ad, by rw [hf]⟩)
  unfold fX2_note at hf
  refine ww_aload_n (pc := 0) C dX2_note_0 rfl 0 rfl ?_
  refine gf2_1 (pc := 1) C kf_X2_17 0 rfl rfl dX2_note_1 ?_
  refine ww_if_lt (pc := 4) (tgt := 16) C dX2_note_4 (by decide) (fun hc => ?_) (fun hc => ?_)
  · exact hend 16 dX2_note_16 (Option.some.inj (ifT hc hf))
  have hf := ifF hc hf
  refine ww_aload_n (pc := 7) C dX2_note_7 rfl 0 rfl ?_
  refine gf2_1 (pc := 8) C kf_X2_17 0 rfl rfl dX2_note_8 ?_
  refine ww_bipush (pc := 11) C dX2_note_11 kB_9 ?_
  refine ww_icmp_lt (pc := 13) (tgt := 17) C dX2_note_13 (by decide) (fun hc9 => ?_) (fun hc9 => ?_)
  rotate_left
  · exact hend 16 dX2_note_16 (Option.some.inj (ifF hc9 hf))
  have hf := ifT hc9 hf
  obtain ⟨hin, hlt⟩ := in_of (N := 9) (by decide) hc hc9
  refine ww_aload_n (pc := 17) C dX2_note_17 rfl 0 rfl ?_
  refine gf2_0 (pc := 18) C kf_X2_11 0 rfl rfl dX2_note_18 ?_
  refine ww_aload_n (pc := 21) C dX2_note_21 rfl 0 rfl ?_
  refine gf2_1 (pc := 22) C kf_X2_17 0 rfl rfl dX2_note_22 ?_
  cases hdn : hd c_next.toNatClampNeg with
  | some d =>
    refine ww_aald (pc := 25) (v := .ref (ad c_next.toNatClampNeg).1) C 8 rfl hin (by rw [rgR_at hlt, hdn]; rfl) dX2_note_25 ?_
    refine ww_ifnonnull (pc := 26) (tgt := 45) C dX2_note_26 (by decide) ?_
    refine ww_widen (c2 := 7) (s2 := 199) (Nat.le_of_ble_eq_true rfl) (Nat.le_of_ble_eq_true rfl) ?_
    rw [hdn] at hf
    exact hK ad hd d hc hc9 hdn hf
  | none =>
    refine ww_aald (pc := 25) (v := .null) C 8 rfl hin (by rw [rgR_at hlt, hdn]; rfl) dX2_note_25 ?_
    refine ww_ifnonnullN (pc := 26) C dX2_note_26 ?_
    refine ww_aload_n (pc := 29) C dX2_note_29 rfl 0 rfl ?_
    refine gf2_0 (pc := 30) C kf_X2_11 0 rfl rfl dX2_note_30 ?_
    refine ww_aload_n (pc := 33) C dX2_note_33 rfl 0 rfl ?_
    refine gf2_1 (pc := 34) C kf_X2_17 0 rfl rfl dX2_note_34 ?_
    refine ww_new5 (pc := 37) C kcl_X2_9 ⟨Nat.le_of_ble_eq_true rfl, Nat.le_of_ble_eq_true rfl⟩ dX2_note_37 (fun q => ?_)
    refine ww_dup (pc := 40) C dX2_note_40 rfl ?_
    refine ww_callPI (pc := 41) (rest := [.ref q, .int c_next, .ref q_ring]) C (tX5_init l D k q) ci_X2_24 ⟨⟨Nat.le_of_ble_eq_true rfl, Nat.le_of_ble_eq_true rfl⟩, rfl, rfl⟩ List.perm_append_comm rfl (Nat.le_of_ble_eq_true rfl) ⟨Nat.le_of_ble_eq_true rfl, Nat.le_of_ble_eq_true rfl⟩ dX2_note_41 (fun wF hwF => ?_)
    obtain ⟨q1, q2, q3, q4, q5, q6, rfl⟩ := hwF
    refine ww_aast (pc := 44) (ws' := [oX5 q q1 q3, oX1 q1 q2 4 0 0 (-1) (-1), aI k q2 153 mk0, oX4 q3 q4 q5 q6 0 0, aI k q4 12 (fun _ => 0), aI k q5 12 (fun _ => 0), aJ k q6 9 (fun _ => 0)] ++ ((([oX2 q_this q_ring c_next c_size] : va_W) ++ [oX5 q_p1 q_p1_grid q_p1_rule, oX1 q_p1_grid q_p1_grid_marks c_p1_grid_size c_p1_grid_full c_p1_grid_turns c_p1_grid_firstFull c_p1_grid_lastFull, aI k q_p1_grid_marks 153 c_p1_grid_marks, oX4 q_p1_rule q_p1_rule_owned q_p1_rule_wished q_p1_rule_pulls c_p1_rule_kind c_p1_rule_traders, aI k q_p1_rule_owned 12 c_p1_rule_owned, aJ k q_p1_rule_pulls 9 c_p1_rule_pulls, aI k q_p1_rule_wished 12 c_p1_rule_wished]) ++ (aS k q_ring 9 (va_up (rgR ad hd) c_next.toNatClampNeg (some q)) :: aS k qK 2 (rgK ad hd) :: PL k ad hd))) C 15 0 rfl rfl hin rfl dX2_note_44 ?_
    rw [hdn] at hf
    have h9 := tail_newR k q_ring qK (ad := ad) (hd := hd) (a := (q, q1, q3, q2, q4, q5, q6)) (d := stNew) hlt hdn (([oX2 q_this q_ring c_next c_size] : va_W) ++ [oX5 q_p1 q_p1_grid q_p1_rule, oX1 q_p1_grid q_p1_grid_marks c_p1_grid_size c_p1_grid_full c_p1_grid_turns c_p1_grid_firstFull c_p1_grid_lastFull, aI k q_p1_grid_marks 153 c_p1_grid_marks, oX4 q_p1_rule q_p1_rule_owned q_p1_rule_wished q_p1_rule_pulls c_p1_rule_kind c_p1_rule_traders, aI k q_p1_rule_owned 12 c_p1_rule_owned, aJ k q_p1_rule_pulls 9 c_p1_rule_pulls, aI k q_p1_rule_wished 12 c_p1_rule_wished])
    have h8 : ([oX5 q q1 q3, oX1 q1 q2 4 0 0 (-1) (-1), aI k q2 153 mk0, oX4 q3 q4 q5 q6 0 0, aI k q4 12 (fun _ => 0), aI k q5 12 (fun _ => 0), aJ k q6 9 (fun _ => 0)] ++ ((([oX2 q_this q_ring c_next c_size] : va_W) ++ [oX5 q_p1 q_p1_grid q_p1_rule, oX1 q_p1_grid q_p1_grid_marks c_p1_grid_size c_p1_grid_full c_p1_grid_turns c_p1_grid_firstFull c_p1_grid_lastFull, aI k q_p1_grid_marks 153 c_p1_grid_marks, oX4 q_p1_rule q_p1_rule_owned q_p1_rule_wished q_p1_rule_pulls c_p1_rule_kind c_p1_rule_traders, aI k q_p1_rule_owned 12 c_p1_rule_owned, aJ k q_p1_rule_pulls 9 c_p1_rule_pulls, aI k q_p1_rule_wished 12 c_p1_rule_wished]) ++ (aS k q_ring 9 (va_up (rgR ad hd) c_next.toNatClampNeg (some q)) :: aS k qK 2 (rgK ad hd) :: PL k ad hd))).Perm (stC k (q, q1, q3, q2, q4, q5, q6) stNew ++ ((([oX2 q_this q_ring c_next c_size] : va_W) ++ [oX5 q_p1 q_p1_grid q_p1_rule, oX1 q_p1_grid q_p1_grid_marks c_p1_grid_size c_p1_grid_full c_p1_grid_turns c_p1_grid_firstFull c_p1_grid_lastFull, aI k q_p1_grid_marks 153 c_p1_grid_marks, oX4 q_p1_rule q_p1_rule_owned q_p1_rule_wished q_p1_rule_pulls c_p1_rule_kind c_p1_rule_traders, aI k q_p1_rule_owned 12 c_p1_rule_owned, aJ k q_p1_rule_pulls 9 c_p1_rule_pulls, aI k q_p1_rule_wished 12 c_p1_rule_wished]) ++ (aS k q_ring 9 (va_up (rgR ad hd) c_next.toNatClampNeg (some q)) :: aS k qK 2 (rgK ad hd) :: PL k ad hd))) := List.Perm.append_right _ (perm_n (n := 7) [0, 1, 2, 3, 4, 6, 5] rfl (by decide) rfl)
    refine ww_perm (h8.trans h9) ?_
    exact hK _ _ stNew hc hc9 (by simp [va_up]) (by rw [show (fun d => some (va_up (va_up hd c_next.toNatClampNeg (some stNew)) c_next.toNatClampNeg (some d))) = (fun d => some (va_up hd c_next.toNatClampNeg (some d))) from funext fun d => by rw [bx_uu]]; exact hf)
