abbrev oX0 (a : Nat) (f0 : Nat) (f1 : Nat) (f2 : Int32) (f3 : Int32) (f4 : Int32) : Nat × va_E := (a, .inr (0, [.ref f0, .ref f1, .int f2, .int f3, .int f4]))
abbrev oX1 (a : Nat) (f0 : Nat) (f1 : Int32) (f2 : Int32) (f3 : Int32) (f4 : Int32) (f5 : Int32) : Nat × va_E := (a, .inr (1, [.ref f0, .int f1, .int f2, .int f3, .int f4, .int f5]))
abbrev oX2 (a : Nat) (f0 : Nat) (f1 : Int32) (f2 : Int32) : Nat × va_E := (a, .inr (2, [.ref f0, .int f1, .int f2]))
abbrev oX3 (a : Nat) (f0 : Nat) (f1 : Int32) : Nat × va_E := (a, .inr (3, [.ref f0, .int f1]))
abbrev oX4 (a : Nat) (f0 : Nat) (f1 : Nat) (f2 : Nat) (f3 : Int32) (f4 : Int32) : Nat × va_E := (a, .inr (4, [.ref f0, .ref f1, .ref f2, .int f3, .int f4]))
abbrev oX5 (a : Nat) (f0 : Nat) (f1 : Nat) : Nat × va_E := (a, .inr (5, [.ref f0, .ref f1]))
abbrev oX6 (a : Nat) (f0 : Nat) (f1 : Int32) : Nat × va_E := (a, .inr (6, [.ref f0, .int f1]))
abbrev oX7 (a : Nat) (f0 : Nat) (f1 : Nat) (f2 : Nat) (f3 : Nat) (f4 : Nat) (f5 : Nat) (f6 : Nat) : Nat × va_E := (a, .inr (7, [.ref f0, .ref f1, .ref f2, .ref f3, .ref f4, .ref f5, .ref f6]))
abbrev oX8 (a : Nat) (f0 : Nat) (f1 : Nat) (f2 : Int32) (f3 : Nat) (f4 : Int32) (f5 : Int32) (f6 : Int32) (f7 : Int32) (f8 : Int32) (f9 : Nat) (f10 : Nat) (f11 : Nat) (f12 : Int32) (f13 : Nat) (f14 : Int32) (f15 : Int32) (f16 : Nat) (f17 : Nat) (f18 : Nat) (f19 : Nat) (f20 : Nat) (f21 : Nat) (f22 : Int32) (f23 : Int32) (f24 : Nat) (f25 : Nat) : Nat × va_E := (a, .inr (8, [.ref f0, .ref f1, .int f2, .ref f3, .int f4, .int f5, .int f6, .int f7, .int f8, .ref f9, .ref f10, .ref f11, .int f12, .ref f13, .int f14, .int f15, .ref f16, .ref f17, .ref f18, .ref f19, .ref f20, .ref f21, .int f22, .int f23, .ref f24, .ref f25]))
theorem kB_m4 : (Int8.ofInt (-4)).toInt32 = (-4 : Int32) := by decide
theorem kB_m3 : (Int8.ofInt (-3)).toInt32 = (-3 : Int32) := by decide
theorem kB_m2 : (Int8.ofInt (-2)).toInt32 = (-2 : Int32) := by decide
theorem kB_6 : (Int8.ofInt (6)).toInt32 = (6 : Int32) := by decide
theorem kB_7 : (Int8.ofInt (7)).toInt32 = (7 : Int32) := by decide
theorem kB_8 : (Int8.ofInt (8)).toInt32 = (8 : Int32) := by decide
theorem kB_9 : (Int8.ofInt (9)).toInt32 = (9 : Int32) := by decide
theorem kB_10 : (Int8.ofInt (10)).toInt32 = (10 : Int32) := by decide
theorem kB_15 : (Int8.ofInt (15)).toInt32 = (15 : Int32) := by decide
theorem kB_16 : (Int8.ofInt (16)).toInt32 = (16 : Int32) := by decide
theorem kB_24 : (Int8.ofInt (24)).toInt32 = (24 : Int32) := by decide
theorem kB_27 : (Int8.ofInt (27)).toInt32 = (27 : Int32) := by decide
theorem kB_30 : (Int8.ofInt (30)).toInt32 = (30 : Int32) := by decide
theorem kB_33 : (Int8.ofInt (33)).toInt32 = (33 : Int32) := by decide
theorem kB_36 : (Int8.ofInt (36)).toInt32 = (36 : Int32) := by decide
theorem kB_40 : (Int8.ofInt (40)).toInt32 = (40 : Int32) := by decide
theorem kB_48 : (Int8.ofInt (48)).toInt32 = (48 : Int32) := by decide
theorem kB_49 : (Int8.ofInt (49)).toInt32 = (49 : Int32) := by decide
theorem kB_57 : (Int8.ofInt (57)).toInt32 = (57 : Int32) := by decide
theorem kB_59 : (Int8.ofInt (59)).toInt32 = (59 : Int32) := by decide
theorem kB_80 : (Int8.ofInt (80)).toInt32 = (80 : Int32) := by decide
theorem kB_97 : (Int8.ofInt (97)).toInt32 = (97 : Int32) := by decide
theorem kB_103 : (Int8.ofInt (103)).toInt32 = (103 : Int32) := by decide
theorem kB_108 : (Int8.ofInt (108)).toInt32 = (108 : Int32) := by decide
theorem kB_115 : (Int8.ofInt (115)).toInt32 = (115 : Int32) := by decide
theorem kI_m1 : Int32.ofInt (-1) = (-1 : Int32) := by decide
theorem kI_0 : Int32.ofInt (0) = (0 : Int32) := by decide
theorem kI_1 : Int32.ofInt (1) = (1 : Int32) := by decide
theorem kI_2 : Int32.ofInt (2) = (2 : Int32) := by decide
theorem kI_3 : Int32.ofInt (3) = (3 : Int32) := by decide
theorem kI_4 : Int32.ofInt (4) = (4 : Int32) := by decide
theorem kI_5 : Int32.ofInt (5) = (5 : Int32) := by decide
theorem kN_9 : Int32.ofNat 9 = (9 : Int32) := by decide
theorem kN_12 : Int32.ofNat 12 = (12 : Int32) := by decide
theorem kS_m200 : (Int16.ofInt (-200)).toInt32 = (-200 : Int32) := by decide
theorem kS_153 : (Int16.ofInt (153)).toInt32 = (153 : Int32) := by decide
theorem kS_160 : (Int16.ofInt (160)).toInt32 = (160 : Int32) := by decide
theorem kS_189 : (Int16.ofInt (189)).toInt32 = (189 : Int32) := by decide
theorem kS_255 : (Int16.ofInt (255)).toInt32 = (255 : Int32) := by decide
theorem kS_512 : (Int16.ofInt (512)).toInt32 = (512 : Int32) := by decide
theorem kS_1323 : (Int16.ofInt (1323)).toInt32 = (1323 : Int32) := by decide
theorem kS_12345 : (Int16.ofInt (12345)).toInt32 = (12345 : Int32) := by decide
theorem kL_0 : Int64.ofNat ((0 : Fin 2) : Nat) = (0 : Int64) := by decide
theorem kL_1 : Int64.ofNat ((1 : Fin 2) : Nat) = (1 : Int64) := by decide
def mxI (x y : Int32) : Int32 := if x < y then y else x
def mnI (x y : Int32) : Int32 := if y < x then y else x
def abI (x : Int32) : Int32 := if 0 ≤ x then x else 0 - x
def mxL (x y : Int64) : Int64 := if y < x then x else y
def abL (x : Int64) : Int64 := if 0 < x then x else -x
def astB (n : Nat) (i : Int32) (f : Nat → Int32) (x : Int32) : Option (Nat → Int32) := ast n i f (vp_nar .byte x)
def astZ (n : Nat) (i : Int32) (f : Nat → Int32) (x : Int32) : Option (Nat → Int32) := ast n i f (vp_nar .boolean x)
section WWM
variable {p : Program} {l : Launch} {e : Env} {R : Room} {s : State} {m : MethodId} {args : Array Value} {below : List Frame} {meth : Method} {c : Code} {Q : State → Prop} {cells slots : Nat} {cc : ByteArray} {nL : Nat} {own : String} {D : va_G} {k : Nat → ClassId} {A : Nat → Prop} {ws ws' : va_W} {lv lv' : List (Nat × Value)} {pc tgt : Nat} {st : List Value}
theorem ww_iincN (C : CX p s m args c cc nL own D k A) {i j : Nat} {n : Int} {x v z : Int32} (hd : decode cc pc = .ok (.iinc i n, 3)) (hz : Int32.ofInt n = z) (hj : lv[j]? = some (i, .int x)) (hv : some (x + z) = some v) (hn : i < nL) (hl2 : (i, Value.int v) :: lv.filter (fun q => !(q.1 == i) && !(q.1 + 1 == i && q.2.category == 2)) = lv') (kk : WW p l e R s m args below meth c Q nL D A cells slots ws lv' (pc + 3) st) : WW p l e R s m args below meth c Q nL D A cells slots ws lv pc st := ww_iinc C hd hj (by rw [hz]; exact Option.some.inj hv) hn hl2 kk
theorem ww_ldc (C : CX p s m args c cc nL own D k A) {index : Nat} {v : Int32} (hd : decode cc pc = .ok (.ldc index, 2)) (hk : Cond.constant own index v ∈ TB) (kk : WW p l e R s m args below meth c Q nL D A cells slots ws lv (pc + 2) (.int v :: st)) : WW p l e R s m args below meth c Q nL D A cells slots ws lv pc st := fun H locs ls hP hD hS hl => lv_ldc C.1 C.2.1 C.2.2.2.1 (C.2.2.2.2.1 _ hk) hd (kk H locs ls hP hD hS hl)
theorem ww_ldcw (C : CX p s m args c cc nL own D k A) {index : Nat} {v : Int32} (hd : decode cc pc = .ok (.ldc_w index, 3)) (hk : Cond.constant own index v ∈ TB) (kk : WW p l e R s m args below meth c Q nL D A cells slots ws lv (pc + 3) (.int v :: st)) : WW p l e R s m args below meth c Q nL D A cells slots ws lv pc st := fun H locs ls hP hD hS hl => lv_ldcw C.1 C.2.1 C.2.2.2.1 (C.2.2.2.2.1 _ hk) hd (kk H locs ls hP hD hS hl)
theorem ww_ldc2 (C : CX p s m args c cc nL own D k A) {index : Nat} {v : Int64} (hd : decode cc pc = .ok (.ldc2_w index, 3)) (hk : Cond.constantLong own index v ∈ TB) (kk : WW p l e R s m args below meth c Q nL D A cells slots ws lv (pc + 3) (.long v :: st)) : WW p l e R s m args below meth c Q nL D A cells slots ws lv pc st := fun H locs ls hP hD hS hl => lv_ldc2 C.1 C.2.1 C.2.2.2.1 (C.2.2.2.2.1 _ hk) hd (kk H locs ls hP hD hS hl)
theorem ww_bast (C : CX p s m args c cc nL own D k A) {a n : Nat} {f g : Nat → Int32} {i x : Int32} (q0 : Nat) (hq : ws[q0]? = some (a, .inl (k 0, n, .inl f))) (hv : astB n i f x = some g) (hs : ws.set q0 (a, .inl (k 0, n, .inl g)) = ws') (hd : decode cc pc = .ok (.bastore, 1)) (kk : WW p l e R s m args below meth c Q nL D A cells slots ws' lv (pc + 1) st) : WW p l e R s m args below meth c Q nL D A cells slots ws lv pc (.int x :: .int i :: .ref a :: st) := by
  obtain ⟨h1, rfl⟩ := ast_some hv
  subst hs
  exact fun H locs ls hP hD hS hl => va_bast C.1 C.2.1 C.2.2.2.2.2.1 hP hD hS q0 0 hq rfl h1 hd (fun H1 locs1 hP hD hS => kk H1 locs1 ls hP hD hS hl)
theorem ww_zast (C : CX p s m args c cc nL own D k A) {a n : Nat} {f g : Nat → Int32} {i x : Int32} (q0 : Nat) (hq : ws[q0]? = some (a, .inl (k 3, n, .inl f))) (hv : astZ n i f x = some g) (hs : ws.set q0 (a, .inl (k 3, n, .inl g)) = ws') (hd : decode cc pc = .ok (.bastore, 1)) (kk : WW p l e R s m args below meth c Q nL D A cells slots ws' lv (pc + 1) st) : WW p l e R s m args below meth c Q nL D A cells slots ws lv pc (.int x :: .int i :: .ref a :: st) := by
  obtain ⟨h1, rfl⟩ := ast_some hv
  subst hs
  exact fun H locs ls hP hD hS hl => va_zast C.1 C.2.1 C.2.2.2.2.2.1 hP hD hS q0 3 hq rfl h1 hd (fun H1 locs1 hP hD hS => kk H1 locs1 ls hP hD hS hl)
theorem ww_mmax (C : CX p s m args c cc nL own D k A) {index : Nat} {x y : Int32} (hk : Cond.methodLink own index Lib.Math.max.name ∈ TB) (hf1 : 1 ≤ R.frames) (hlo : (st.map fun v => v.category).sum + 13 ≤ R.locals) (hcap : cells ≤ R.cells ∧ slots ≤ R.slots) (hd : decode cc pc = .ok (.invokestatic index, 3)) (kk : WW p l e R s m args below meth c Q nL D A cells slots ws lv (pc + 3) (.int (mxI x y) :: st)) : WW p l e R s m args below meth c Q nL D A cells slots ws lv pc (.int y :: .int x :: st) := fun H locs ls hP hD hS hl => va_mmax C.1 C.2.1 (C.2.2.1.trans hl.1.symm) C.2.2.2.1 (C.2.2.2.2.1 _ hk) (C.2.2.2.2.1 _ ms_java_lang_Math_max__II_I.1) (C.2.2.2.2.1 _ ms_java_lang_Math_max__II_I.2.1) (C.2.2.2.2.1 _ ms_java_lang_Math_max__II_I.2.2.1) hf1 hlo hcap.1 hcap.2 hd (kk H locs ls hP hD hS hl)
theorem ww_mmin (C : CX p s m args c cc nL own D k A) {index : Nat} {x y : Int32} (hk : Cond.methodLink own index Lib.Math.min.name ∈ TB) (hf1 : 1 ≤ R.frames) (hlo : (st.map fun v => v.category).sum + 13 ≤ R.locals) (hcap : cells ≤ R.cells ∧ slots ≤ R.slots) (hd : decode cc pc = .ok (.invokestatic index, 3)) (kk : WW p l e R s m args below meth c Q nL D A cells slots ws lv (pc + 3) (.int (mnI x y) :: st)) : WW p l e R s m args below meth c Q nL D A cells slots ws lv pc (.int y :: .int x :: st) := fun H locs ls hP hD hS hl => va_mmin C.1 C.2.1 (C.2.2.1.trans hl.1.symm) C.2.2.2.1 (C.2.2.2.2.1 _ hk) (C.2.2.2.2.1 _ ms_java_lang_Math_min__II_I.1) (C.2.2.2.2.1 _ ms_java_lang_Math_min__II_I.2.1) (C.2.2.2.2.1 _ ms_java_lang_Math_min__II_I.2.2.1) hf1 hlo hcap.1 hcap.2 hd (kk H locs ls hP hD hS hl)
theorem ww_mabs (C : CX p s m args c cc nL own D k A) {index : Nat} {x y : Int32} (hk : Cond.methodLink own index Lib.Math.abs.name ∈ TB) (hf1 : 1 ≤ R.frames) (hlo : (st.map fun v => v.category).sum + 13 ≤ R.locals) (hcap : cells ≤ R.cells ∧ slots ≤ R.slots) (hd : decode cc pc = .ok (.invokestatic index, 3)) (kk : WW p l e R s m args below meth c Q nL D A cells slots ws lv (pc + 3) (.int (abI x) :: st)) : WW p l e R s m args below meth c Q nL D A cells slots ws lv pc (.int x :: st) := fun H locs ls hP hD hS hl => va_mabs C.1 C.2.1 (C.2.2.1.trans hl.1.symm) C.2.2.2.1 (C.2.2.2.2.1 _ hk) (C.2.2.2.2.1 _ ms_java_lang_Math_abs__I_I.1) (C.2.2.2.2.1 _ ms_java_lang_Math_abs__I_I.2.1) (C.2.2.2.2.1 _ ms_java_lang_Math_abs__I_I.2.2.1) hf1 hlo hcap.1 hcap.2 hd (kk H locs ls hP hD hS hl)
theorem ww_mmaxL (C : CX p s m args c cc nL own D k A) {index : Nat} {x y : Int64} (hk : Cond.methodLink own index Lib.MathLoose.max_long.x ∈ TB) (hf1 : 1 ≤ R.frames) (hlo : (st.map fun v => v.category).sum + 15 ≤ R.locals) (hcap : cells ≤ R.cells ∧ slots ≤ R.slots) (hd : decode cc pc = .ok (.invokestatic index, 3)) (kk : WW p l e R s m args below meth c Q nL D A cells slots ws lv (pc + 3) (.long (mxL x y) :: st)) : WW p l e R s m args below meth c Q nL D A cells slots ws lv pc (.long y :: .long x :: st) := fun H locs ls hP hD hS hl => va_mmax_long C.1 C.2.1 (C.2.2.1.trans hl.1.symm) C.2.2.2.1 (C.2.2.2.2.1 _ hk) (C.2.2.2.2.1 _ ms_java_lang_Math_max__JJ_J.1) (C.2.2.2.2.1 _ ms_java_lang_Math_max__JJ_J.2.1) (C.2.2.2.2.1 _ ms_java_lang_Math_max__JJ_J.2.2.1) hf1 hlo hcap.1 hcap.2 hd (kk H locs ls hP hD hS hl)
theorem ww_mabsL (C : CX p s m args c cc nL own D k A) {index : Nat} {x y : Int64} (hk : Cond.methodLink own index Lib.MathLoose.abs_long.x ∈ TB) (hf1 : 1 ≤ R.frames) (hlo : (st.map fun v => v.category).sum + 13 ≤ R.locals) (hcap : cells ≤ R.cells ∧ slots ≤ R.slots) (hd : decode cc pc = .ok (.invokestatic index, 3)) (kk : WW p l e R s m args below meth c Q nL D A cells slots ws lv (pc + 3) (.long (abL x) :: st)) : WW p l e R s m args below meth c Q nL D A cells slots ws lv pc (.long x :: st) := fun H locs ls hP hD hS hl => va_mabs_long C.1 C.2.1 (C.2.2.1.trans hl.1.symm) C.2.2.2.1 (C.2.2.2.2.1 _ hk) (C.2.2.2.2.1 _ ms_java_lang_Math_abs__J_J.1) (C.2.2.2.2.1 _ ms_java_lang_Math_abs__J_J.2.1) (C.2.2.2.2.1 _ ms_java_lang_Math_abs__J_J.2.2.1) hf1 hlo hcap.1 hcap.2 hd (kk H locs ls hP hD hS hl)
theorem ww_lookup (C : CX p s m args c cc nL own D k A) {dflt : Int} {ps : Array (Int × Int)} {len : Nat} {x : Int32} {off : Int} (hd : decode cc pc = .ok (.lookupswitch dflt ps, len)) (hp : (ps.toList.zip (ps.toList.drop 1)).all (fun (a, next) => a.1 < next.1) = true) (ho : Op.lookupswitch.offset ps.toList dflt x.toInt = off) (ht : (pc : Int) + off = (tgt : Int)) (kk : WW p l e R s m args below meth c Q nL D A cells slots ws lv tgt st) : WW p l e R s m args below meth c Q nL D A cells slots ws lv pc (.int x :: st) := fun H locs ls hP hD hS hl => lv_lookup C.1 C.2.1 hd hp ho ht (kk H locs ls hP hD hS hl)
theorem ww_tableIn (C : CX p s m args c cc nL own D k A) {dflt lo hi : Int} {offs : Array Int} {len : Nat} {x : Int32} {off : Int} (hd : decode cc pc = .ok (.tableswitch dflt lo hi offs, len)) (h1 : ¬ x.toInt < lo) (h2 : ¬ hi < x.toInt) (ho : offs[(x.toInt - lo).toNat]? = some off) (ht : (pc : Int) + off = (tgt : Int)) (kk : WW p l e R s m args below meth c Q nL D A cells slots ws lv tgt st) : WW p l e R s m args below meth c Q nL D A cells slots ws lv pc (.int x :: st) := fun H locs ls hP hD hS hl => lv_tableIn C.1 C.2.1 hd h1 h2 ho ht (kk H locs ls hP hD hS hl)
theorem ww_tableOut (C : CX p s m args c cc nL own D k A) {dflt lo hi : Int} {offs : Array Int} {len : Nat} {x : Int32} (hd : decode cc pc = .ok (.tableswitch dflt lo hi offs, len)) (h : x.toInt < lo ∨ hi < x.toInt) (ht : (pc : Int) + dflt = (tgt : Int)) (kk : WW p l e R s m args below meth c Q nL D A cells slots ws lv tgt st) : WW p l e R s m args below meth c Q nL D A cells slots ws lv pc (.int x :: st) := fun H locs ls hP hD hS hl => lv_tableOut C.1 C.2.1 hd h ht (kk H locs ls hP hD hS hl)
set_option maxRecDepth 100000 in
theorem kac_X1 : Cond.methodLink "DoorWalk$Grid" 35 arraycopyName ∈ TB := kwt2 24 (by rfl) rfl
set_option maxRecDepth 100000 in
theorem kac_X4 : Cond.methodLink "DoorWalk$Rule" 29 arraycopyName ∈ TB := kwt2 31 (by rfl) rfl
set_option maxRecDepth 100000 in
theorem kac_n : Cond.native arraycopyName ∈ TB := kwt2 26 (by rfl) rfl
set_option maxRecDepth 100000 in
theorem kac_s : Cond.static arraycopyName ∈ TB := kwt2 25 (by rfl) rfl
set_option maxRecDepth 100000 in
theorem kac_i : Cond.initialized "java/lang/System" ∈ TB := kwt1 10 (by rfl) rfl
theorem ww_copyi (C : CX p s m args c cc nL own D k A) {index a a0 n0 n1 N : Nat} {f g h9 : Nat → Int32} {n : Int32} (hk : Cond.methodLink own index arraycopyName ∈ TB) (q0 q1 : Nat) (ha0 : ws[q0]? = some (a0, .inl (k 1, n0, .inl f))) (ha1 : ws[q1]? = some (a, .inl (k 1, n1, .inl g))) (hz : (0 : Int32).toNatClampNeg = 0) (hN : n.toNatClampNeg = N) (h4 : N ≤ n0 ∧ N ≤ n1 ∧ ¬ n < 0) (hroom : 1 ≤ R.frames ∧ (st.map fun v => v.category).sum + (nativeFrameWords "java/lang/System" "arraycopy" 5 + 11) ≤ R.locals) (hv : some (va_cpy f g 0 0 N) = some h9) (hs : ws.set q1 (a, .inl (k 1, n1, .inl h9)) = ws') (hx9 : True) (hd : decode cc pc = .ok (.invokestatic index, 3)) (kk : WW p l e R s m args below meth c Q nL D A cells slots ws' lv (pc + 3) st) : WW p l e R s m args below meth c Q nL D A cells slots ws lv pc (.int n :: .int 0 :: .ref a :: .int 0 :: .ref a0 :: st) := by
  have hv := Option.some.inj hv
  subst hv
  subst hs
  subst hN
  exact fun H locs ls hP hD hS hl => va_copyi C.1 C.2.1 (C.2.2.1.trans hl.1.symm) C.2.2.2.1 (C.2.2.2.2.1 _ hk) (C.2.2.2.2.1 _ kac_n) (C.2.2.2.2.1 _ kac_s) (C.2.2.2.2.1 _ kac_i) C.2.2.2.2.2.1 hP hD hS q0 q1 1 1 ha0 ha1 rfl rfl rfl (by decide) (by decide) h4.2.2 (by rw [hz, Nat.zero_add]; exact h4.1) (by rw [hz, Nat.zero_add]; exact h4.2.1) (fun _ _ => rfl) hroom.1 hroom.2 hd (fun H1 locs1 hP hD hS => by rw [hz] at hP hD; exact kk H1 locs1 ls hP hD hS hl)
theorem ww_copyl (C : CX p s m args c cc nL own D k A) {index a a0 n0 n1 N : Nat} {f g h9 : Nat → Int64} {n : Int32} (hk : Cond.methodLink own index arraycopyName ∈ TB) (q0 q1 : Nat) (ha0 : ws[q0]? = some (a0, .inl (k 2, n0, .inr (.inl f)))) (ha1 : ws[q1]? = some (a, .inl (k 2, n1, .inr (.inl g)))) (hz : (0 : Int32).toNatClampNeg = 0) (hN : n.toNatClampNeg = N) (h4 : N ≤ n0 ∧ N ≤ n1 ∧ ¬ n < 0) (hroom : 1 ≤ R.frames ∧ (st.map fun v => v.category).sum + (nativeFrameWords "java/lang/System" "arraycopy" 5 + 11) ≤ R.locals) (hv : some (va_cpy f g 0 0 N) = some h9) (hs : ws.set q1 (a, .inl (k 2, n1, .inr (.inl h9))) = ws') (hx9 : True) (hd : decode cc pc = .ok (.invokestatic index, 3)) (kk : WW p l e R s m args below meth c Q nL D A cells slots ws' lv (pc + 3) st) : WW p l e R s m args below meth c Q nL D A cells slots ws lv pc (.int n :: .int 0 :: .ref a :: .int 0 :: .ref a0 :: st) := by
  have hv := Option.some.inj hv
  subst hv
  subst hs
  subst hN
  exact fun H locs ls hP hD hS hl => va_copyl C.1 C.2.1 (C.2.2.1.trans hl.1.symm) C.2.2.2.1 (C.2.2.2.2.1 _ hk) (C.2.2.2.2.1 _ kac_n) (C.2.2.2.2.1 _ kac_s) (C.2.2.2.2.1 _ kac_i) C.2.2.2.2.2.1 hP hD hS q0 q1 2 2 ha0 ha1 rfl rfl rfl (by decide) (by decide) h4.2.2 (by rw [hz, Nat.zero_add]; exact h4.1) (by rw [hz, Nat.zero_add]; exact h4.2.1) (fun _ _ => rfl) hroom.1 hroom.2 hd (fun H1 locs1 hP hD hS => by rw [hz] at hP hD; exact kk H1 locs1 ls hP hD hS hl)
theorem tsw_out {x : Int32} {lo : Int} {n : Nat} (h : ∀ i : Nat, i < n → ¬ x.toInt = lo + i) : x.toInt < lo ∨ lo + (n : Int) - 1 < x.toInt := by
  rcases Int.lt_or_le x.toInt lo with q | q
  · exact Or.inl q
  · rcases Int.lt_or_le (lo + (n : Int) - 1) x.toInt with r | r
    · exact Or.inr r
    · exact absurd (show x.toInt = lo + ((x.toInt - lo).toNat : Int) by omega) (h (x.toInt - lo).toNat (by omega))
end WWM
