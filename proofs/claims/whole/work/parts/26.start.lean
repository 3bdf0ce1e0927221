def nwF : Nat → Int32 := (fX8_layFirst nw0).getD (fun _ => 0)
theorem nwF_ok : fX8_layFirst nw0 = some nwF := by
  have h : (fX8_layFirst nw0).isSome = true := by decide +kernel
  obtain ⟨v, hv⟩ := Option.isSome_iff_exists.mp h
  unfold nwF; rw [hv]; rfl
theorem tt0 (k : Nat → ClassId) (qr qk : Nat) (ad : Nat → AD) : TT k qr qk ad (fun _ => none) = [aS k qr 9 (fun _ => none), aS k qk 2 (fun _ => none)] := by
  unfold TT
  have h1 : rgR ad (fun _ => none) = fun _ => none := by funext i; simp [rgR]
  have h2 : rgK ad (fun _ => none) = fun _ => none := by funext i; simp [rgK]
  have h3 : PL k ad (fun _ => none) = [] := by simp [PL, tS]
  rw [h1, h2, h3]
/-- THE PURE STATEMENT: the law, as a pure function of the script -/
def lawPure (L : Nat) (xs : Nat → Int32) : Option Int32 := lfix (fL_law_b23 L xs) (fun _ _ _ _ _ _ _ _ _ _ _ _ _ _ _ _ _ _ _ _ _ _ _ _ _ _ _ _ _ _ _ _ _ _ _ _ _ _ _ _ _ _ _ _ _ _ _ _ _ _ _ _ _ _ _ _ _ => none) FU (0 : Int32) (0 : Int32) (0 : Int32) (fun _ => 0) (fun _ => 0) (0 : Int32) (0 : Int32) (-1 : Int32) (0 : Int32) (-1 : Int32) (4 : Int32) (0 : Int32) mk0 (0 : Int32) (0 : Int32) (fun _ => 0) (fun _ => 0) (fun _ => 0) (0 : Int32) (fun _ => 0) (0 : Int32) (fun _ => 0) (-1 : Int32) (0 : Int32) (-1 : Int32) (4 : Int32) (0 : Int32) mk0 (0 : Int32) (0 : Int32) (0 : Int32) (0 : Int32) (0 : Int32) (0 : Int32) (0 : Int32) (0 : Int32) (0 : Int32) (0 : Int32) (0 : Int32) (fun _ => 0) (fun _ => 0) (fun _ => 0) (fun _ => 0) nwF (fun _ => 0) (fun _ => 0) (fun _ => 0) (fun _ => 0) (fun _ => 0) (fun _ => 0) (fun _ => 0) (fun _ => 0) (fun _ => 0) (fun _ => 0) (fun _ => 0) (fun _ => none) 0
set_option maxHeartbeats 4000000 in
set_option maxRecDepth 100000 in
/-- the law from its entry, over the pure statement and its three wrappers' contracts -/
theorem start_open {p : Program} {e : Env} {s : State} {m : MethodId} {below : List Frame} {meth : Method} {c : Code} (l : Launch) (hlab : ∀ D k, oL_label l D k) (hstp : ∀ D k, oL_step l D k) (hrow : ∀ D k, oL_row l D k) {b L : Nat} {xs : Nat → Int32} (hpure : lawPure L xs = some 1) (C0 : lw_At p s m meth c b L xs) : W p l e room_1 s m #[Value.ref b] below meth c s.heap [] 0 0 (lw_Z below #[Value.ref b] s) (entryFrame m ([Value.ref b] : List Value).toArray 8) := by
  obtain ⟨D, k, C, hE⟩ := law_env C0
  obtain ⟨hx, hb, hr, hml, hown, hts, hX, hbl, hlocks, hgv⟩ := C0
  have hbA : ¬ lwA s b := Nat.not_le.mpr hbl
  have hend : ∀ (ws : va_W) (lv : List (Nat × Value)) (cells slots : Nat), cells ≤ 601024 → slots ≤ 7293034 → WW p l e room_1 s m #[.ref b] below meth c (lw_Z below #[Value.ref b] s) 8 D (lwA s) cells slots ws lv 1570 [.int 1] := fun ws lv cells slots hc hs H locs ls hP hD hS hl => va_forget hS.2.2 (W.widen hc hs (lw_ret hx hb hr hlocks dL_law_1570))
  have key : WW p l e room_1 s m #[.ref b] below meth c (lw_Z below #[Value.ref b] s) 8 D (lwA s) 0 0 [] [(0, .ref b)] 0 [] := by
    refine ww_new7 (pc := 0) C kcl_L_8 ⟨Nat.le_of_ble_eq_true rfl, Nat.le_of_ble_eq_true rfl⟩ dL_law_0 (fun qx => ?_)
    refine ww_dup (pc := 3) C dL_law_3 rfl ?_
    refine ww_callPI (pc := 4) (wr := []) (rest := [.ref qx]) C (tX7_init l D k qx) ci_L_23 ⟨⟨Nat.le_of_ble_eq_true rfl, Nat.le_of_ble_eq_true rfl⟩, rfl, rfl⟩ (List.Perm.refl _) rfl (Nat.le_of_ble_eq_true rfl) ⟨Nat.le_of_ble_eq_true rfl, Nat.le_of_ble_eq_true rfl⟩ dL_law_4 (fun wF hwF => ?_)
    obtain ⟨a1, a2, a3, a4, a5, a6, a7, a8, a9, a10, a11, a12, a13, a14, a15, a16, a17, a18, a19, rfl⟩ := hwF
    refine ww_astore_n (pc := 7) (lv' := [(1, .ref qx), (0, .ref b)]) C dL_law_7 rfl (by decide) rfl ?_
    refine ww_new8 (pc := 8) C kcl_L_24 ⟨Nat.le_of_ble_eq_true rfl, Nat.le_of_ble_eq_true rfl⟩ dL_law_8 (fun qm => ?_)
    refine ww_dup (pc := 11) C dL_law_11 rfl ?_
    refine ww_callPI (pc := 12) (wr := [oX7 qx a1 a3 a5 a12 a14 a17 a19, oX6 a1 a2 (0 : Int32), aI k a2 80 (fun _ => 0), oX3 a3 a4 (0 : Int32), aJ k a4 16 (fun _ => 0), oX5 a5 a6 a8, oX1 a6 a7 (4 : Int32) (0 : Int32) (0 : Int32) (-1 : Int32) (-1 : Int32), aI k a7 153 mk0, oX4 a8 a9 a10 a11 (0 : Int32) (0 : Int32), aI k a9 12 (fun _ => 0), aI k a10 12 (fun _ => 0), aJ k a11 9 (fun _ => 0), oX1 a12 a13 (4 : Int32) (0 : Int32) (0 : Int32) (-1 : Int32) (-1 : Int32), aI k a13 153 mk0, oX0 a14 a15 a16 (0 : Int32) (0 : Int32) (0 : Int32), aI k a15 512 (fun _ => 0), aI k a16 512 (fun _ => 0), oX2 a17 a18 (0 : Int32) (0 : Int32), aS k a18 9 (fun _ => none), aS k a19 2 (fun _ => none)]) (rest := [.ref qm]) C (tX8_init l D k qm nwF nwF_ok) ci_L_26 ⟨⟨Nat.le_of_ble_eq_true rfl, Nat.le_of_ble_eq_true rfl⟩, rfl, rfl⟩ (perm_n (n := 21) [20, 0, 1, 2, 3, 4, 5, 6, 7, 8, 9, 10, 11, 12, 13, 14, 15, 16, 17, 18, 19] rfl (by decide) rfl) rfl (Nat.le_of_ble_eq_true rfl) ⟨Nat.le_of_ble_eq_true rfl, Nat.le_of_ble_eq_true rfl⟩ dL_law_12 (fun wF hwF => ?_)
    obtain ⟨b1, b2, b3, b4, b5, b6, b7, b8, b9, b10, b11, b12, b13, b14, b15, rfl⟩ := hwF
    refine ww_astore_n (pc := 15) (lv' := [(2, .ref qm), (1, .ref qx), (0, .ref b)]) C dL_law_15 rfl (by decide) rfl ?_
    refine ww_iconst (pc := 16) C dL_law_16 kI_1 ?_
    refine ww_newaJ (pc := 17) (N := 1) C (by decide) (by decide) (by decide) ⟨Nat.le_of_ble_eq_true rfl, Nat.le_of_ble_eq_true rfl⟩ dL_law_17 (fun qo => ?_)
    refine ww_astore_n (pc := 19) (lv' := [(3, .ref qo), (2, .ref qm), (1, .ref qx), (0, .ref b)]) C dL_law_19 rfl (by decide) rfl ?_
    refine ww_iconst (pc := 20) C dL_law_20 kI_0 ?_
    refine ww_istore (pc := 21) (lv' := [(4, .int 0), (3, .ref qo), (2, .ref qm), (1, .ref qx), (0, .ref b)]) C dL_law_21 (by decide) rfl ?_
    refine ww_perm (ws' := ([oX7 qx a1 a3 a5 a12 a14 a17 a19, oX0 a14 a15 a16 (0 : Int32) (0 : Int32) (0 : Int32), aI k a16 512 (fun _ => 0), aI k a15 512 (fun _ => 0), oX2 a17 a18 (0 : Int32) (0 : Int32), oX5 a5 a6 a8, oX1 a6 a7 (4 : Int32) (0 : Int32) (0 : Int32) (-1 : Int32) (-1 : Int32), aI k a7 153 mk0, oX4 a8 a9 a10 a11 (0 : Int32) (0 : Int32), aI k a9 12 (fun _ => 0), aJ k a11 9 (fun _ => 0), aI k a10 12 (fun _ => 0), oX3 a3 a4 (0 : Int32), aJ k a4 16 (fun _ => 0), oX6 a1 a2 (0 : Int32), aI k a2 80 (fun _ => 0), oX1 a12 a13 (4 : Int32) (0 : Int32) (0 : Int32) (-1 : Int32) (-1 : Int32), aI k a13 153 mk0, oX8 qm b1 b2 (0 : Int32) b3 (0 : Int32) (0 : Int32) (0 : Int32) (0 : Int32) (0 : Int32) b4 b5 b6 (0 : Int32) b7 (0 : Int32) (0 : Int32) b8 b9 b10 b11 b12 b13 (0 : Int32) (0 : Int32) b14 b15, aI k b10 189 (fun _ => 0), aI k b9 512 (fun _ => 0), aZ k b15 2 (fun _ => 0), aI k b14 378 (fun _ => 0), aI k b1 189 nwF, aI k b8 512 (fun _ => 0), aI k b5 16 (fun _ => 0), aI k b6 16 (fun _ => 0), aI k b4 720 (fun _ => 0), aJ k b3 64 (fun _ => 0), aB k b2 80 (fun _ => 0), aI k b12 1512 (fun _ => 0), aI k b7 512 (fun _ => 0), aI k b13 189 (fun _ => 0), aZ k b11 512 (fun _ => 0), aJ k qo 1 (fun _ => 0)] : va_W) ++ TT k a18 a19 (fun _ => (0, 0, 0, 0, 0, 0, 0)) (fun _ => none)) (by rw [tt0]; exact perm_n (n := 37) [16, 30, 32, 31, 33, 21, 22, 23, 24, 25, 27, 26, 19, 20, 17, 18, 28, 29, 0, 10, 9, 15, 14, 1, 8, 5, 6, 4, 3, 2, 12, 7, 13, 11, 36, 34, 35] rfl (by decide) rfl) ?_
    refine ww_lv [4, 3, 2, 1, 0] rfl ?_
    exact law_loop l D k (hlab D k) (hstp D k) (hrow D k) (lw_Z below #[Value.ref b] s) (lwA s) b qx a1 a3 a5 a12 a14 a17 a19 a15 a16 a18 a6 a8 a7 a9 a10 a11 a4 a2 a13 qm b1 b2 b3 b4 b5 b6 b7 b8 b9 b10 b11 b12 b13 b14 b15 qo  C hE hX hbl hbA hend FU (0 : Int32) (0 : Int32) (0 : Int32) (fun _ => 0) (fun _ => 0) (0 : Int32) (0 : Int32) (-1 : Int32) (0 : Int32) (-1 : Int32) (4 : Int32) (0 : Int32) mk0 (0 : Int32) (0 : Int32) (fun _ => 0) (fun _ => 0) (fun _ => 0) (0 : Int32) (fun _ => 0) (0 : Int32) (fun _ => 0) (-1 : Int32) (0 : Int32) (-1 : Int32) (4 : Int32) (0 : Int32) mk0 (0 : Int32) (0 : Int32) (0 : Int32) (0 : Int32) (0 : Int32) (0 : Int32) (0 : Int32) (0 : Int32) (0 : Int32) (0 : Int32) (0 : Int32) (fun _ => 0) (fun _ => 0) (fun _ => 0) (fun _ => 0) nwF (fun _ => 0) (fun _ => 0) (fun _ => 0) (fun _ => 0) (fun _ => 0) (fun _ => 0) (fun _ => 0) (fun _ => 0) (fun _ => 0) (fun _ => 0) (fun _ => 0) (fun _ => none) 0 (fun _ => (0, 0, 0, 0, 0, 0, 0)) _ _ hpure (Nat.le_of_ble_eq_true rfl) (Nat.le_of_ble_eq_true rfl)
  have hl := lv_entry ([.ref b]) (n := 8) (Nat.le_of_ble_eq_true rfl)
  rw [lg_entry_eq]
  have hP : va_P D vwCl [] s.heap := fun k q h => by simp at h
  have hD : va_D (lwA s) [] := ⟨fun i j p q h => by simp at h, fun k q h => by simp at h⟩
  exact key s.heap [] _ hP hD va_S.rf hl
