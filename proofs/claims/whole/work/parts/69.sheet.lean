/-! sheet. -/
section SHT
variable {n : Nat} {z kd tr : Int32} {m o wd now : Nat → Int32} {P : Nat → Int64} {l k : Int32} {f g : Nat → Int64}
def enV (kind f st x : Int32) : Int32 := if kind = 0 then (f + st * x).toInt8.toInt32 else if kind = 1 then (f + st * x).toInt16.toInt32 else f + st * x
theorem en7 (kind f st x : Int32) : fX7_entryAt kind f st x = some (enV kind f st x) := by
  unfold fX7_entryAt enV
  rw [obs]
  split
  · rfl
  · split <;> rfl
theorem en8 (kind f st x : Int32) : fX8_entryOf kind f st x = some (enV kind f st x) := by
  unfold fX8_entryOf enV
  rw [obs, Int32.mul_comm x st]
  split
  · rfl
  · split <;> rfl
/-- a label that the point p can have -/
def okV (n p : Nat) (v : Int32) : Bool := (decide (v = nI 0) && decide (0 < prc n (iP n p) (jP n p) 0)) || ((decide (v = nI 1) && decide (0 < prc n (iP n p) (jP n p) 1)) || (decide (v = nI 2) && decide (0 < prc n (iP n p) (jP n p) 2)))
theorem okV_g {p q : Nat} (hq : q < 3) : okV n p (nI q) = decide (0 < prc n (iP n p) (jP n p) q) := by
  have h3 : q = 0 ∨ q = 1 ∨ q = 2 := by omega
  have e01 : ¬ nI 0 = nI 1 := by decide
  have e02 : ¬ nI 0 = nI 2 := by decide
  have e10 : ¬ nI 1 = nI 0 := by decide
  have e12 : ¬ nI 1 = nI 2 := by decide
  have e20 : ¬ nI 2 = nI 0 := by decide
  have e21 : ¬ nI 2 = nI 1 := by decide
  unfold okV
  rcases h3 with rfl | rfl | rfl
  · simp [e01, e02]
  · simp [e10, e12]
  · simp [e20, e21]
theorem okV_some {p : Nat} {v : Int32} (h : okV n p v = true) : ∃ q, q < 3 ∧ v = nI q ∧ 0 < prc n (iP n p) (jP n p) q := by
  have : (v = nI 0 ∧ 0 < prc n (iP n p) (jP n p) 0) ∨ (v = nI 1 ∧ 0 < prc n (iP n p) (jP n p) 1) ∨ (v = nI 2 ∧ 0 < prc n (iP n p) (jP n p) 2) := by simpa [okV] using h
  rcases this with h | h | h
  · exact ⟨0, by decide, h⟩
  · exact ⟨1, by decide, h⟩
  · exact ⟨2, by decide, h⟩
theorem okV_no {p : Nat} {v : Int32} (h : fX7_isGood v = some 0) : okV n p v = false := by
  cases e : okV n p v with
  | false => rfl
  | true =>
    obtain ⟨q, hq, rfl, -⟩ := okV_some e
    rw [good_is hq] at h
    exact absurd (Option.some.inj h) (by decide)
theorem canV7 (hn : n < 17) {p : Nat} (hp : p < pts n) (v : Int32) : fX1_canHave (nI n) (nI (iP n p)) (nI (jP n p)) v = some (bI (okV n p v)) := by
  have h2 := (pl_ij n hn p hp).2
  rcases good_cases v with ⟨q, hq, rfl, e1, -, -⟩ | ⟨e1, -, -⟩
  · rw [can7 n hn _ (by omega) _ (by omega) q hq, okV_g hq]
  · unfold fX1_canHave
    rw [e1, obs, if_pos rfl, okV_no e1]; rfl
theorem canV8 (hn : n < 17) (h : now 0 = nI n) {p : Nat} (hp : p < pts n) (v : Int32) {α : Type} (u w : Option α) : ((fX8_in v 0 2).bind fun v2 => if v2 = 0 then u else (fX8_canHave now (nI (iP n p)) (nI (jP n p)) v).bind fun v5 => if v5 = 0 then u else w) = if okV n p v then w else u := by
  have h2 := (pl_ij n hn p hp).2
  rcases good_cases v with ⟨q, hq, rfl, e1, e2, -⟩ | ⟨e1, e2, -⟩
  · rw [e2, obs, if_neg n10, can8 hn h h2 hq, obs, ifb, okV_g hq]
  · rw [e2, obs, if_pos rfl, okV_no e1]; rfl
theorem nI_over {q : Nat} (h1 : 2 ^ 31 ≤ q) (h2 : q < 2 ^ 32) : nI q < 0 := by
  rw [fa_lt]
  have : (nI q).toInt = (q : Int).bmod (2 ^ 32) := Int32.toInt_ofNat'
  rw [this]
  show Int.bmod (q : Int) (2 ^ 32) < 0
  rw [Int.bmod_def]
  split <;> omega
/-- the fault of an entry -/
def flE (n kk : Nat) (E : Nat → Int32) (e : Nat) : Nat := if kk + e < pts n then (if okV n (kk + e) (E e) then 0 else 2) else 1
theorem flt7 (hn : n < 17) {kk e : Nat} (hk : kk < 2 ^ 31) (he : e < 160) (E : Nat → Int32) : fX7_faultOfEntry (nI n) (nI kk) (nI e) (E e) = some (nI (flE n kk E e)) := by
  have h153 := pts_le n hn
  unfold fX7_faultOfEntry flE
  rw [obs, nI_add, if_neg (nI_pos hk)]
  by_cases h1 : kk + e < pts n
  · rw [if_neg (nI_pos (by omega)), pts7 n hn, obs, if_pos (nI_lt h1 (by omega)), pti7 n hn _ h1, obs, ptj7 hn h1, obs, canV7 hn h1, obs, ifb, if_pos h1]
    cases okV n (kk + e) (E e) with
    | false => rfl
    | true => rfl
  · rw [if_neg h1]
    by_cases h2 : kk + e < 2 ^ 31
    · rw [if_neg (nI_pos h2), pts7 n hn, obs, if_neg (nI_nlt (by omega) h2)]; rfl
    · rw [if_pos (nI_over (by omega) (by omega))]; rfl
theorem m_sheet (h : SR z kd tr m o wd P now) (hr : RW l f k g) (t8 x1 x2 x3 x4 x5 : Int32) : ∃ r m' kd' l' f' k' t8' now' g', fX7_sheet z m kd l f x1 x2 x3 x4 x5 = some (r, m', kd', l', f') ∧ fX8_sheet k t8 now g x1 x2 x3 x4 x5 = some (r, k', t8', now', g') ∧ SR z kd' tr m' o wd P now' ∧ RW l' f' k' g' := by
  have hSR := h
  obtain ⟨n, hn1, hn, rfl, hR, hS, hU⟩ := h
  have h153 := pts_le n hn
  unfold fX7_sheet fX8_sheet
  rcases in8_cases (N := 3) (by decide) x2 with ⟨kn, hkn, rfl, e⟩ | ⟨hx, e⟩
  rotate_left
  · have e : fX8_in x2 0 3 = some 0 := e
    rw [e, obs, if_pos rfl]
    rcases hx with hx | ⟨hx, hx2⟩
    · rw [if_pos hx]; exact ⟨_, _, _, _, _, _, _, _, _, rfl, rfl, hSR, hr⟩
    · rw [if_neg hx, if_pos (show (3 : Int32) < x2 from hx2)]; exact ⟨_, _, _, _, _, _, _, _, _, rfl, rfl, hSR, hr⟩
  have e : fX8_in (nI kn) 0 3 = some 1 := e
  rw [e, obs, if_neg n10, if_neg (nI_pos (by omega)), if_neg (show ¬ (3 : Int32) < nI kn from nI_nlt (a := 3) hkn (by decide))]
  by_cases h160 : x3 ≤ 160
  rotate_left
  · rw [if_neg h160, if_neg h160]; exact ⟨_, _, _, _, _, _, _, _, _, rfl, rfl, hSR, hr⟩
  rw [if_pos h160, if_pos h160]
  by_cases hk3 : nI kn = 3
  · rw [if_pos hk3, if_pos hk3]; exact ⟨_, _, _, _, _, _, _, _, _, rfl, rfl, hSR, hr⟩
  rw [if_neg hk3, if_neg hk3]
  by_cases hx3 : (0 : Int32) ≤ x3
  rotate_left
  · rw [if_neg hx3, if_neg hx3]; exact ⟨_, _, _, _, _, _, _, _, _, rfl, rfl, hSR, hr⟩
  rw [if_pos hx3, if_pos hx3]
  obtain ⟨N, hN, rfl⟩ := nI_of (x := x3) (fun e => (fa_of_lt e).2.1 hx3)
  have hN160 : N ≤ 160 := by
    by_cases h9 : N ≤ 160
    · exact h9
    · exact absurd h160 (nI_ge (a := 160) (by omega) hN)
  have hU0 : ∀ N2 : Nat → Int32, RUL 0 tr o wd P (upd N2 1 0) := fun N2 => rul0 hU (if_pos rfl)
  by_cases hN0 : N = 0
  · subst hN0
    rw [lf1, lf1]
    unfold fX7_sheet_b36 fX8_sheet_b41
    rw [if_pos (show nI 0 ≤ 0 by decide), if_pos (show nI 0 ≤ 0 by decide), lf1, lf1]
    unfold fX7_sheet_b94 fX8_sheet_b178
    rw [if_pos (show nI 0 ≤ 0 by decide), if_pos (show nI 0 ≤ 0 by decide), ast1, obs]
    refine ⟨_, _, _, _, _, _, _, _, _, rfl, rfl, ⟨n, hn1, hn, rfl, ⟨?_, fun p hp => ?_⟩, hS, hU0 now⟩, hr⟩
    · rw [show upd now 1 0 0 = now 0 from if_neg (by decide)]; exact hR.1
    · rw [show upd now 1 0 (36 + p) = now (36 + p) from if_neg (by omega)]; exact hR.2 p hp
  let E : Nat → Int32 := fun e => enV (nI kn) x4 x5 (nI e)
  by_cases hneg : x1 < 0
  · -- the first entry is no point
    rw [lf1, lf1]
    unfold fX7_sheet_b36 fX8_sheet_b41 fX8_sheet_b73 fX8_sheet_b78 fX8_sheet_b135 fX8_sheet_b160 fX7_faultOfEntry
    have hlt : lg_cmp (x1.toInt64 + (0 : Int32).toInt64) 0 < 0 := by
      rw [lg_cmp_lt, show (0 : Int32).toInt64 = 0 from rfl, Int64.add_zero, show (0 : Int64) = (0 : Int32).toInt64 from rfl, fa_wide_lt]; exact hneg
    rw [if_neg (show ¬ nI N ≤ 0 from nI_ge (a := 0) (by omega) (by omega)), if_neg (show ¬ nI N ≤ 0 from nI_ge (a := 0) (by omega) (by omega)), en7, en8]
    simp only [obs, if_pos hneg, if_neg n10, tell7_2, bd2, if_pos hlt, tell8_0, tell8 (q := 1) (by decide)]
    exact ⟨_, _, _, _, _, _, _, _, _, rfl, rfl, hSR, RW.t2 f g _ _⟩
  obtain ⟨kk, hkk, rfl⟩ := nI_of hneg
  -- the first fault
  have e7 := l_fs (F := fX7_sheet_b36 (nI n)) (z := fun _ _ _ _ _ _ _ _ _ _ => none) (fun rc e => rc m kd l f (nI kk) (nI kn) (nI N) x4 x5 (nI e)) (fun e => some (-4, m, kd, nI 2, vp_updL (vp_updL f 0 (nI e).toInt64) 1 (nI (flE n kk E e)).toInt64)) (fun e => decide (¬ flE n kk E e = 0)) N (by omega) (fun rc e he hp => ?_) (fun rc e he hp => ?_) (lfix (fX7_sheet_b94 (nI n)) (fun _ _ _ _ _ _ _ _ _ _ _ => none) FU m kd l f (nI kk) (nI kn) (nI N) x4 x5 0 0) (fun rc => ?_)
  rotate_left
  · show fX7_sheet_b36 (nI n) rc _ _ _ _ _ _ _ _ _ _ = _
    unfold fX7_sheet_b36
    have h0 : flE n kk E e = 0 := by simpa using hp
    have e9 := flt7 hn hkk (show e < 160 by omega) E
    rw [if_neg (nI_ge he (by omega)), en7, obs, show enV (nI kn) x4 x5 (nI e) = E e from rfl, e9, obs, h0, if_pos (show nI 0 = (0 : Int32) from rfl), obs, nI_1]
  · show fX7_sheet_b36 (nI n) rc _ _ _ _ _ _ _ _ _ _ = _
    unfold fX7_sheet_b36
    have h0 : ¬ flE n kk E e = 0 := by simpa using hp
    have hle : flE n kk E e ≤ 2 := by unfold flE; split <;> (try split) <;> omega
    have e9 := flt7 hn hkk (show e < 160 by omega) E
    rw [if_neg (nI_ge he (by omega)), en7, obs, show enV (nI kn) x4 x5 (nI e) = E e from rfl, e9, obs, if_neg (nI_n0 (by omega) (by omega)), tell7_2]
    simp only [bd2, obs]
  · show fX7_sheet_b36 (nI n) rc _ _ _ _ _ _ _ _ _ _ = _
    unfold fX7_sheet_b36
    rw [if_pos (nI_le (Nat.le_refl _) (by omega))]
  have hsum : ∀ e, e < 160 → (((nI kk).toInt64 + (nI e).toInt64).toInt : Int) = kk + e := fun e he => by
    have a1 : (nI kk).toInt64.toInt = kk := by rw [Int32.toInt_toInt64, nI_toInt hkk]
    have a2 : (nI e).toInt64.toInt = e := by rw [Int32.toInt_toInt64, nI_toInt (by omega)]
    rw [fb_addL (by omega) (by omega), a1, a2]
  have step8 : ∀ rc e, e < N → fX8_sheet_b41 rc k 0 now g (nI kk) (nI kn) (nI N) x4 x5 (nI e) = if flE n kk E e = 0 then rc k 0 now g (nI kk) (nI kn) (nI N) x4 x5 (nI (e + 1)) else some (-4, nI 2, 0, now, vp_updL (vp_updL g 0 (nI e).toInt64) 1 (nI (flE n kk E e)).toInt64) := fun rc e he => by
    unfold fX8_sheet_b41 fX8_sheet_b73 fX8_sheet_b78 fX8_sheet_b135 fX8_sheet_b160
    have hs := hsum e (by omega)
    have c1 : ¬ lg_cmp ((nI kk).toInt64 + (nI e).toInt64) 0 < 0 := fun q => by
      rw [lg_cmp_lt, fa_lt64, hs] at q
      have : (0 : Int64).toInt = 0 := rfl
      omega
    have c2 : lg_cmp ((nI kk).toInt64 + (nI e).toInt64) (nI (pts n)).toInt64 < 0 ↔ kk + e < pts n := by
      rw [lg_cmp_lt, fa_lt64, hs, Int32.toInt_toInt64, nI_toInt (by omega)]
      omega
    rw [if_neg (nI_ge he (by omega)), obs, if_neg c1, pts8 hn hR.1, obs, en8, obs, show enV (nI kn) x4 x5 (nI e) = E e from rfl]
    unfold flE
    by_cases h1 : kk + e < pts n
    · rw [if_pos (c2.mpr h1), obs, if_pos rfl, nI_add, iof8 hn hR.1 h1, jof8 hn hR.1 h1]
      simp only [obs, nI_1, if_true]
      rw [canV8 hn hR.1 h1 (E e), if_pos h1, tell8_0]
      cases okV n (kk + e) (E e) with
      | true => rfl
      | false =>
        rw [if_neg (show ¬ false = true by decide), if_neg (show ¬ false = true by decide), if_neg (by decide)]
        simp only [bd2, obs, tell8 (q := 1) (by decide)]
        rfl
    · rw [if_neg (fun q => h1 (c2.mp q)), obs, if_neg n10, if_neg h1, if_neg (show ¬ (1 : Nat) = 0 by decide), tell8_0]
      simp only [bd2, obs, if_neg n10, tell8 (q := 1) (by decide)]
      rfl
  have e8 := l_fs (F := fX8_sheet_b41) (z := fun _ _ _ _ _ _ _ _ _ _ => none) (fun rc e => rc k 0 now g (nI kk) (nI kn) (nI N) x4 x5 (nI e)) (fun e => some (-4, nI 2, 0, now, vp_updL (vp_updL g 0 (nI e).toInt64) 1 (nI (flE n kk E e)).toInt64)) (fun e => decide (¬ flE n kk E e = 0)) N (by omega) (fun rc e he hp => ?_) (fun rc e he hp => ?_) (lfix (fX8_sheet_b178) (fun _ _ _ _ _ _ _ _ _ _ _ => none) FU k 0 now g (nI kk) (nI kn) (nI N) x4 x5 0 0) (fun rc => ?_)
  rotate_left
  · show fX8_sheet_b41 rc _ _ _ _ _ _ _ _ _ _ = _
    rw [step8 rc e he, if_pos (by simpa using hp)]
  · show fX8_sheet_b41 rc _ _ _ _ _ _ _ _ _ _ = _
    rw [step8 rc e he, if_neg (by simpa using hp)]
  · show fX8_sheet_b41 rc _ _ _ _ _ _ _ _ _ _ = _
    unfold fX8_sheet_b41
    rw [if_pos (nI_le (Nat.le_refl _) (by omega))]
  have e7 : lfix (fX7_sheet_b36 (nI n)) (fun _ _ _ _ _ _ _ _ _ _ => none) FU m kd l f (nI kk) (nI kn) (nI N) x4 x5 0 = _ := e7
  have e8 : lfix (fX8_sheet_b41) (fun _ _ _ _ _ _ _ _ _ _ => none) FU k 0 now g (nI kk) (nI kn) (nI N) x4 x5 0 = _ := e8
  rw [e7, e8]
  cases hF : fs (fun e => decide (¬ flE n kk E e = 0)) N with
  | some e => exact ⟨_, _, _, _, _, _, _, _, _, rfl, rfl, hSR, RW.t2 f g _ _⟩
  | none =>
    have hall : ∀ e, e < N → kk + e < pts n ∧ okV n (kk + e) (E e) = true := fun e he => by
      rcases fs_cases (fun e => decide (¬ flE n kk E e = 0)) N with ⟨j, -, -, -, q⟩ | ⟨q, -⟩
      · rw [hF] at q; cases q
      · have h0 : flE n kk E e = 0 := by simpa using q e he
        unfold flE at h0
        by_cases h1 : kk + e < pts n
        · rw [if_pos h1] at h0
          cases h2 : okV n (kk + e) (E e) with
          | true => exact ⟨h1, rfl⟩
          | false => rw [h2, if_neg (by decide)] at h0; omega
        · rw [if_neg h1] at h0; omega
    have hkN := (hall (N - 1) (by omega)).1
    have f7 : lfix (fX7_sheet_b94 (nI n)) (fun _ _ _ _ _ _ _ _ _ _ _ => none) FU m kd l f (nI kk) (nI kn) (nI N) x4 x5 0 0 = some (nI (fb_ct (fun e => decide (¬ m (kk + e) = E e)) N), fb_put m E kk N, 0, l, f) := by
      have key := l_acc0 (F := fX7_sheet_b94 (nI n)) (z := fun _ _ _ _ _ _ _ _ _ _ _ => none) (fun rc e => rc (fb_put m E kk e) kd l f (nI kk) (nI kn) (nI N) x4 x5 (nI (fb_ct (fun e => decide (¬ m (kk + e) = E e)) e)) (nI e)) N (by omega) (some (nI (fb_ct (fun e => decide (¬ m (kk + e) = E e)) N), fb_put m E kk N, 0, l, f)) (fun rc e he => ?_) (fun rc => ?_)
      · rw [fb_put_0] at key
        exact key
      · show fX7_sheet_b94 (nI n) rc _ _ _ _ _ _ _ _ _ _ _ = _
        unfold fX7_sheet_b94 fX7_sheet_b134
        have hs := fb_put_succ m E kk e
        rw [if_neg (nI_ge he (by omega)), en7, obs, nI_add, lon7 (by omega), obs, fb_put_out (Or.inr (by omega)), putn7 (by omega), obs, fb_ct_succ, show enV (nI kn) x4 x5 (nI e) = E e from rfl, hs]
        simp only [obs, nI_1]
        by_cases h9 : m (kk + e) = E e
        · rw [if_pos h9, decide_eq_false (fun q => q h9)]; rfl
        · rw [if_neg h9, decide_eq_true h9]; rfl
      · show fX7_sheet_b94 (nI n) rc _ _ _ _ _ _ _ _ _ _ _ = _
        unfold fX7_sheet_b94
        rw [if_pos (nI_le (Nat.le_refl _) (by omega))]
    have f8 : lfix (fX8_sheet_b178) (fun _ _ _ _ _ _ _ _ _ _ _ => none) FU k 0 now g (nI kk) (nI kn) (nI N) x4 x5 0 0 = some (nI (fb_ct (fun e => decide (¬ m (kk + e) = E e)) N), k, 0, upd (fb_put now E (36 + kk) N) 1 0, g) := by
      have key := l_acc0 (F := fX8_sheet_b178) (z := fun _ _ _ _ _ _ _ _ _ _ _ => none) (fun rc e => rc k 0 (fb_put now E (36 + kk) e) g (nI kk) (nI kn) (nI N) x4 x5 (nI (fb_ct (fun e => decide (¬ m (kk + e) = E e)) e)) (nI e)) N (by omega) (some (nI (fb_ct (fun e => decide (¬ m (kk + e) = E e)) N), k, 0, upd (fb_put now E (36 + kk) N) 1 0, g)) (fun rc e he => ?_) (fun rc => ?_)
      · rw [fb_put_0] at key
        exact key
      · show fX8_sheet_b178 rc _ _ _ _ _ _ _ _ _ _ _ = _
        unfold fX8_sheet_b178 fX8_sheet_b216
        have hs := fb_put_succ now E (36 + kk) e
        have hp := (hall e he).1
        rw [if_neg (nI_ge he (by omega)), en8, obs, nI_add, lab8 (by omega), obs, fb_put_out (Or.inr (by omega)), hR.2 _ hp, show (36 : Int32) + nI kk + nI e = nI (36 + kk + e) by rw [show (36 : Int32) = nI 36 from rfl, nI_add, nI_add], ast_in (by omega) (by decide), fb_ct_succ, show enV (nI kn) x4 x5 (nI e) = E e from rfl, hs]
        simp only [obs, nI_1]
        by_cases h9 : m (kk + e) = E e
        · rw [if_pos h9, decide_eq_false (fun q => q h9), Int32.add_zero]; rfl
        · rw [if_neg h9, decide_eq_true h9]; rfl
      · show fX8_sheet_b178 rc _ _ _ _ _ _ _ _ _ _ _ = _
        unfold fX8_sheet_b178
        rw [if_pos (nI_le (Nat.le_refl _) (by omega)), ast1, obs]
    show ∃ r m' kd' l' f' k' t8' now' g', lfix (fX7_sheet_b94 (nI n)) (fun _ _ _ _ _ _ _ _ _ _ _ => none) FU m kd l f (nI kk) (nI kn) (nI N) x4 x5 0 0 = _ ∧ lfix (fX8_sheet_b178) (fun _ _ _ _ _ _ _ _ _ _ _ => none) FU k 0 now g (nI kk) (nI kn) (nI N) x4 x5 0 0 = _ ∧ _
    rw [f7, f8]
    refine ⟨_, _, _, _, _, _, _, _, _, rfl, rfl, ⟨n, hn1, hn, rfl, ⟨?_, fun p hp => ?_⟩, fun p hp => ?_, hU0 _⟩, hr⟩
    · rw [show upd (fb_put now E (36 + kk) N) 1 0 0 = fb_put now E (36 + kk) N 0 from if_neg (by decide), fb_put_out (Or.inl (by omega))]; exact hR.1
    · rw [show upd (fb_put now E (36 + kk) N) 1 0 (36 + p) = fb_put now E (36 + kk) N (36 + p) from if_neg (by omega)]
      by_cases hin : kk ≤ p ∧ p < kk + N
      · rw [fb_put_in (by omega) (by omega), fb_put_in hin.1 hin.2, show 36 + p - (36 + kk) = p - kk by omega]
      · rw [fb_put_out (by omega), fb_put_out (by omega)]; exact hR.2 p hp
    · by_cases hin : kk ≤ p ∧ p < kk + N
      · rw [fb_put_in hin.1 hin.2]
        have := (hall (p - kk) (by omega)).2
        rw [show kk + (p - kk) = p by omega] at this
        exact okV_some this
      · rw [fb_put_out (by omega)]; exact hS p hp
end SHT
