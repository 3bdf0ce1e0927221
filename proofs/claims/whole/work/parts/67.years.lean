/-! years, count, end. -/
section YRS
set_option maxRecDepth 100000 in
theorem pti7 : ∀ n, n < 17 → ∀ p, p < pts n → fX1_pointI (nI n) (nI p) = some (nI (iP n p)) := by decide +kernel
variable {n : Nat} {z kd tr : Int32} {m o wd now : Nat → Int32} {P : Nat → Int64} {l k : Int32} {f g : Nat → Int64}
theorem ptj7 (hn : n < 17) {p : Nat} (hp : p < pts n) : fX1_pointJ (nI n) (nI p) = some (nI (jP n p)) := by
  have h1 := (pl_ij n hn p hp).2
  unfold fX1_pointJ
  rw [pti7 n hn p hp, obs, show (0 : Int32) = nI 0 from rfl, num7 n hn _ (by omega) 0 (by decide) (by omega), obs, pk_sub (pl_i0 hn hp).1]; rfl
theorem ush16 (x : Int32) : ∃ q, q < 65536 ∧ (x.toUInt32 >>> ((16 : Int32).toUInt32 &&& Int32.toUInt32 31)).toInt32 = nI q := by
  have h := pk_ushr x 16 16 (by decide)
  refine ⟨x.toBitVec.toNat / 2 ^ 16, ?_, ?_⟩
  · have := x.toBitVec.isLt
    omega
  · apply Int32.toBitVec_inj.mp
    apply BitVec.eq_of_toNat_eq
    rw [h]
    have := x.toBitVec.isLt
    show _ = (BitVec.ofNat 32 (x.toBitVec.toNat / 2 ^ 16)).toNat
    rw [BitVec.toNat_ofNat]
    omega
theorem rm_ok2 {q N : Nat} (hq : q < 65536) (h0 : 0 < N) (hN : N < 65536) : rmI (nI q) (nI N) = some (nI (q % N)) := by
  unfold rmI
  rw [if_neg (nI_n0 (by omega) (by omega)), pk_rem (by omega) h0 (by omega)]
/-- a draw -/
theorem drawn_ok (x : Int32) {N : Nat} (h0 : 0 < N) (hN : N < 65536) : ∃ q, q < N ∧ fX7_drawn x (nI N) = some (nI q) ∧ rmI ((x.toUInt32 >>> ((16 : Int32).toUInt32 &&& Int32.toUInt32 31)).toInt32) (nI N) = some (nI q) := by
  obtain ⟨q, hq, e⟩ := ush16 x
  refine ⟨q % N, Nat.mod_lt _ h0, ?_, ?_⟩
  · unfold fX7_drawn
    rw [if_pos (show (1 : Int32) ≤ nI N from nI_le (a := 1) (by omega) (by omega)), e, rm_ok2 hq h0 hN, obs]
  · rw [e, rm_ok2 hq h0 hN]
/-- one label laid, on the trial of the class and in the reference -/
theorem y_lay (hn : n < 17) (hR : R8 n m now) (hS : SPR n m) {p v : Nat} (hp : p < pts n) (hv : v < 3) : ∃ r m' r8 now', fX1_lay (nI n) m (nI (iP n p)) (nI (jP n p)) (nI v) = some (r, m') ∧ fX8_refusesLay now (nI (iP n p)) (nI (jP n p)) (nI v) = some r8 ∧ (if r8 = 0 then fX8_goLay now (nI (iP n p)) (nI (jP n p)) (nI v) else some now) = some now' ∧ R8 n m' now' ∧ SPR n m' ∧ ∀ q, 189 ≤ q → now' q = now q := by
  have h153 := pts_le n hn
  obtain ⟨h1, h2⟩ := pl_ij n hn p hp
  unfold fX1_lay fX8_refusesLay
  rcases point_cases hn hR.1 (nI (iP n p)) (nI (jP n p)) with ⟨i, j, hij, ei, ej, e7, e8⟩ | ⟨e7, e8⟩
  rotate_left
  · exfalso
    unfold fX1_has at e7
    rw [if_neg (nI_pos (by omega)), if_neg (nI_pos (by omega)), if_neg (nI_nlt (by omega) (by omega)), pk_sub (by omega), if_neg (nI_nlt (by omega) (by omega))] at e7
    exact absurd (Option.some.inj e7) (by decide)
  have hg : fX8_in (nI v) 0 2 = some 1 := by
    have h3 : v = 0 ∨ v = 1 ∨ v = 2 := by omega
    rcases h3 with rfl | rfl | rfl <;> rfl
  have hpl : fX8_place now (nI (iP n p)) (nI (jP n p)) = some (nI p) := by rw [pl8 hn hR.1 (by omega) (by omega), h1]
  have hlb : fX8_labelAt now (nI p) = some (m p) := by rw [lab8 (by omega), hR.2 _ hp]
  rw [e7, e8, obs, obs, if_neg n10, if_neg n10, good_is hv, hg, obs, obs, if_neg n10, if_neg n10, lat7 hn h2, h1, obs, hpl, obs, hlb, obs]
  by_cases e1 : m p = nI v
  · rw [if_pos e1, if_pos e1]
    exact ⟨_, m, -2, now, rfl, rfl, by rw [if_neg (by decide)], hR, hS, fun _ _ => rfl⟩
  rw [if_neg e1, if_neg e1, can7 n hn _ (by omega) _ (by omega) v hv, can8 hn hR.1 h2 hv, obs, obs, ifb, ifb]
  by_cases e2 : 0 < prc n (iP n p) (jP n p) v
  rotate_left
  · rw [decide_eq_false e2, if_neg (show ¬ false = true by decide), if_neg (show ¬ false = true by decide)]
    exact ⟨_, m, -4, now, rfl, rfl, by rw [if_neg (by decide)], hR, hS, fun _ _ => rfl⟩
  rw [decide_eq_true e2, if_pos rfl, if_pos rfl, put7 hn h2, h1, obs]
  refine ⟨_, upd m p (nI v), 0, upd (upd now (36 + p) (nI v)) 1 0, rfl, rfl, ?_, ?_, hS.put hv e2, fun q hq => ?_⟩
  · unfold fX8_goLay
    rw [if_pos rfl, hpl, obs, ast36 (by omega), obs, ast1, obs]
  · have hr := hR.put hp (nI v)
    refine ⟨?_, fun q hq => ?_⟩
    · rw [show upd (upd now (36 + p) (nI v)) 1 0 0 = upd now (36 + p) (nI v) 0 from if_neg (by decide)]; exact hr.1
    · rw [show upd (upd now (36 + p) (nI v)) 1 0 (36 + q) = upd now (36 + p) (nI v) (36 + q) from if_neg (by omega)]; exact hr.2 q hq
  · unfold upd
    rw [if_neg (by omega), if_neg (by omega)]
/-- what years tell in the end -/
theorem y_end8 (hn : n < 17) (hR : R8 n m now) (hS : SPR n m) (now0 A : Nat → Int32) (h189 : ∀ q, 189 ≤ q → now q = now0 q) (dr b8 : Int32) (oc od : Nat → Int32) : ∃ b8' oc' od', (bd2 (fX8_tell 0 g (tsm n m).toInt64) fun v3 v4 => lfix (fX8_years_b117) (fun _ _ _ _ _ _ _ _ _ _ _ => none) FU dr b8 v3 0 (fa_fill now0 A 189) now oc od v4 (nI (fmn n m)) 0) = some (nI (fmn n m), dr, b8', nI 4, 0, fa_fill now0 A 189, now0, oc', od', vp_updL (vp_updL (vp_updL (vp_updL g 0 (tsm n m).toInt64) 1 (nI (fb_ct (ob n m 0) n)).toInt64) 2 (nI (fb_ct (ob n m 1) n)).toInt64) 3 (nI (fb_ct (ob n m 2) n)).toInt64) := by
  rw [tell8_0]
  simp only [bd2, obs]
  rw [lf4]
  have l0 : ∀ b oc od, fX8_layOuter now b oc od 0 = _ := fun b oc od => layOuter8 (v := 0) hn hR (by decide) (oc := oc) (od := od) (a := b)
  have l1 : ∀ b oc od, fX8_layOuter now b oc od 1 = _ := fun b oc od => layOuter8 (v := 1) hn hR (by decide) (oc := oc) (od := od) (a := b)
  have l2 : ∀ b oc od, fX8_layOuter now b oc od 2 = _ := fun b oc od => layOuter8 (v := 2) hn hR (by decide) (oc := oc) (od := od) (a := b)
  unfold fX8_years_b117
  simp only [if_neg (show ¬ (3 : Int32) ≤ 0 by decide), l0, bd3, obs, bd2, tell8 (q := 1) (by decide), show (0 : Int32) + 1 = 1 by decide, if_neg (show ¬ (3 : Int32) ≤ 1 by decide), l1, tell8 (q := 1 + 1) (by decide), show (1 : Int32) + 1 = 2 by decide, if_neg (show ¬ (3 : Int32) ≤ 2 by decide), l2, tell8 (q := 1 + 1 + 1) (by decide), show (2 : Int32) + 1 = 3 by decide, if_pos (show (3 : Int32) ≤ 3 by decide), back8 A h189]
  exact ⟨_, _, _, rfl⟩
theorem years_ind (hn : n < 17) (now0 A : Nat → Int32) (N : Nat) (hN : N ≤ 40) (ng : Int32) (mg : Nat → Int32) : ∀ (d s fuel : Nat), s + d = N → d < fuel → ∀ (a b c e dr b8 : Int32) (m now oc od : Nat → Int32), R8 n m now → SPR n m → (∀ q, 189 ≤ q → now q = now0 q) →
    ∃ r l' f' a' b' c' e' T' dr' b8' k' t8' oc' od' g', lfix (fX7_years_b32 ng mg) (fun _ _ _ _ _ _ _ _ _ _ _ => none) fuel l f a b c (nI n) e m (nI N) dr (nI s) = some (r, l', f', a', b', c', nI n, e', T') ∧ lfix (fX8_years_b28) (fun _ _ _ _ _ _ _ _ _ _ _ => none) fuel dr b8 k 0 (fa_fill now0 A 189) now oc od g (nI N) (nI s) = some (r, dr', b8', k', t8', fa_fill now0 A 189, now0, oc', od', g') ∧ RW l' f' k' g' := by
  have h153 := pts_le n hn
  have hpp := pts_pos n hn
  intro d
  induction d with
  | zero =>
    intro s fuel hs hf a b c e dr b8 m now oc od hR hS h189
    obtain ⟨q, rfl⟩ : ∃ q, fuel = q + 1 := ⟨fuel - 1, by omega⟩
    have : s = N := by omega
    subst this
    rw [lfs (fX7_years_b32 ng mg), lfs (fX8_years_b28)]
    generalize lfix (fX7_years_b32 ng mg) _ q = R7
    generalize lfix (fX8_years_b28) _ q = R8'
    unfold fX7_years_b32 fX8_years_b28
    have o0 : fX0_outers (nI n) m 0 = _ := outers7 (v := 0) hn (by decide)
    have o1 : fX0_outers (nI n) m 1 = _ := outers7 (v := 1) hn (by decide)
    have o2 : fX0_outers (nI n) m 2 = _ := outers7 (v := 2) hn (by decide)
    rw [if_pos (nI_le (Nat.le_refl _) (by omega)), if_pos (nI_le (Nat.le_refl _) (by omega)), survey7 hn, fullMany8 hn hR hS.vl, obs, turns8 hn hR hS.vl, obs]
    obtain ⟨b8', oc', od', e8⟩ := y_end8 (g := g) hn hR hS now0 A h189 dr b8 oc od
    rw [e8]
    simp only [bd4, bd2, obs, o0, o1, o2, tell7_4]
    exact ⟨_, _, _, _, _, _, _, _, _, _, _, _, _, _, _, rfl, rfl, RW.t4 f g _ _ _ _⟩
  | succ d ih =>
    intro s fuel hs hf a b c e dr b8 m now oc od hR hS h189
    obtain ⟨q, rfl⟩ : ∃ q, fuel = q + 1 := ⟨fuel - 1, by omega⟩
    obtain ⟨p, hp, d1, d2⟩ := drawn_ok (dr * 1103515245 + 12345) (N := pts n) hpp (by omega)
    obtain ⟨v, hv, d3, d4⟩ := drawn_ok ((dr * 1103515245 + 12345) * 1103515245 + 12345) (N := 3) (by decide) (by decide)
    have d3 : fX7_drawn ((dr * 1103515245 + 12345) * 1103515245 + 12345) 3 = some (nI v) := d3
    obtain ⟨r, m', r8, now', y1, y2, y3, y4, y5, y6⟩ := y_lay hn hR hS hp hv
    have IH := ih (s + 1) q (by omega) (by omega) a b c e ((dr * 1103515245 + 12345) * 1103515245 + 12345) b8 m' now' oc od y4 y5 (fun q hq => by rw [y6 q hq, h189 q hq])
    rw [lfs (fX7_years_b32 ng mg), lfs (fX8_years_b28)]
    generalize lfix (fX7_years_b32 ng mg) (fun _ _ _ _ _ _ _ _ _ _ _ => none) q = R7 at *
    generalize lfix (fX8_years_b28) (fun _ _ _ _ _ _ _ _ _ _ _ => none) q = R8' at *
    unfold fX7_years_b32 fX8_years_b28 fX7_nextDraw fX8_draw
    have d4 : rmI ((((dr * 1103515245 + 12345) * 1103515245 + 12345).toUInt32 >>> ((16 : Int32).toUInt32 &&& Int32.toUInt32 31)).toInt32) 3 = some (nI v) := d4
    rw [if_neg (nI_ge (by omega) (by omega)), if_neg (nI_ge (by omega) (by omega)), pts7 n hn, pts8 hn hR.1]
    simp only [obs, bd2, d1, d2, d3, d4, pti7 n hn p hp, ptj7 hn hp, iof8 hn hR.1 hp, jof8 hn hR.1 hp, y1, y2, nI_1]
    by_cases h0 : r8 = 0
    · rw [if_pos h0] at y3 ⊢
      rw [y3, obs]
      exact IH
    · rw [if_neg h0] at y3 ⊢
      cases y3
      exact IH
theorem m_years (h : SR z kd tr m o wd P now) (hr : RW l f k g) (a b c s e : Int32) (T : Nat → Int32) (dr b8 t8 : Int32) (A oc od : Nat → Int32) (x y : Int32) :
    ∃ r l' f' a' b' c' s' e' T' dr' b8' k' t8' A' oc' od' g', fX7_years z m l f a b c s e T x y = some (r, l', f', a', b', c', s', e', T') ∧ fX8_years dr b8 k t8 A now oc od g x y = some (r, dr', b8', k', t8', A', now, oc', od', g') ∧ RW l' f' k' g' := by
  obtain ⟨n, hn1, hn, rfl, hR, hS, hU⟩ := h
  have h153 := pts_le n hn
  unfold fX7_years fX8_years fX8_in
  by_cases h1 : y < 1
  · rw [if_pos h1, if_pos h1, obs, if_pos rfl]
    exact ⟨_, _, _, _, _, _, _, _, _, _, _, _, _, _, _, _, _, rfl, rfl, hr⟩
  rw [if_neg h1, if_neg h1]
  have h0 : ¬ y < 0 := fun e => h1 (by rw [fa_lt] at e ⊢; exact Int.lt_trans e (by decide))
  obtain ⟨N, hN, rfl⟩ := nI_of h0
  by_cases h2 : N ≤ 40
  rotate_left
  · rw [if_neg (show ¬ nI N ≤ 40 from nI_ge (a := 40) (by omega) hN), if_pos (show (40 : Int32) < nI N from nI_lt (a := 40) (by omega) hN), obs, if_pos rfl]
    exact ⟨_, _, _, _, _, _, _, _, _, _, _, _, _, _, _, _, _, rfl, rfl, hr⟩
  rw [if_pos (show nI N ≤ 40 from nI_le (b := 40) h2 (by decide)), if_neg (show ¬ (40 : Int32) < nI N from nI_nlt (a := 40) h2 (by decide)), obs, if_neg n10, aside8, obs]
  unfold fX1_copy
  simp only [obs, bd2]
  have hc : ∀ q, q < pts n → va_cpy m T 0 0 153 q = m q := fun q hq => cpyI (by omega)
  obtain ⟨r, l', f', a', b', c', e', T', dr', b8', k', t8', oc', od', g', e1, e2, e3⟩ := years_ind (l := l) (f := f) (k := k) (g := g) hn now A N h2 (nI n) m N 0 FU (by omega) (fu_lt (by omega)) a b c e x b8 (va_cpy m T 0 0 153) now oc od ⟨hR.1, fun p hp => by rw [hc p hp]; exact hR.2 p hp⟩ (fun p hp => by rw [hc p hp]; exact hS p hp) (fun _ _ => rfl)
  exact ⟨r, l', f', a', b', c', _, e', T', dr', b8', k', t8', _, oc', od', g', e1, e2, e3⟩
theorem m_count (h : SR z kd tr m o wd P now) {rl : Int32} (a b c e hs tl t8 x : Int32) :
    ∃ r a' b' c' e' t8', fX7_count hs z m kd tr rl tl a b c e x = some (r, a', b', c', e') ∧ fX8_count rl tl hs now t8 x = some (r, t8') := by
  obtain ⟨n, hn1, hn, rfl, hR, hS, hU⟩ := h
  unfold fX7_count fX8_count
  have hl1 := ald1 hU
  rw [n8 hR.1, pts7 n hn, pts8 hn hR.1, hl1, fullCells7 hn, fullMany8 hn hR hS.vl]
  simp only [obs, bd5]
  have ht : kd = 1 → ald 189 2 now = some tr := fun e => by
    obtain ⟨-, hc⟩ := hU
    rcases hc with hc | ⟨-, T, a, w, hD, hX, rfl, -⟩ | ⟨hc, -⟩
    · rw [e] at hc; exact absurd hc (by decide)
    · exact ald2 hX
    · rw [e] at hc; exact absurd hc (by decide)
  by_cases q0 : x = 0
  · rw [if_pos q0, if_pos q0]; exact ⟨_, _, _, _, _, _, rfl, rfl⟩
  rw [if_neg q0, if_neg q0]
  by_cases q1 : x = 1
  · rw [if_pos q1, if_pos q1]; exact ⟨_, _, _, _, _, _, rfl, rfl⟩
  rw [if_neg q1, if_neg q1]
  by_cases q2 : x = 2
  · rw [if_pos q2, if_pos q2]; exact ⟨_, _, _, _, _, _, rfl, rfl⟩
  rw [if_neg q2, if_neg q2]
  by_cases q3 : x = 3
  · rw [if_pos q3, if_pos q3]; exact ⟨_, _, _, _, _, _, rfl, rfl⟩
  rw [if_neg q3, if_neg q3]
  by_cases q4 : x = 4
  · rw [if_pos q4, if_pos q4]
    by_cases hk : kd = 1
    · rw [if_pos hk, if_pos hk, ht hk, obs]; exact ⟨_, _, _, _, _, _, rfl, rfl⟩
    · rw [if_neg hk, if_neg hk]; exact ⟨_, _, _, _, _, _, rfl, rfl⟩
  rw [if_neg q4, if_neg q4]
  by_cases q5 : x = 5
  · rw [if_pos q5, if_pos q5]; exact ⟨_, _, _, _, _, _, rfl, rfl⟩
  rw [if_neg q5, if_neg q5]
  by_cases q6 : x = 6
  · rw [if_pos q6, if_pos q6]; exact ⟨_, _, _, _, _, _, rfl, rfl⟩
  rw [if_neg q6, if_neg q6]
  by_cases q7 : x = 7
  · rw [if_pos q7, if_pos q7]; exact ⟨_, _, _, _, _, _, rfl, rfl⟩
  rw [if_neg q7, if_neg q7]
  by_cases q8 : x = 8
  · rw [if_pos q8, if_pos q8]; exact ⟨_, _, _, _, _, _, rfl, rfl⟩
  rw [if_neg q8, if_neg q8]
  exact ⟨_, _, _, _, _, _, rfl, rfl⟩
end YRS
