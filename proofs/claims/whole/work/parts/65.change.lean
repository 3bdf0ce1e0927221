/-! Changes that a call or a day makes. -/
section CHG
variable {n : Nat} {z kd tr : Int32} {m o wd now : Nat → Int32} {P : Nat → Int64}
theorem laidR (h : RUL kd tr o wd P now) (hk : ¬ kd = 0) (h0 : now 0 = nI n) (hn : n < 17) (hn1 : 1 ≤ n) (T : Nat → Int32) : ∃ m' now', fX4_layOn kd P (nI n) T = some m' ∧ fX8_layRule now = some now' ∧ R8 n m' now' ∧ SPR n m' ∧ AG35 now now' := by
  obtain ⟨Q, hP, hB, -, hL⟩ := rul_lab h hk
  have h8 := layRule8 (Q := Q) hn h0 h.1 (fun i j hij => (hL n i j hn hn1 hij).2.2.2)
  have h7 := layOn7 (m := T) (Q := Q) hn (fun i j hij => (hL n i j hn hn1 hij).2.2.1)
  refine ⟨_, _, h7, h8, ⟨by rw [fb_put_out (Or.inl (by decide)), h0], fun p hp => ?_⟩, fun p hp => ?_, put_ag _ _⟩
  · rw [fb_put_in (by omega) (by omega), Nat.add_sub_cancel_left, fa_fill_in hp]
  · obtain ⟨q1, q2⟩ := pl_ij n hn p hp
    obtain ⟨e1, e2, -, -⟩ := hL n (iP n p) (jP n p) hn hn1 q2
    exact ⟨lbP kd Q n p, e1, fa_fill_in hp, e2⟩
theorem SPR_lab {n p : Nat} {m : Nat → Int32} (h : SPR n m) (hp : p < pts n) : ∃ v, v < 3 ∧ m p = nI v ∧ ¬ m p < 0 := by
  obtain ⟨v, h1, h2, -⟩ := h p hp
  exact ⟨v, h1, h2, by rw [h2]; exact nI_pos (by omega)⟩
/-- by hand -/
theorem rul0 (h : RUL kd tr o wd P now) {now' : Nat → Int32} (h1 : now' 1 = 0) : RUL 0 tr o wd P now' := ⟨h1, Or.inl rfl⟩
theorem ast1 (x : Int32) : ast 189 1 now x = some (upd now 1 x) := ast_in (i := 1) (by decide) (by decide)
theorem c_lay (h : SR z kd tr m o wd P now) (x y v : Int32) :
    (∃ r, r < 0 ∧ fX7_layLabel z m kd x y v = some (r, m, kd) ∧ fX8_refusesLay now x y v = some r) ∨
    (∃ p was m' now', ¬ was < 0 ∧ fX7_layLabel z m kd x y v = some (was, m', 0) ∧ fX8_refusesLay now x y v = some 0 ∧ fX8_place now x y = some (nI p) ∧ fX8_labelAt now (nI p) = some was ∧ fX8_goLay now x y v = some now' ∧ SR z 0 tr m' o wd P now') := by
  obtain ⟨n, hn1, hn, rfl, hR, hS, hU⟩ := h
  have h153 := pts_le n hn
  unfold fX7_layLabel fX1_lay fX8_refusesLay
  rcases point_cases hn hR.1 x y with ⟨i, j, hij, rfl, rfl, e7, e8⟩ | ⟨e7, e8⟩
  rotate_left
  · left
    rw [e7, e8, obs, obs, if_pos rfl, if_pos rfl]
    simp only [bd2, obs]
    exact ⟨-1, by decide, by rw [if_pos (by decide)], rfl⟩
  have hp := pts_pl n hn i (by omega) (by omega) j (by omega) (by omega)
  rw [e7, e8, obs, obs, if_neg n10, if_neg n10]
  rcases good_cases v with ⟨q, hq, rfl, e1, e2, -⟩ | ⟨e1, e2, -⟩
  rotate_left
  · left
    rw [e1, e2, obs, obs, if_pos rfl, if_pos rfl]
    simp only [bd2, obs]
    exact ⟨-1, by decide, by rw [if_pos (by decide)], rfl⟩
  have hpl : fX8_place now (nI i) (nI j) = some (nI (pl n i j)) := pl8 hn hR.1 (by omega) (by omega)
  have hlb : fX8_labelAt now (nI (pl n i j)) = some (m (pl n i j)) := by rw [lab8 (by omega), hR.2 _ hp]
  rw [e1, e2, obs, obs, if_neg n10, if_neg n10, lat7 hn hij, obs, hpl, obs, hlb, obs]
  by_cases h1 : m (pl n i j) = nI q
  · left
    rw [if_pos h1, if_pos h1]
    simp only [bd2, obs]
    exact ⟨-2, by decide, by rw [if_pos (by decide)], rfl⟩
  rw [if_neg h1, if_neg h1, can7 n hn i (by omega) j (by omega) q hq, can8 hn hR.1 hij hq, obs, obs, ifb, ifb]
  by_cases h2 : 0 < prc n i j q
  rotate_left
  · left
    rw [decide_eq_false h2, if_neg (show ¬ false = true by decide), if_neg (show ¬ false = true by decide)]
    simp only [bd2, obs]
    exact ⟨-4, by decide, by rw [if_pos (by decide)], rfl⟩
  right
  obtain ⟨v0, -, -, hv0⟩ := SPR_lab hS hp
  rw [decide_eq_true h2, if_pos rfl, if_pos rfl, put7 hn hij, obs]
  simp only [bd2, obs]
  rw [if_neg hv0]
  refine ⟨pl n i j, m (pl n i j), upd m (pl n i j) (nI q), upd (upd now (36 + pl n i j) (nI q)) 1 0, hv0, rfl, trivial, rfl, hlb, ?_, n, hn1, hn, rfl, ?_, ?_, ?_⟩
  · unfold fX8_goLay
    rw [hpl, obs, ast36 (by omega), obs, ast1, obs]
  · have hr := hR.put hp (nI q)
    refine ⟨?_, fun p hpp => ?_⟩
    · show upd _ 1 0 0 = _
      unfold upd
      rw [if_neg (by decide)]; exact hr.1
    · show upd _ 1 0 (36 + p) = _
      rw [show upd (upd now (36 + pl n i j) (nI q)) 1 0 (36 + p) = upd now (36 + pl n i j) (nI q) (36 + p) from if_neg (by omega)]
      exact hr.2 p hpp
  · refine hS.put hq ?_
    rw [iP_pl n hn i (by omega) j (by omega), jP_pl n hn i (by omega) j (by omega)]; exact h2
  · exact rul0 hU (if_pos rfl)
theorem c_grid (h : SR z kd tr m o wd P now) (a b c d x : Int32) :
    (∃ r, r < 0 ∧ fX7_changeGrid kd P a b c z d m x = some (r, a, b, c, z, d, m) ∧ fX8_refusesGrid now x = some r) ∨
    (∃ r a' b' c' d' m' now', ¬ r < 0 ∧ fX7_changeGrid kd P a b c z d m x = some (r, a', b', c', x, d', m') ∧ fX8_refusesGrid now x = some 0 ∧ fX8_goGrid now x = some now' ∧ fX8_fullMany now' = some r ∧ SR x kd tr m' o wd P now') := by
  obtain ⟨n, hn1, hn, rfl, hR, hS, hU⟩ := h
  unfold fX7_changeGrid fX8_refusesGrid
  rcases grid_cases x with ⟨s, hs1, hs, rfl, e7, e8⟩ | ⟨e7, e8⟩
  rotate_left
  · left
    rw [e7, e8, obs, obs, if_pos rfl, if_pos rfl]
    exact ⟨-1, by decide, rfl, rfl⟩
  rw [e7, e8, obs, obs, if_neg n10, if_neg n10, n8 hR.1, obs]
  by_cases h1 : nI s = nI n
  · left
    rw [if_pos h1, if_pos h1]
    exact ⟨-2, by decide, rfl, rfl⟩
  rw [if_neg h1, if_neg h1, ald1 hU, obs]
  by_cases hk : kd = 0
  · left
    rw [if_pos hk, if_pos hk]
    exact ⟨-3, by decide, rfl, rfl⟩
  right
  obtain ⟨m', now', g1, g2, g3, g4, g5, g6⟩ := laid hU hk hs hs1 m
  rw [if_neg hk, if_neg hk, g1, obs, fullCells7 hs]
  simp only [bd5, obs]
  have hf := fmn_le (m := m') hs
  exact ⟨nI (fmn s m'), _, _, _, _, m', now', nI_pos (by omega), rfl, trivial, g2, fullMany8 hs g3 g4.vl, s, hs1, hs, rfl, g3, g4, RUL_ag hU g5⟩
theorem c_swap (h : SR z kd tr m o wd P now) (a b c d x y x2 y2 : Int32) :
    (∃ r, r < 0 ∧ fX7_swapLabels z a b c d m kd x y x2 y2 = some (r, a, b, c, d, m, kd) ∧ fX8_refusesSwap now x y x2 y2 = some r) ∨
    (∃ r a' b' c' d' m' now', ¬ r < 0 ∧ fX7_swapLabels z a b c d m kd x y x2 y2 = some (r, a', b', c', d', m', 0) ∧ fX8_refusesSwap now x y x2 y2 = some 0 ∧ fX8_goSwap now x y x2 y2 = some now' ∧ fX8_fullMany now' = some r ∧ SR z 0 tr m' o wd P now') := by
  obtain ⟨n, hn1, hn, rfl, hR, hS, hU⟩ := h
  have h153 := pts_le n hn
  unfold fX7_swapLabels fX8_refusesSwap
  rcases point_cases hn hR.1 x y with ⟨i, j, hij, rfl, rfl, e7, e8⟩ | ⟨e7, e8⟩
  rotate_left
  · left
    rw [e7, e8, obs, obs, if_pos rfl, if_pos rfl]
    exact ⟨-1, by decide, rfl, rfl⟩
  rw [e7, e8, obs, obs, if_neg n10, if_neg n10]
  rcases point_cases hn hR.1 x2 y2 with ⟨i2, j2, hij2, rfl, rfl, e7, e8⟩ | ⟨e7, e8⟩
  rotate_left
  · left
    rw [e7, e8, obs, obs, if_pos rfl, if_pos rfl]
    exact ⟨-1, by decide, rfl, rfl⟩
  rw [e7, e8, obs, obs, if_neg n10, if_neg n10]
  have hp := pts_pl n hn i (by omega) (by omega) j (by omega) (by omega)
  have hp2 := pts_pl n hn i2 (by omega) (by omega) j2 (by omega) (by omega)
  by_cases hsame : i = i2 ∧ j = j2
  · left
    rw [if_pos (by rw [hsame.1]), if_pos (by rw [hsame.2]), if_pos (by rw [hsame.1]), if_pos (by rw [hsame.2])]
    exact ⟨-1, by decide, rfl, rfl⟩
  have hite : ∀ {α : Type} (u w : α), (if nI i = nI i2 then (if nI j = nI j2 then u else w) else w) = w := fun u w => by
    by_cases q1 : nI i = nI i2
    · rw [if_pos q1, if_neg (fun q2 => hsame ⟨(nI_eq (by omega) (by omega)).mp q1, (nI_eq (by omega) (by omega)).mp q2⟩)]
    · rw [if_neg q1]
  rw [hite, hite]
  have hneq : ¬ pl n i2 j2 = pl n i j := fun e => by
    have a1 := iP_pl n hn i (by omega) j (by omega)
    have a2 := iP_pl n hn i2 (by omega) j2 (by omega)
    have b1 := jP_pl n hn i (by omega) j (by omega)
    have b2 := jP_pl n hn i2 (by omega) j2 (by omega)
    rw [e] at a2 b2
    exact hsame ⟨by omega, by omega⟩
  have hpl : fX8_place now (nI i) (nI j) = some (nI (pl n i j)) := pl8 hn hR.1 (by omega) (by omega)
  have hpl2 : fX8_place now (nI i2) (nI j2) = some (nI (pl n i2 j2)) := pl8 hn hR.1 (by omega) (by omega)
  have hlb : fX8_labelAt now (nI (pl n i j)) = some (m (pl n i j)) := by rw [lab8 (by omega), hR.2 _ hp]
  have hlb2 : fX8_labelAt now (nI (pl n i2 j2)) = some (m (pl n i2 j2)) := by rw [lab8 (by omega), hR.2 _ hp2]
  unfold fX7_swapLabels_b43 fX8_refusesSwap_b32
  rw [lat7 hn hij, obs, lat7 hn hij2, obs, hpl, obs, hlb, obs, hpl2, obs, hlb2, obs]
  obtain ⟨u, hu, eu, -⟩ := SPR_lab hS hp
  obtain ⟨w, hw, ew, -⟩ := SPR_lab hS hp2
  by_cases h1 : m (pl n i j) = m (pl n i2 j2)
  · left
    rw [if_pos h1, if_pos h1]
    exact ⟨-2, by decide, rfl, rfl⟩
  rw [if_neg h1, if_neg h1, eu, ew, can7 n hn i (by omega) j (by omega) w hw, can7 n hn i2 (by omega) j2 (by omega) u hu, can8 hn hR.1 hij hw, can8 hn hR.1 hij2 hu, obs, obs, obs, obs, ifb, ifb, ifb, ifb]
  by_cases h2 : 0 < prc n i j w
  rotate_left
  · left
    rw [decide_eq_false h2, if_neg (show ¬ false = true by decide), if_neg (show ¬ false = true by decide)]
    exact ⟨-4, by decide, rfl, rfl⟩
  rw [decide_eq_true h2, if_pos rfl, if_pos rfl]
  by_cases h3 : 0 < prc n i2 j2 u
  rotate_left
  · left
    rw [decide_eq_false h3, if_neg (show ¬ false = true by decide), if_neg (show ¬ false = true by decide)]
    exact ⟨-4, by decide, rfl, rfl⟩
  right
  rw [decide_eq_true h3, if_pos rfl, if_pos rfl, put7 hn hij, obs, put7 hn hij2, obs, fullCells7 hn]
  simp only [bd5, obs]
  have hR1 := hR.put hp (nI w)
  have hR2 := hR1.put hp2 (nI u)
  have hS1 : SPR n (upd m (pl n i j) (nI w)) := hS.put hw (by rw [iP_pl n hn i (by omega) j (by omega), jP_pl n hn i (by omega) j (by omega)]; exact h2)
  have hS2 : SPR n (upd (upd m (pl n i j) (nI w)) (pl n i2 j2) (nI u)) := hS1.put hu (by rw [iP_pl n hn i2 (by omega) j2 (by omega), jP_pl n hn i2 (by omega) j2 (by omega)]; exact h3)
  have hf := fmn_le (m := upd (upd m (pl n i j) (nI w)) (pl n i2 j2) (nI u)) hn
  generalize hN2 : upd (upd now (36 + pl n i j) (nI w)) (36 + pl n i2 j2) (nI u) = N2 at *
  have hR3 : R8 n (upd (upd m (pl n i j) (nI w)) (pl n i2 j2) (nI u)) (upd N2 1 0) := by
    refine ⟨?_, fun p hpp => ?_⟩
    · show upd _ 1 0 0 = _
      unfold upd
      rw [if_neg (by decide)]; exact hR2.1
    · rw [show upd N2 1 0 (36 + p) = N2 (36 + p) from if_neg (by omega)]
      exact hR2.2 p hpp
  refine ⟨nI (fmn n (upd (upd m (pl n i j) (nI w)) (pl n i2 j2) (nI u))), _, _, _, _, _, upd N2 1 0, nI_pos (by omega), rfl, trivial, ?_, fullMany8 hn hR3 hS2.vl, n, hn1, hn, rfl, hR3, hS2, rul0 hU (if_pos rfl)⟩
  unfold fX8_goSwap
  have hpl3 : fX8_place (upd now (36 + pl n i j) (nI w)) (nI i2) (nI j2) = some (nI (pl n i2 j2)) := pl8 hn hR1.1 (by omega) (by omega)
  rw [hpl, obs, hlb, obs, obs, hpl2, obs, hlb2, obs, eu, ew, ast36 (by omega), obs, hpl3, obs, ast36 (by omega), obs, hN2, ast1, obs]
end CHG
