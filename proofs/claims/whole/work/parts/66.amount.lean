/-! amounts; lays, grid, swaps, amounts as calls. -/
section AMT
variable {n : Nat} {z kd tr : Int32} {m o wd now : Nat → Int32} {P : Nat → Int64}
theorem inT {T : Nat} (hT : T < 2 ^ 29) (x : Int32) : (∃ i, i < T ∧ x = nI i ∧ fX8_in x 0 (nI T - 1) = some 1) ∨ (fX8_in x 0 (nI T - 1) = some 0 ∧ (x < 0 ∨ ∃ i, i < 2 ^ 31 ∧ x = nI i ∧ T ≤ i)) := by
  unfold fX8_in
  by_cases h0 : x < 0
  · exact Or.inr ⟨by rw [if_pos h0], Or.inl h0⟩
  · obtain ⟨i, hi, rfl⟩ := nI_of h0
    have hlt : nI T - 1 < nI i ↔ T ≤ i := by
      rw [fa_lt, show (1 : Int32) = nI 1 from rfl, pk_sub_toInt (by omega) (by decide), nI_toInt hi]
      omega
    by_cases h2 : i < T
    · exact Or.inl ⟨i, h2, rfl, by rw [if_neg h0, if_neg (fun e => by have := hlt.mp e; omega)]⟩
    · exact Or.inr ⟨by rw [if_neg h0, if_pos (hlt.mpr (by omega))], Or.inr ⟨i, hi, rfl, by omega⟩⟩
theorem dig9 (x : Int32) : (∃ i, i ≤ 9 ∧ x = nI i ∧ fX8_in x 0 9 = some 1 ∧ ¬ x < 0 ∧ x ≤ 9) ∨ (fX8_in x 0 9 = some 0 ∧ (x < 0 ∨ (¬ x < 0 ∧ ¬ x ≤ 9))) := by
  rcases in8_cases (N := 9) (by decide) x with ⟨i, hi, rfl, e⟩ | ⟨hx, e⟩
  · exact Or.inl ⟨i, hi, rfl, e, nI_pos (by omega), nI_le (b := 9) hi (by decide)⟩
  · refine Or.inr ⟨e, ?_⟩
    rcases hx with hx | ⟨hx, hx2⟩
    · exact Or.inl hx
    · exact Or.inr ⟨hx, (fa_of_lt hx2).2.1⟩
theorem amt_no (y v : Int32) {i : Nat} (hi : i < 2 ^ 31) (h4 : 4 ≤ i) : fX7_changeAmount z kd tr wd m o P (nI i) y v = some (-1, m, o, P) := by
  unfold fX7_changeAmount
  rw [if_neg (nI_pos (by omega)), if_pos (show (4 : Int32) ≤ nI i from nI_le (a := 4) h4 hi)]
theorem amt_neg (y v : Int32) {x : Int32} (hx : x < 0) : fX7_changeAmount z kd tr wd m o P x y v = some (-1, m, o, P) := by
  unfold fX7_changeAmount
  rw [if_pos hx]
theorem c_amount (h : SR z kd tr m o wd P now) (x y v : Int32) :
    (∃ r, r < 0 ∧ fX7_changeAmount z kd tr wd m o P x y v = some (r, m, o, P) ∧ fX8_refusesAmount now x y v = some r) ∨
    (∃ was m' o' P' now', ¬ was < 0 ∧ fX7_changeAmount z kd tr wd m o P x y v = some (was, m', o', P') ∧ fX8_refusesAmount now x y v = some 0 ∧ fX8_amount now x y = some was ∧ fX8_goAmount now x y v = some now' ∧ SR z kd tr m' o' wd P' now') := by
  obtain ⟨n, hn1, hn, rfl, hR, hS, hU⟩ := h
  have hl1 := ald1 hU
  have m1 : (-1 : Int32) < 0 := by decide
  by_cases hk : kd = 1
  rotate_left
  · left
    unfold fX8_refusesAmount fX8_refusesAmount_b22
    rw [hl1, obs, if_neg hk]
    rcases inT (T := 4) (by decide) x with ⟨t, ht, rfl, e⟩ | ⟨e, hx⟩
    rotate_left
    · have e : fX8_in x 0 (4 - 1) = some 0 := e
      rw [e, obs, if_pos rfl]
      rcases hx with hx | ⟨i, hi, rfl, h4⟩
      · exact ⟨-1, m1, amt_neg y v hx, rfl⟩
      · exact ⟨-1, m1, amt_no y v hi h4, rfl⟩
    have e : fX8_in (nI t) 0 (4 - 1) = some 1 := e
    rw [e, obs, if_neg n10]
    unfold fX7_changeAmount
    rw [if_neg (nI_pos (by omega)), if_neg (show ¬ (4 : Int32) ≤ nI t from nI_ge ht (by decide))]
    rcases good_cases y with ⟨q, hq, rfl, e1, e2, -⟩ | ⟨e1, e2, -⟩
    rotate_left
    · rw [e1, e2, obs, obs, if_pos rfl, if_pos rfl]; exact ⟨-1, m1, rfl, rfl⟩
    rw [e1, e2, obs, obs, if_neg n10, if_neg n10]
    rcases dig9 v with ⟨d, hd, rfl, g1, g2, g3⟩ | ⟨g1, g2⟩
    rotate_left
    · rw [g1, obs, if_pos rfl]
      rcases g2 with g2 | ⟨g2, g3⟩
      · rw [if_pos g2]; exact ⟨-1, m1, rfl, rfl⟩
      · rw [if_neg g2, if_neg g3]; exact ⟨-1, m1, rfl, rfl⟩
    rw [g1, obs, if_neg n10, if_neg g2, if_pos g3, if_neg hk, obs, if_neg hk]
    exact ⟨-3, by decide, rfl, rfl⟩
  · obtain ⟨hk1, hc⟩ := hU
    rcases hc with hc | ⟨-, T, a, w, hD, hX, rfl, ho, hw, hP⟩ | ⟨hc, -⟩
    · rw [hk] at hc; exact absurd hc (by decide)
    rotate_left
    · rw [hk] at hc; exact absurd hc (by decide)
    have hT := hD.1
    unfold fX8_refusesAmount fX8_refusesAmount_b22
    rw [hl1, obs, if_pos hk, ald2 hX, obs]
    rcases inT (T := T) (by omega) x with ⟨t, ht, rfl, e⟩ | ⟨e, hx⟩
    rotate_left
    · left
      rw [e, obs, if_pos rfl]
      rcases hx with hx | ⟨i, hi, rfl, hTi⟩
      · exact ⟨-1, m1, amt_neg y v hx, rfl⟩
      · refine ⟨-1, m1, ?_, rfl⟩
        by_cases h4 : 4 ≤ i
        · exact amt_no y v hi h4
        · unfold fX7_changeAmount
          rw [if_neg (nI_pos (by omega)), if_neg (show ¬ (4 : Int32) ≤ nI i from nI_ge (show i < 4 by omega) (by decide)), if_pos hk, if_neg (nI_nlt hTi (by omega))]
          rcases good_cases y with ⟨q, hq, rfl, e1, -, -⟩ | ⟨e1, -, -⟩
          · rw [e1, obs, if_neg n10]; simp only [ite_self]
          · rw [e1, obs, if_pos rfl]
    rw [e, obs, if_neg n10]
    unfold fX7_changeAmount
    rw [if_neg (nI_pos (by omega)), if_neg (show ¬ (4 : Int32) ≤ nI t from nI_ge (show t < 4 by omega) (by decide))]
    rcases good_cases y with ⟨q, hq, rfl, e1, e2, -⟩ | ⟨e1, e2, -⟩
    rotate_left
    · left
      rw [e1, e2, obs, obs, if_pos rfl, if_pos rfl]; exact ⟨-1, m1, rfl, rfl⟩
    rw [e1, e2, obs, obs, if_neg n10, if_neg n10]
    rcases dig9 v with ⟨d, hd, rfl, g1, g2, g3⟩ | ⟨g1, g2⟩
    rotate_left
    · left
      rw [g1, obs, if_pos rfl]
      rcases g2 with g2 | ⟨g2, g3⟩
      · rw [if_pos g2]; exact ⟨-1, m1, rfl, rfl⟩
      · rw [if_neg g2, if_neg g3]; exact ⟨-1, m1, rfl, rfl⟩
    have ha := (hD.2 (3 * t + q) (by omega)).1
    have ham := am8 hD hX ht hq
    rw [g1, obs, if_neg n10, if_neg g2, if_pos g3, if_pos hk, obs, if_pos hk, if_pos (nI_lt ht (by omega)), am7 hT ho ht hq, obs, ham, obs]
    by_cases h1 : nI (a (3 * t + q)) = nI d
    · left
      rw [if_pos h1, if_pos h1]
      exact ⟨-2, by decide, rfl, rfl⟩
    right
    rw [if_neg h1, if_neg h1]
    let a' : Nat → Nat := fun k => if k = 3 * t + q then d else a k
    have hD' : DG T a' w := ⟨hT, fun k hk => by
      show (if k = 3 * t + q then d else a k) ≤ 9 ∧ _
      have := hD.2 k hk
      split
      · exact ⟨hd, this.2⟩
      · exact this⟩
    have ho' : RO T a' (upd o (3 * t + q) (nI d)) := fun k hk => by
      show (if k = 3 * t + q then nI d else o k) = nI (if k = 3 * t + q then d else a k)
      split
      · rfl
      · exact ho k hk
    have hX' : RX T a' w (upd now (3 + (3 * t + q)) (nI d)) := by
      refine ⟨?_, fun k hk => ⟨?_, ?_⟩⟩
      · show (if 2 = 3 + (3 * t + q) then nI d else now 2) = _
        rw [if_neg (by omega)]; exact hX.1
      · show (if 3 + k = 3 + (3 * t + q) then nI d else now (3 + k)) = nI (if k = 3 * t + q then d else a k)
        by_cases hkk : k = 3 * t + q
        · rw [if_pos (by omega), if_pos hkk]
        · rw [if_neg (by omega), if_neg hkk]; exact (hX.2 k hk).1
      · show (if 15 + k = 3 + (3 * t + q) then nI d else now (15 + k)) = _
        rw [if_neg (by omega)]; exact (hX.2 k hk).2
    have hset : fX4_setAmount o (nI t) (nI q) (nI d) = some (upd o (3 * t + q) (nI d)) := by
      unfold fX4_setAmount
      rw [obs, show (3 : Int32) * nI t + nI q = nI (3 * t + q) by rw [show (3 : Int32) = nI 3 from rfl, pk_mul, nI_add], if_neg (nI_pos (by omega)), if_neg (show ¬ (12 : Int32) ≤ nI (3 * t + q) from nI_ge (show 3 * t + q < 12 by omega) (by decide)), ast_in (by omega) (by decide), obs]
    have hU' : RUL kd (nI T) (upd o (3 * t + q) (nI d)) wd (plF (qX T a' w) P 9) (upd now (3 + (3 * t + q)) (nI d)) := by
      refine ⟨?_, Or.inr (Or.inl ⟨hk, T, a', w, hD', hX', rfl, ho', hw, plF_9 _ _⟩)⟩
      show (if 1 = 3 + (3 * t + q) then nI d else now 1) = _
      rw [if_neg (by omega)]; exact hk1
    have h0' : upd now (3 + (3 * t + q)) (nI d) 0 = nI n := by
      show (if 0 = 3 + (3 * t + q) then nI d else now 0) = _
      rw [if_neg (by omega)]; exact hR.1
    obtain ⟨m', now', l1, l2, l3, l4, l5⟩ := laidR hU' (by rw [hk]; decide) h0' hn hn1 m
    rw [hset, obs, setPulls7 hD' ho' hw, obs, l1, obs]
    refine ⟨nI (a (3 * t + q)), m', _, _, now', nI_pos (by omega), rfl, rfl, rfl, ?_, n, hn1, hn, rfl, l3, l4, RUL_ag hU' l5⟩
    unfold fX8_goAmount
    rw [show (3 : Int32) + 3 * nI t + nI q = nI (3 + (3 * t + q)) by rw [show (3 : Int32) = nI 3 from rfl, pk_mul, nI_add, nI_add, Nat.add_assoc], ast_in (by omega) (by decide), obs, l2, obs]
variable {nx sz : Nat} {hd : Nat → Option SD} {U iK K : Nat → Int32}
/-- after a call that may change: class and reference alike again -/
def AF (r r8 z kd tr nx sz : Int32) (m o wd now : Nat → Int32) (P : Nat → Int64) (hd : Nat → Option SD) (uM : Int32) (U iK K : Nat → Int32) : Prop := r = r8 ∧ SR z kd tr m o wd P now ∧ (∃ nx' sz' : Nat, nx = nI nx' ∧ sz = nI sz' ∧ uM = nI sz' ∧ HR nx' sz' hd U) ∧ KR hd iK K
theorem KR_noted {hd' : Nat → Option SD} (h : KR hd iK K) (hx : nx < 9) (hi : ∀ i, ¬ i = nx → hd' i = hd i) : KR hd' iK K := fun j hj => by
  rw [hi _ (by omega)]; exact h j hj
theorem m_lays (h : SR z kd tr m o wd P now) (hH : HR nx sz hd U) (hK : KR hd iK K) (W : Nat → Int32) (t8 x y v : Int32) :
    ∃ r nx' sz' m' kd' hd' r8 t8' uM' now' U' W', fX7_lays z tr o P wd (nI nx) (nI sz) m kd hd x y v = some (r, nx', sz', m', kd', hd') ∧ fX8_lays t8 (nI sz) now U W x y v = some (r8, t8', uM', now', U', W') ∧ AF r r8 z kd' tr nx' sz' m' o wd now' P hd' uM' U' iK K := by
  have hx := hH.1
  have hs := hH.2.1
  obtain ⟨hd', e1, e2, d, e3, e4⟩ := note7 h hx hd
  unfold fX7_lays fX8_lays
  rw [e1, obs]
  rcases c_lay h x y v with ⟨r, h1, h2, h3⟩ | ⟨p, was, m', now', h1, h2, h3, h4, h5, h6, h7⟩
  · rw [h2, h3, obs, if_neg (fun e => by rw [fa_le] at e; rw [fa_lt] at h1; exact absurd h1 (Int.not_lt.mpr e))]
    simp only [bd3, obs, held7n _ _ h1]
    exact ⟨_, _, _, _, _, _, _, _, _, _, _, _, rfl, rfl, rfl, h, ⟨nx, sz, rfl, rfl, rfl, HR_noted hH e2⟩, KR_noted hK hx e2⟩
  · rw [h2, h3, obs, if_pos (show (0 : Int32) ≤ 0 by decide), change8 _ _ hs]
    simp only [bd3, obs, held7 hx hs h1, h4, h5, h6]
    exact ⟨_, _, _, _, _, _, _, _, _, _, _, _, rfl, rfl, rfl, h7, ⟨_, _, rfl, rfl, rfl, HR_hold hH e2 e3 e4 (fun q hq => fa_fill_in hq)⟩, KR_noted hK hx e2⟩
theorem nle0 {r : Int32} (h : r < 0) : ¬ (0 : Int32) ≤ r := fun e => by
  rw [fa_le] at e; rw [fa_lt] at h; exact absurd h (Int.not_lt.mpr e)
theorem m_grid (h : SR z kd tr m o wd P now) (hH : HR nx sz hd U) (hK : KR hd iK K) (W : Nat → Int32) (a b c e t8 x : Int32) :
    ∃ r nx' sz' a' b' c' z' e' m' hd' r8 t8' uM' now' U' W', fX7_grid kd tr o P wd (nI nx) (nI sz) a b c z e m hd x = some (r, nx', sz', a', b', c', z', e', m', hd') ∧ fX8_grid t8 (nI sz) now U W x = some (r8, t8', uM', now', U', W') ∧ AF r r8 z' kd tr nx' sz' m' o wd now' P hd' uM' U' iK K := by
  have hx := hH.1
  have hs := hH.2.1
  obtain ⟨hd', e1, e2, d, e3, e4⟩ := note7 h hx hd
  unfold fX7_grid fX8_grid
  rw [e1, obs]
  rcases c_grid h a b c e x with ⟨r, h1, h2, h3⟩ | ⟨r, a', b', c', d', m', now', h1, h2, h3, h4, h5, h6⟩
  · rw [h2, h3, obs, if_neg (nle0 h1)]
    simp only [bd3, bd7, obs, held7n _ _ h1]
    exact ⟨_, _, _, _, _, _, _, _, _, _, _, _, _, _, _, _, rfl, rfl, rfl, h, ⟨nx, sz, rfl, rfl, rfl, HR_noted hH e2⟩, KR_noted hK hx e2⟩
  · rw [h2, h3, obs, if_pos (show (0 : Int32) ≤ 0 by decide), change8 _ _ hs]
    simp only [bd3, bd7, obs, held7 hx hs h1, h4, h5]
    exact ⟨_, _, _, _, _, _, _, _, _, _, _, _, _, _, _, _, rfl, rfl, rfl, h6, ⟨_, _, rfl, rfl, rfl, HR_hold hH e2 e3 e4 (fun q hq => fa_fill_in hq)⟩, KR_noted hK hx e2⟩
theorem m_swaps (h : SR z kd tr m o wd P now) (hH : HR nx sz hd U) (hK : KR hd iK K) (W : Nat → Int32) (a b c e t8 x y x2 y2 : Int32) :
    ∃ r nx' sz' a' b' c' e' m' kd' hd' r8 t8' uM' now' U' W', fX7_swaps z tr o P wd (nI nx) (nI sz) a b c e m kd hd x y x2 y2 = some (r, nx', sz', a', b', c', e', m', kd', hd') ∧ fX8_swaps t8 (nI sz) now U W x y x2 y2 = some (r8, t8', uM', now', U', W') ∧ AF r r8 z kd' tr nx' sz' m' o wd now' P hd' uM' U' iK K := by
  have hx := hH.1
  have hs := hH.2.1
  obtain ⟨hd', e1, e2, d, e3, e4⟩ := note7 h hx hd
  unfold fX7_swaps fX8_swaps
  rw [e1, obs]
  rcases c_swap h a b c e x y x2 y2 with ⟨r, h1, h2, h3⟩ | ⟨r, a', b', c', d', m', now', h1, h2, h3, h4, h5, h6⟩
  · rw [h2, h3, obs, if_neg (nle0 h1)]
    simp only [bd3, bd7, obs, held7n _ _ h1]
    exact ⟨_, _, _, _, _, _, _, _, _, _, _, _, _, _, _, _, rfl, rfl, rfl, h, ⟨nx, sz, rfl, rfl, rfl, HR_noted hH e2⟩, KR_noted hK hx e2⟩
  · rw [h2, h3, obs, if_pos (show (0 : Int32) ≤ 0 by decide), change8 _ _ hs]
    simp only [bd3, bd7, obs, held7 hx hs h1, h4, h5]
    exact ⟨_, _, _, _, _, _, _, _, _, _, _, _, _, _, _, _, rfl, rfl, rfl, h6, ⟨_, _, rfl, rfl, rfl, HR_hold hH e2 e3 e4 (fun q hq => fa_fill_in hq)⟩, KR_noted hK hx e2⟩
theorem m_amounts (h : SR z kd tr m o wd P now) (hH : HR nx sz hd U) (hK : KR hd iK K) (W : Nat → Int32) (t8 x y v : Int32) :
    ∃ r nx' sz' m' o' P' hd' r8 t8' uM' now' U' W', fX7_amounts z kd tr wd (nI nx) (nI sz) m o P hd x y v = some (r, nx', sz', m', o', P', hd') ∧ fX8_amounts t8 (nI sz) now U W x y v = some (r8, t8', uM', now', U', W') ∧ AF r r8 z kd tr nx' sz' m' o' wd now' P' hd' uM' U' iK K := by
  have hx := hH.1
  have hs := hH.2.1
  obtain ⟨hd', e1, e2, d, e3, e4⟩ := note7 h hx hd
  unfold fX7_amounts fX8_amounts
  rw [e1, obs]
  rcases c_amount h x y v with ⟨r, h1, h2, h3⟩ | ⟨was, m', o', P', now', h1, h2, h3, h4, h5, h6⟩
  · rw [h2, h3, obs, if_neg (nle0 h1)]
    simp only [bd3, bd4, obs, held7n _ _ h1]
    exact ⟨_, _, _, _, _, _, _, _, _, _, _, _, _, rfl, rfl, rfl, h, ⟨nx, sz, rfl, rfl, rfl, HR_noted hH e2⟩, KR_noted hK hx e2⟩
  · rw [h2, h3, obs, if_pos (show (0 : Int32) ≤ 0 by decide), change8 _ _ hs]
    simp only [bd3, bd4, obs, held7 hx hs h1, h4, h5]
    exact ⟨_, _, _, _, _, _, _, _, _, _, _, _, _, rfl, rfl, rfl, h6, ⟨_, _, rfl, rfl, rfl, HR_hold hH e2 e3 e4 (fun q hq => fa_fill_in hq)⟩, KR_noted hK hx e2⟩
end AMT
