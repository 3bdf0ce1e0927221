/-! The row; the first methods. -/
section RWS
theorem lf1 {τ : Type} (F : τ → τ) (z : τ) : lfix F z FU = F (lfix F z 4095) := by
  show lfix F z (4095 + 1) = _
  rw [lfix]
theorem lf4 {τ : Type} (F : τ → τ) (z : τ) : lfix F z FU = F (F (F (F (lfix F z 4092)))) := by
  show lfix F z (4092 + 1 + 1 + 1 + 1) = _
  rw [lfix, lfix, lfix, lfix]
/-- a loop over all points, row by row -/
theorem l_tri {τ1 τ2 ρ : Type} {F1 : τ1 → τ1} {G : τ1 → τ2 → τ2} {z1 : τ1} {z2 : τ2} {n : Nat} (hn : n < 17) (ap1 : τ1 → Nat → ρ) (ap2 : τ2 → Nat → Nat → ρ)
    (ho : ∀ rc i, i ≤ n → ap1 (F1 rc) i = ap2 (lfix (G rc) z2 FU) i 0)
    (hi : ∀ rc r i j, i ≤ n → j ≤ n - i → ap2 (G rc r) i j = ap2 r i (j + 1))
    (hx : ∀ rc r i, i ≤ n → ap2 (G rc r) i (n - i + 1) = ap1 rc (i + 1)) (fin : ρ) (he : ∀ rc, ap1 (F1 rc) (n + 1) = fin) : ap1 (lfix F1 z1 FU) 0 = fin :=
  l_acc0 ap1 (n + 1) (by omega) fin (fun rc i h => (ho rc i (by omega)).trans (l_acc0 (fun r j => ap2 r i j) (n - i + 1) (by omega) _ (fun r j hj => hi rc r i j (by omega) (by omega)) (fun r => hx rc r i (by omega)))) he
/-- the same, ending early: at the first point p of which P holds -/
theorem l_trE {τ1 τ2 ρ : Type} {F1 : τ1 → τ1} {G : τ1 → τ2 → τ2} {z1 : τ1} {z2 : τ2} {n : Nat} (hn : n < 17) (ap1 : τ1 → Nat → ρ) (ap2 : τ2 → Nat → Nat → ρ) (P : Nat → Bool) (out : Nat → ρ)
    (ho : ∀ rc i, i ≤ n → ap1 (F1 rc) i = ap2 (lfix (G rc) z2 FU) i 0)
    (hi : ∀ rc r i j, i ≤ n → j ≤ n - i → P (pl n i j) = false → ap2 (G rc r) i j = ap2 r i (j + 1))
    (hp : ∀ rc r i j, i ≤ n → j ≤ n - i → P (pl n i j) = true → ap2 (G rc r) i j = out (pl n i j))
    (hx : ∀ rc r i, i ≤ n → ap2 (G rc r) i (n - i + 1) = ap1 rc (i + 1)) (fin : ρ) (he : ∀ rc, ap1 (F1 rc) (n + 1) = fin) : ap1 (lfix F1 z1 FU) 0 = match fs P (pts n) with | some p => out p | none => fin := by
  -- from the point p on: the first one at which P holds, if any
  have key : ∀ (k i fuel : Nat), i + k = n + 1 → k < fuel → ((∃ p, pl n i 0 ≤ p ∧ p < pts n ∧ P p = true ∧ (∀ q, pl n i 0 ≤ q → q < p → P q = false) ∧ ap1 (lfix F1 z1 fuel) i = out p) ∨ ((∀ q, pl n i 0 ≤ q → q < pts n → P q = false) ∧ ap1 (lfix F1 z1 fuel) i = fin)) := by
    intro k
    induction k with
    | zero =>
      intro i fuel h1 h2
      obtain ⟨f, rfl⟩ : ∃ f, fuel = f + 1 := ⟨fuel - 1, by omega⟩
      have : i = n + 1 := by omega
      subst this
      refine Or.inr ⟨fun q h3 h4 => ?_, he _⟩
      rw [pl_end n hn] at h3; omega
    | succ k ih =>
      intro i fuel h1 h2
      obtain ⟨f, rfl⟩ : ∃ f, fuel = f + 1 := ⟨fuel - 1, by omega⟩
      have hin : i ≤ n := by omega
      have e1 : ap1 (lfix F1 z1 (f + 1)) i = ap2 (lfix (G (lfix F1 z1 f)) z2 FU) i 0 := ho _ i hin
      have hpl : ∀ j, pl n i j = pl n i 0 + j := fun j => by simp [pl]
      have hnx := pl_next n hn i (by omega) hin
      rcases l_run0 (F := G (lfix F1 z1 f)) (z := z2) (fun r j => ap2 r i j) (fun j => out (pl n i j)) (fun j => P (pl n i j) = true) (n - i + 1) (by omega) (fun r j hj h3 => hi _ r i j hin (by omega) (by simpa using h3)) (fun r j hj h3 => hp _ r i j hin (by omega) h3) _ (fun r => hx _ r i hin) with ⟨j, a1, a2, a3, a4⟩ | ⟨a1, a2⟩
      · refine Or.inl ⟨pl n i j, by rw [hpl j]; omega, pts_pl n hn i (by omega) hin j (by omega) (by omega), a2, fun q h3 h4 => ?_, e1.trans a4⟩
        have h5 := a3 (q - pl n i 0) (by rw [hpl j] at h4; omega)
        rw [hpl (q - pl n i 0), show pl n i 0 + (q - pl n i 0) = q by omega] at h5
        simpa using h5
      · have hrow : ∀ q, pl n i 0 ≤ q → q < pl n (i + 1) 0 → P q = false := fun q h3 h4 => by
          rw [← hnx, hpl (n - i + 1)] at h4
          have h5 := a1 (q - pl n i 0) (by omega)
          rw [hpl (q - pl n i 0), show pl n i 0 + (q - pl n i 0) = q by omega] at h5
          simpa using h5
        have hle : pl n i 0 ≤ pl n (i + 1) 0 := by rw [← hnx, hpl (n - i + 1)]; omega
        rcases ih (i + 1) f (by omega) (by omega) with ⟨p, b1, b2, b3, b4, b5⟩ | ⟨b1, b2⟩
        · refine Or.inl ⟨p, by omega, b2, b3, fun q h3 h4 => ?_, (e1.trans a2).trans b5⟩
          by_cases h6 : q < pl n (i + 1) 0
          · exact hrow q h3 h6
          · exact b4 q (by omega) h4
        · refine Or.inr ⟨fun q h3 h4 => ?_, (e1.trans a2).trans b2⟩
          by_cases h6 : q < pl n (i + 1) 0
          · exact hrow q h3 h6
          · exact b1 q (by omega) h4
  have h0 : pl n 0 0 = 0 := by simp [pl]
  rcases key (n + 1) 0 FU (by omega) (fu_lt (by omega)) with ⟨p, b1, b2, b3, b4, b5⟩ | ⟨b1, b2⟩
  · rw [b5, fs_some b3 (fun q hq => b4 q (by omega) hq) b2]
  · rw [b2, fs_none (fun q hq => b1 q (by omega) hq)]
def RW (l : Int32) (f : Nat → Int64) (k : Int32) (g : Nat → Int64) : Prop := ∃ q : Nat, q ≤ 16 ∧ l = nI q ∧ k = nI q ∧ ∀ j, j < q → f j = g j
theorem RW.nil (f g : Nat → Int64) : RW (nI 0) f (nI 0) g := ⟨0, by decide, rfl, rfl, fun j h => by omega⟩
theorem RW.add {q : Nat} {f g : Nat → Int64} (h : RW (nI q) f (nI q) g) (hq : q < 16) (x : Int64) : RW (nI (q + 1)) (vp_updL f q x) (nI (q + 1)) (vp_updL g q x) := by
  obtain ⟨q', h1, h2, -, h4⟩ := h
  have : q = q' := (nI_eq (by omega) (by omega)).mp h2
  subst this
  refine ⟨q + 1, by omega, rfl, rfl, fun j hj => ?_⟩
  by_cases hj2 : j = q
  · subst hj2; rw [pk_uLs, pk_uLs]
  · rw [pk_uLn hj2, pk_uLn hj2]; exact h4 j (by omega)
theorem add7 {q : Nat} (hq : q < 16) (f : Nat → Int64) (x : Int64) : fX3_add (nI q) f x = some (nI (q + 1), vp_updL f q x) := by
  unfold fX3_add
  rw [if_neg (nI_pos (by omega)), if_neg (show ¬ (16 : Int32) ≤ nI q from nI_ge hq (by decide)), astL_in hq (by decide), obs, obs, nI_1]
theorem tell7 (l : Int32) (f : Nat → Int64) (a : Int64) : fX3_tell l f a = some (nI 1, vp_updL f 0 a) := by
  unfold fX3_tell fX3_clear
  rw [obs, show fX3_add 0 f a = some (nI 1, vp_updL f 0 a) from add7 (q := 0) (by decide) f a]
  simp only [bd2, obs]
theorem tell7_2 (l : Int32) (f : Nat → Int64) (a b : Int64) : fX3_tell_ l f a b = some (nI 2, vp_updL (vp_updL f 0 a) 1 b) := by
  unfold fX3_tell_
  rw [tell7]
  simp only [bd2, obs, add7 (q := 1) (by decide)]
theorem tell7_3 (l : Int32) (f : Nat → Int64) (a b c : Int64) : fX3_tell__ l f a b c = some (nI 3, vp_updL (vp_updL (vp_updL f 0 a) 1 b) 2 c) := by
  unfold fX3_tell__
  rw [tell7_2]
  simp only [bd2, obs, add7 (q := 2) (by decide)]
theorem tell7_4 (l : Int32) (f : Nat → Int64) (a b c d : Int64) : fX3_tell___ l f a b c d = some (nI 4, vp_updL (vp_updL (vp_updL (vp_updL f 0 a) 1 b) 2 c) 3 d) := by
  unfold fX3_tell___
  rw [tell7_3]
  simp only [bd2, obs, add7 (q := 3) (by decide)]
theorem tell8 {q : Nat} (hq : q < 64) (f : Nat → Int64) (x : Int64) : fX8_tell (nI q) f x = some (nI (q + 1), vp_updL f q x) := by
  unfold fX8_tell
  rw [astL_in hq (by decide), obs, obs, nI_1]
theorem tell8_0 (f : Nat → Int64) (x : Int64) : fX8_tell 0 f x = some (nI 1, vp_updL f 0 x) := tell8 (q := 0) (by decide) f x
theorem RW.t1 (f g : Nat → Int64) (a : Int64) : RW (nI 1) (vp_updL f 0 a) (nI 1) (vp_updL g 0 a) := (RW.nil f g).add (by decide) a
theorem RW.t2 (f g : Nat → Int64) (a b : Int64) : RW (nI 2) (vp_updL (vp_updL f 0 a) 1 b) (nI 2) (vp_updL (vp_updL g 0 a) 1 b) := (RW.t1 f g a).add (by decide) b
theorem RW.t3 (f g : Nat → Int64) (a b c : Int64) : RW (nI 3) (vp_updL (vp_updL (vp_updL f 0 a) 1 b) 2 c) (nI 3) (vp_updL (vp_updL (vp_updL g 0 a) 1 b) 2 c) := (RW.t2 f g a b).add (by decide) c
theorem RW.t4 (f g : Nat → Int64) (a b c d : Int64) : RW (nI 4) (vp_updL (vp_updL (vp_updL (vp_updL f 0 a) 1 b) 2 c) 3 d) (nI 4) (vp_updL (vp_updL (vp_updL (vp_updL g 0 a) 1 b) 2 c) 3 d) := (RW.t3 f g a b c).add (by decide) d
end RWS
section MT1
variable {n : Nat} {m now : Nat → Int32} {l k : Int32} {f g : Nat → Int64}
theorem good_cases (x : Int32) : (∃ v, v < 3 ∧ x = nI v ∧ fX7_isGood x = some 1 ∧ fX8_in x 0 2 = some 1 ∧ fX8_isKind x = some 1) ∨ (fX7_isGood x = some 0 ∧ fX8_in x 0 2 = some 0 ∧ fX8_isKind x = some 0) := by
  unfold fX8_isKind
  rcases in8_cases (N := 2) (by decide) x with ⟨i, hi, rfl, e⟩ | ⟨hx, e⟩
  · have e2 : fX8_in (nI i) 0 2 = some 1 := e
    refine Or.inl ⟨i, by omega, rfl, ?_, e2, ?_⟩
    · unfold fX7_isGood
      rw [if_neg (nI_pos (by omega)), if_neg (show ¬ (3 : Int32) ≤ nI i from nI_ge (show i < 3 by omega) (by decide))]
    · rw [e2, obs]
  · have e2 : fX8_in x 0 2 = some 0 := e
    refine Or.inr ⟨?_, e2, by rw [e2, obs]⟩
    unfold fX7_isGood
    rcases hx with h | ⟨h, h2⟩
    · rw [if_pos h]
    · rw [if_neg h, if_pos]
      obtain ⟨j, hj, rfl⟩ := nI_of h
      have : 2 < j := (nI_ltI (by decide) hj).mp h2
      exact (nI_leI (a := 3) (by decide) hj).mpr (by omega)
theorem m_point (hn : n < 17) (h : now 0 = nI n) (hr : RW l f k g) (t x y : Int32) : ∃ r l' f' k' g' t', fX7_point (nI n) l f x y = some (r, l', f') ∧ fX8_point now k t g x y = some (r, k', t', g') ∧ RW l' f' k' g' := by
  unfold fX7_point fX8_point
  rcases point_cases hn h x y with ⟨i, j, hij, rfl, rfl, e7, e8⟩ | ⟨e7, e8⟩
  · rw [e7, e8, obs, obs, if_neg (by decide), if_neg (by decide)]
    have p0 : fX1_price (nI n) (nI i) (nI j) 0 = some (nI (prc n i j 0)) := prc7 n hn i (by omega) j (by omega) 0 (by decide)
    have p1 : fX1_price (nI n) (nI i) (nI j) 1 = some (nI (prc n i j 1)) := prc7 n hn i (by omega) j (by omega) 1 (by decide)
    have p2 : fX1_price (nI n) (nI i) (nI j) 2 = some (nI (prc n i j 2)) := prc7 n hn i (by omega) j (by omega) 2 (by decide)
    have q0 : fX8_price now (nI i) (nI j) 0 = some (nI (prc n i j 0)) := prc8 hn h hij (g := 0) (by decide)
    have q1 : fX8_price now (nI i) (nI j) 1 = some (nI (prc n i j 1)) := prc8 hn h hij (g := 1) (by decide)
    have q2 : fX8_price now (nI i) (nI j) 2 = some (nI (prc n i j 2)) := prc8 hn h hij (g := 2) (by decide)
    refine ⟨nI (pl n i j), _, _, _, _, 0, ?_, ?_, RW.t3 f g (nI (prc n i j 0)).toInt64 (nI (prc n i j 1)).toInt64 (nI (prc n i j 2)).toInt64⟩
    · rw [p0, obs, p1, obs, p2, obs, tell7_3]
      simp only [bd2, obs]
      rw [num7 n hn i (by omega) j (by omega) (by omega), obs]
    · rw [lf4]
      unfold fX8_point_b23
      simp only [if_neg (show ¬ (3 : Int32) ≤ 0 by decide), q0, obs, bd2, tell8_0, show (0 : Int32) + 1 = 1 by decide, if_neg (show ¬ (3 : Int32) ≤ 1 by decide), q1, tell8 (q := 1) (by decide), show (1 : Int32) + 1 = 2 by decide, if_neg (show ¬ (3 : Int32) ≤ 2 by decide), q2, tell8 (q := 1 + 1) (by decide), show (2 : Int32) + 1 = 3 by decide, if_pos (show (3 : Int32) ≤ 3 by decide), pl8 hn h (show i ≤ n + 1 by omega) (show j < 18 by omega)]
  · rw [e7, e8, obs, obs, if_pos rfl, if_pos rfl]
    exact ⟨_, _, _, _, _, _, rfl, rfl, hr⟩
theorem m_cell (hn : n < 17) (hn1 : 1 ≤ n) (h : R8 n m now) (hv : VL n m) (hr : RW l f k g) (t x : Int32) : ∃ r l' f' k' g' t', fX7_cell (nI n) m l f x = some (r, l', f') ∧ fX8_cell now k t g x = some (r, k', t', g') ∧ RW l' f' k' g' := by
  unfold fX7_cell fX8_cell
  rcases cell_cases hn hn1 h.1 x with ⟨c, hcl, rfl, e7, e8⟩ | ⟨e7, e8⟩
  · have hc := (cel_ij hcl).1
    rw [e7, e8, obs, obs, if_neg (by decide), if_neg (by decide)]
    have p0 : fX1_cornerLabel (nI n) m (nI c) 0 = some (m (co n c 0)) := clb7 hn hcl (k := 0) (by decide)
    have p1 : fX1_cornerLabel (nI n) m (nI c) 1 = some (m (co n c 1)) := clb7 hn hcl (k := 1) (by decide)
    have p2 : fX1_cornerLabel (nI n) m (nI c) 2 = some (m (co n c 2)) := clb7 hn hcl (k := 2) (by decide)
    have q0 : fX8_cornerLabel now (nI c) 0 = some (m (co n c 0)) := clb8 hn h hc hcl (k := 0) (by decide)
    have q1 : fX8_cornerLabel now (nI c) 1 = some (m (co n c 1)) := clb8 hn h hc hcl (k := 1) (by decide)
    have q2 : fX8_cornerLabel now (nI c) 2 = some (m (co n c 2)) := clb8 hn h hc hcl (k := 2) (by decide)
    refine ⟨bI (fub n m c), _, _, _, _, 0, ?_, ?_, RW.t4 f g (m (co n c 0)).toInt64 (m (co n c 1)).toInt64 (m (co n c 2)).toInt64 (tn n m c).toInt64⟩
    · rw [turn7 hn hc, obs, p0, obs, p1, obs, p2, obs, tell7_4]
      simp only [bd2, obs]
      unfold fub
      by_cases h0 : tn n m c = 0
      · rw [if_pos h0]; simp [h0, bI]
      · rw [if_neg h0]; simp [h0, bI]
    · rw [lf4]
      unfold fX8_cell_b22
      simp only [if_neg (show ¬ (3 : Int32) ≤ 0 by decide), q0, obs, bd2, tell8_0, show (0 : Int32) + 1 = 1 by decide, if_neg (show ¬ (3 : Int32) ≤ 1 by decide), q1, tell8 (q := 1) (by decide), show (1 : Int32) + 1 = 2 by decide, if_neg (show ¬ (3 : Int32) ≤ 2 by decide), q2, tell8 (q := 1 + 1) (by decide), show (2 : Int32) + 1 = 3 by decide, if_pos (show (3 : Int32) ≤ 3 by decide), turn8 hn h hv hcl, tell8 (q := 1 + 1 + 1) (by decide), full8 hn h hv hcl, ifb]
      cases fub n m c <;> rfl
  · rw [e7, e8, obs, obs, if_pos rfl, if_pos rfl]
    exact ⟨_, _, _, _, _, _, rfl, rfl, hr⟩
theorem m_full (hn : n < 17) (h : R8 n m now) (hv : VL n m) (a b c d t : Int32) : ∃ r a' b' c' d' l' f' k' g' t', fX7_full (nI n) m a b c d l f = some (r, a', b', c', d', l', f') ∧ fX8_full now k t g = some (r, k', t', g') ∧ RW l' f' k' g' := by
  unfold fX7_full fX8_full
  have h512 := fmn_le (m := m) hn
  have e0 : nth n m 0 = fs (fub n m) (2 * n * n) := by
    rw [← fs_first]
    refine fs_cong (fun j hj => ?_)
    have h1 : fb_ct (fub n m) j ≤ j := fb_ct_le _ _
    have h2 := nbs_le n hn
    congr 1
    exact decide_eq_decide.mpr (nI_eq (a := fb_ct (fub n m) j) (b := 0) (by omega) (by decide))
  have e1 : nth n m (nI (fmn n m) - 1) = ls (fub n m) (2 * n * n) := by
    rw [← fs_last]
    refine fs_cong (fun j hj => ?_)
    have h1 : fb_ct (fub n m) j ≤ j := fb_ct_le _ _
    have h2 := nbs_le n hn
    cases h9 : fub n m j with
    | false => rfl
    | true =>
      have h3 : 1 ≤ fmn n m := by
        have h4 : 0 < fb_ct (fub n m) (2 * n * n) := fb_ct_pos.mpr ⟨j, hj, h9⟩
        exact h4
      congr 1
      refine decide_eq_decide.mpr ?_
      rw [show (1 : Int32) = nI 1 from rfl, pk_sub h3, nI_eq (by omega) (by omega)]
      unfold fmn at h3 ⊢
      omega
  have e7 : (bd4 (fX1_survey (nI n) m a b c d) fun v1 v2 v3 v4 => bd2 (fX3_tell__ l f v4.toInt64 v1.toInt64 v3.toInt64) fun v5 v6 => some (v2, v1, v2, v3, v4, v5, v6)) = some (nI (fmn n m), oI (fs (fub n m) (2 * n * n)), nI (fmn n m), oI (ls (fub n m) (2 * n * n)), tsm n m, nI 3, vp_updL (vp_updL (vp_updL f 0 (tsm n m).toInt64) 1 (oI (fs (fub n m) (2 * n * n))).toInt64) 2 (oI (ls (fub n m) (2 * n * n))).toInt64) := by
    rw [survey7 hn]
    simp only [bd4, bd2, obs, tell7_3]
  rw [e7, fullMany8 hn h hv, obs, turns8 hn h hv, obs, tell8_0]
  simp only [bd2, obs, nth8 hn h hv, e0, e1, tell8 (q := 1) (by decide), tell8 (q := 1 + 1) (by decide)]
  exact ⟨_, _, _, _, _, _, _, _, _, _, rfl, rfl, RW.t3 f g _ _ _⟩
end MT1
