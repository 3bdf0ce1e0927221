/-! finer, within. -/
section FNR
variable {n : Nat} {m now : Nat → Int32} {kd tr : Int32} {o wd : Nat → Int32} {P : Nat → Int64} {l k : Int32} {f g : Nat → Int64}
theorem nth0 (hn : n < 17) : nth n m 0 = fs (fub n m) (2 * n * n) := by
  rw [← fs_first]
  refine fs_cong (fun j hj => ?_)
  have h1 : fb_ct (fub n m) j ≤ j := fb_ct_le _ _
  have h2 := nbs_le n hn
  congr 1
  exact decide_eq_decide.mpr (nI_eq (a := fb_ct (fub n m) j) (b := 0) (by omega) (by decide))
theorem laid (h : RUL kd tr o wd P now) (hk : ¬ kd = 0) (hn : n < 17) (hn1 : 1 ≤ n) (T : Nat → Int32) : ∃ m' now', fX4_layOn kd P (nI n) T = some m' ∧ fX8_goGrid now (nI n) = some now' ∧ R8 n m' now' ∧ SPR n m' ∧ AG35 now now' ∧ (∀ q, 189 ≤ q → now' q = now q) := by
  obtain ⟨Q, hP, hB, -, hL⟩ := rul_lab h hk
  obtain ⟨now', g1, g2, g3, g4, g5⟩ := goGrid8 (Q := Q) hn h.1 (fun i j hij => (hL n i j hn hn1 hij).2.2.2)
  have h7 := layOn7 (m := T) (Q := Q) hn (fun i j hij => (hL n i j hn hn1 hij).2.2.1)
  refine ⟨_, now', h7, g1, ⟨g2, fun p hp => ?_⟩, fun p hp => ?_, g3, g5⟩
  · rw [g4 p hp, fa_fill_in hp]
  · obtain ⟨q1, q2⟩ := pl_ij n hn p hp
    obtain ⟨e1, e2, -, -⟩ := hL n (iP n p) (jP n p) hn hn1 q2
    exact ⟨lbP kd Q n p, e1, fa_fill_in hp, e2⟩
theorem grid_cases (x : Int32) : (∃ s, 1 ≤ s ∧ s < 17 ∧ x = nI s ∧ fX7_isGrid x = some 1 ∧ fX8_in x 1 16 = some 1) ∨ (fX7_isGrid x = some 0 ∧ fX8_in x 1 16 = some 0) := by
  unfold fX7_isGrid fX8_in
  by_cases h1 : x < 1
  · right
    rw [if_pos h1]
    simp [h1]
  · have h0 : ¬ x < 0 := fun e => h1 (by rw [fa_lt] at e ⊢; exact Int.lt_trans e (by decide))
    obtain ⟨s, hs, rfl⟩ := nI_of h0
    have hs1 : 1 ≤ s := by
      cases s with
      | zero => exact absurd (show nI 0 < 1 by decide) h1
      | succ s => omega
    by_cases h2 : s < 17
    · left
      refine ⟨s, hs1, h2, rfl, ?_, ?_⟩
      · rw [if_neg h1, if_neg (show ¬ (16 : Int32) < nI s from nI_nlt (a := 16) (by omega) (by decide))]
      · rw [if_neg h1, if_neg (show ¬ (16 : Int32) < nI s from nI_nlt (a := 16) (by omega) (by decide))]
    · right
      refine ⟨?_, ?_⟩
      · rw [if_neg h1, if_pos (show (16 : Int32) < nI s from nI_lt (a := 16) (by omega) hs)]
      · rw [if_neg h1, if_pos (show (16 : Int32) < nI s from nI_lt (a := 16) (by omega) hs)]
theorem ald1 (h : RUL kd tr o wd P now) : ald 189 1 now = some kd := by
  rw [← h.1]; exact ald_in (i := 1) (by decide) (by decide)
theorem m_finer (h : RUL kd tr o wd P now) (hr : RW l f k g) (a b c s d : Int32) (T : Nat → Int32) (t8 : Int32) (A : Nat → Int32) (x : Int32) :
    ∃ r l' f' a' b' c' s' d' T' k' t8' A' g', fX7_finer kd P l f a b c s d T x = some (r, l', f', a', b', c', s', d', T') ∧ fX8_finer k t8 A now g x = some (r, k', t8', A', now, g') ∧ RW l' f' k' g' := by
  unfold fX7_finer fX8_finer
  rcases grid_cases x with ⟨n, hn1, hn, rfl, e7, e8⟩ | ⟨e7, e8⟩
  rotate_left
  · rw [e7, e8, obs, obs, if_pos rfl, if_pos rfl]
    exact ⟨_, _, _, _, _, _, _, _, _, _, _, _, _, rfl, rfl, hr⟩
  rw [e7, e8, obs, obs, if_neg n10, if_neg n10, ald1 h, obs]
  by_cases hk : kd = 0
  · rw [if_pos hk, if_pos hk]
    exact ⟨_, _, _, _, _, _, _, _, _, _, _, _, _, rfl, rfl, hr⟩
  rw [if_neg hk, if_neg hk]
  obtain ⟨m', now', h1, h2, h3, h4, h5, h6⟩ := laid h hk hn hn1 T
  unfold fX7_layTrial
  rw [h1, aside8, h2]
  simp only [obs, bd2]
  rw [survey7 hn, fullMany8 hn h3 h4.vl]
  simp only [obs, bd4, tell7_2, turns8 hn h3 h4.vl, tell8_0, bd2, nth8 hn h3 h4.vl, nth0 hn, tell8 (q := 1) (by decide), back8 A h6]
  exact ⟨_, _, _, _, _, _, _, _, _, _, _, _, _, rfl, rfl, RW.t2 f g _ _⟩
/-- the four cells within one -/
def wN (n c q : Nat) : Nat := if c % 2 = 0 then (let a := 2 * (2 * n * 2 * (c / 2 / n) + 2 * (c / 2 % n)); if q = 0 then a else if q = 1 then a + 1 else if q = 2 then a + 2 else a + 2 * (2 * n)) else (let a := 2 * (2 * n * 2 * (c / 2 / n) + 2 * (c / 2 % n) + 1) + 1; let b := 2 * (2 * n * (2 * (c / 2 / n) + 1) + 2 * (c / 2 % n)); if q = 0 then a else if q = 1 then b + 1 else if q = 2 then b + 2 else b + 3)
set_option maxRecDepth 100000 in
theorem wN_cel : ∀ n, n < 9 → ∀ c, c < 2 * n * n → cel n c = true → ∀ q, q < 4 → cel (2 * n) (wN n c q) = true := by decide +kernel
set_option maxRecDepth 100000 in
theorem wN8 : ∀ n, n < 9 → ∀ c, c < 2 * n * n → ∀ q, q < 4 → fX8_withinOf (nI (c / 2 / n)) (nI (c / 2 % n)) (bI (decide (c % 2 = 0))) (nI n) (nI q) = some (nI (wN n c q)) := by decide +kernel
set_option maxRecDepth 100000 in
theorem wN7u0 : ∀ n, n < 9 → ∀ c, c < 2 * n * n → (cel n c && decide (c % 2 = 0)) = true → fX1_cellAt (2 * nI n) (2 * nI (c / 2 / n)) (2 * nI (c / 2 % n)) 0 = some (nI (wN n c 0)) := by decide +kernel
set_option maxRecDepth 100000 in
theorem wN7u1 : ∀ n, n < 9 → ∀ c, c < 2 * n * n → (cel n c && decide (c % 2 = 0)) = true → fX1_cellAt (2 * nI n) (2 * nI (c / 2 / n)) (2 * nI (c / 2 % n)) 1 = some (nI (wN n c 1)) := by decide +kernel
set_option maxRecDepth 100000 in
theorem wN7u2 : ∀ n, n < 9 → ∀ c, c < 2 * n * n → (cel n c && decide (c % 2 = 0)) = true → fX1_cellAt (2 * nI n) (2 * nI (c / 2 / n)) (2 * nI (c / 2 % n) + 1) 0 = some (nI (wN n c 2)) := by decide +kernel
set_option maxRecDepth 100000 in
theorem wN7u3 : ∀ n, n < 9 → ∀ c, c < 2 * n * n → (cel n c && decide (c % 2 = 0)) = true → fX1_cellAt (2 * nI n) (2 * nI (c / 2 / n) + 1) (2 * nI (c / 2 % n)) 0 = some (nI (wN n c 3)) := by decide +kernel
set_option maxRecDepth 100000 in
theorem wN7d0 : ∀ n, n < 9 → ∀ c, c < 2 * n * n → (cel n c && decide (c % 2 = 1)) = true → fX1_cellAt (2 * nI n) (2 * nI (c / 2 / n)) (2 * nI (c / 2 % n) + 1) 1 = some (nI (wN n c 0)) := by decide +kernel
set_option maxRecDepth 100000 in
theorem wN7d1 : ∀ n, n < 9 → ∀ c, c < 2 * n * n → (cel n c && decide (c % 2 = 1)) = true → fX1_cellAt (2 * nI n) (2 * nI (c / 2 / n) + 1) (2 * nI (c / 2 % n)) 1 = some (nI (wN n c 1)) := by decide +kernel
set_option maxRecDepth 100000 in
theorem wN7d2 : ∀ n, n < 9 → ∀ c, c < 2 * n * n → (cel n c && decide (c % 2 = 1)) = true → fX1_cellAt (2 * nI n) (2 * nI (c / 2 / n) + 1) (2 * nI (c / 2 % n) + 1) 0 = some (nI (wN n c 2)) := by decide +kernel
set_option maxRecDepth 100000 in
theorem wN7d3 : ∀ n, n < 9 → ∀ c, c < 2 * n * n → (cel n c && decide (c % 2 = 1)) = true → fX1_cellAt (2 * nI n) (2 * nI (c / 2 / n) + 1) (2 * nI (c / 2 % n) + 1) 1 = some (nI (wN n c 3)) := by decide +kernel
set_option maxRecDepth 100000 in
theorem md2 : ∀ c, c < 512 → nI c - nI c / 2 * 2 = nI (c % 2) := by decide +kernel
theorem hgR_at (L : Nat → Int32) (f : Nat → Int64) {j : Nat} : ∀ q, j < q → hgR L f q j = (L j).toInt64 := by
  intro q
  induction q with
  | zero => intro h; omega
  | succ q ih =>
    intro h
    rw [hgR]
    by_cases h1 : j = q
    · rw [h1, pk_uLs]
    · rw [pk_uLn h1, ih (by omega)]
theorem m_within (hn : n < 17) (hn1 : 1 ≤ n) (h0 : now 0 = nI n) (h : RUL kd tr o wd P now) (hr : RW l f k g) (s : Int32) (T : Nat → Int32) (t8 : Int32) (A : Nat → Int32) (x : Int32) :
    ∃ r l' f' s' T' k' t8' A' g', fX7_within (nI n) kd P l f s T x = some (r, l', f', s', T') ∧ fX8_within k t8 A now g x = some (r, k', t8', A', now, g') ∧ RW l' f' k' g' := by
  have h512 := nbs_le n hn
  unfold fX7_within fX8_within
  rcases cell_cases hn hn1 h0 x with ⟨c, hcl, rfl, e7, e8⟩ | ⟨e7, e8⟩
  rotate_left
  · rw [e7, e8, obs, obs, if_pos rfl, if_pos rfl]
    exact ⟨_, _, _, _, _, _, _, _, _, rfl, rfl, hr⟩
  rw [e7, e8, obs, obs, if_neg n10, if_neg n10, ald1 h, obs]
  by_cases hk : kd = 0
  · rw [if_pos hk, if_pos hk]
    exact ⟨_, _, _, _, _, _, _, _, _, rfl, rfl, hr⟩
  rw [if_neg hk, if_neg hk, n8 h0, obs]
  have e2n : (2 : Int32) * nI n = nI (2 * n) := by rw [show (2 : Int32) = nI 2 from rfl, pk_mul]
  by_cases h16 : n < 9
  rotate_left
  · have : ¬ (2 : Int32) * nI n ≤ 16 := by rw [e2n]; exact nI_ge (a := 16) (by omega) (by omega)
    rw [if_neg this, if_neg this]
    exact ⟨_, _, _, _, _, _, _, _, _, rfl, rfl, hr⟩
  have hle : (2 : Int32) * nI n ≤ 16 := by rw [e2n]; exact nI_le (b := 16) (by omega) (by decide)
  have hc := (cel_ij hcl).1
  obtain ⟨m', now', h1, h2, h3, h4, h5, h6⟩ := laid (n := 2 * n) h hk (by omega) (by omega) T
  unfold fX7_layTrial
  rw [if_pos hle, if_pos hle, ci7 n hn c hc, cj7 n hn c hc, ci8 hn h0 hc, cj8 hn h0 hc]
  rw [← e2n] at h1 h2
  simp only [obs, bd2, h1, aside8, h2]
  let L : Nat → Int32 := fun q => nI (wN n c q)
  have hw : ∀ q, q < 4 → wN n c q < 2 * (2 * n) * (2 * n) := fun q hq => (cel_ij (wN_cel n h16 c hc hcl q hq)).1
  have h5l := nbs_le (2 * n) (by omega)
  have e10 : fX7_within_b210 (nI n) kd P (nI 4) (hgR L f 4) (2 * nI n) m' = some (nI (fb_ct (fun q => fub (2 * n) m' (wN n c q)) 4), nI 4, hgR L f 4, 2 * nI n, m') := by
    unfold fX7_within_b210
    refine l_acc0 (F := fX7_within_b216 (nI n) kd P) (fun rc q => rc (nI 4) (hgR L f 4) (2 * nI n) m' (nI (fb_ct (fun q => fub (2 * n) m' (wN n c q)) q)) (nI q)) 4 (by decide) _ (fun rc q hq => ?_) (fun rc => ?_)
    · show fX7_within_b216 (nI n) kd P rc _ _ _ _ _ _ = _
      unfold fX7_within_b216 fX7_within_b255
      have ea : fX3_at (nI 4) (hgR L f 4) (nI q) = some (nI (wN n c q)).toInt64 := by
        unfold fX3_at
        rw [if_neg (nI_pos (by omega)), if_neg (nI_ge hq (by decide)), if_neg (show ¬ (16 : Int32) ≤ nI q from nI_ge (show q < 16 by omega) (by decide)), ald_in (by omega) (by decide), obs, hgR_at L f 4 hq]
      have et : (nI (wN n c q)).toInt64.toInt32 = nI (wN n c q) := by simp
      have e4 := turn7 (n := 2 * n) (m := m') (by omega) (hw q hq)
      rw [← e2n] at e4
      rw [if_neg (nI_ge hq (by decide)), ea, obs, et, e4, obs, fb_ct_succ]
      simp only [obs, nI_1]
      by_cases h9 : tn (2 * n) m' (wN n c q) = 0
      · rw [if_pos h9, show fub (2 * n) m' (wN n c q) = false by simp [fub, h9], Int32.add_zero]; rfl
      · rw [if_neg h9, show fub (2 * n) m' (wN n c q) = true by simp [fub, h9]]; rfl
    · rfl
  have e8 : lfix (fX8_within_b82) (fun _ _ _ _ _ _ _ _ _ _ _ => none) FU 0 0 (fa_fill now A 189) now' g (nI c) (nI (c / 2 / n)) (nI (c / 2 % n)) (nI n) 0 0 = some (nI (fb_ct (fun q => fub (2 * n) m' (wN n c q)) 4), nI 4, 0, fa_fill now A 189, now, hgR L g 4) := by
    refine l_acc0 (F := fX8_within_b82) (fun rc q => rc (nI q) 0 (fa_fill now A 189) now' (hgR L g q) (nI c) (nI (c / 2 / n)) (nI (c / 2 % n)) (nI n) (nI (fb_ct (fun q => fub (2 * n) m' (wN n c q)) q)) (nI q)) 4 (by decide) _ (fun rc q hq => ?_) (fun rc => ?_)
    · show fX8_within_b82 rc _ _ _ _ _ _ _ _ _ _ _ = _
      unfold fX8_within_b82 fX8_within_b101 fX8_within_b133
      have e9 := wN8 n h16 c hc q hq
      have ef := full8 (c := wN n c q) (by omega) h3 h4.vl (wN_cel n h16 c hc hcl q hq)
      rw [if_neg (show ¬ (4 : Int32) ≤ nI q from nI_ge hq (by decide)), md2 c (by omega), fb_ct_succ]
      by_cases h2c : c % 2 = 0
      · rw [h2c, if_pos (show nI 0 = (0 : Int32) from rfl)]
        rw [decide_eq_true h2c, show bI true = 1 from rfl] at e9
        rw [e9, obs, tell8 (show q < 64 by omega)]
        simp only [bd2, obs, ef, ifb, nI_1]
        cases fub (2 * n) m' (wN n c q) with
        | false => rw [if_neg (by decide), Int32.add_zero]; rfl
        | true => rw [if_pos rfl]; rfl
      · rw [show c % 2 = 1 by omega, if_neg (show ¬ nI 1 = (0 : Int32) by decide)]
        rw [decide_eq_false h2c, show bI false = 0 from rfl] at e9
        rw [e9, obs, tell8 (show q < 64 by omega)]
        simp only [bd2, obs, ef, ifb, nI_1]
        cases fub (2 * n) m' (wN n c q) with
        | false => rw [if_neg (by decide), Int32.add_zero]; rfl
        | true => rw [if_pos rfl]; rfl
    · show fX8_within_b82 rc _ _ _ _ _ _ _ _ _ _ _ = _
      unfold fX8_within_b82
      rw [if_pos (show (4 : Int32) ≤ nI 4 by decide), back8 A h6, obs]
  rw [e8, and1 c (by omega)]
  by_cases h2c : c % 2 = 0
  · have hb : (cel n c && decide (c % 2 = 0)) = true := by rw [hcl, decide_eq_true h2c]; rfl
    rw [h2c, if_pos (show nI 0 = (0 : Int32) from rfl), wN7u0 n h16 c hc hb, obs, wN7u1 n h16 c hc hb, obs, wN7u2 n h16 c hc hb, obs, wN7u3 n h16 c hc hb, obs, tell7_4]
    simp only [obs]
    refine ⟨_, _, _, _, _, _, _, _, _, e10, rfl, hgR_rw L f g 4 (by decide)⟩
  · have hb : (cel n c && decide (c % 2 = 1)) = true := by rw [hcl, decide_eq_true (show c % 2 = 1 by omega)]; rfl
    rw [show c % 2 = 1 by omega, if_neg (show ¬ nI 1 = (0 : Int32) by decide), wN7d0 n h16 c hc hb, obs, wN7d1 n h16 c hc hb, obs, wN7d2 n h16 c hc hb, obs, wN7d3 n h16 c hc hb, obs, tell7_4]
    simp only [obs]
    refine ⟨_, _, _, _, _, _, _, _, _, e10, rfl, hgR_rw L f g 4 (by decide)⟩
end FNR
