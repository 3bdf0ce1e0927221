/-! nth, with, many, label, row. -/
section DWN
theorem l_dn {τ ρ : Type} {F : τ → τ} {z : τ} (ap : τ → Nat → ρ) (fin : ρ) (he : ∀ rc, ap (F rc) 0 = fin) : ∀ (N fuel : Nat), (∀ rc c, c < N → ap (F rc) (c + 1) = ap rc c) → N < fuel → ap (lfix F z fuel) N = fin := by
  intro N
  induction N with
  | zero =>
    intro fuel _ h
    obtain ⟨f, rfl⟩ : ∃ f, fuel = f + 1 := ⟨fuel - 1, by omega⟩
    exact he _
  | succ N ih =>
    intro fuel hs h
    obtain ⟨f, rfl⟩ : ∃ f, fuel = f + 1 := ⟨fuel - 1, by omega⟩
    have e : ap (lfix F z (f + 1)) (N + 1) = ap (lfix F z f) N := hs _ N (by omega)
    exact e.trans (ih f (fun rc c hc => hs rc c (by omega)) (by omega))
/-- the first from c on, of k -/
def fsd (p : Nat → Bool) : Nat → Nat → Option Nat
  | _, 0 => none
  | c, k + 1 => if p c then some c else fsd p (c + 1) k
theorem fsd_cases (p : Nat → Bool) : ∀ (k c : Nat), (∃ j, c ≤ j ∧ j < c + k ∧ p j = true ∧ (∀ q, c ≤ q → q < j → p q = false) ∧ fsd p c k = some j) ∨ ((∀ q, c ≤ q → q < c + k → p q = false) ∧ fsd p c k = none) := by
  intro k
  induction k with
  | zero => intro c; exact Or.inr ⟨fun q h1 h2 => by omega, rfl⟩
  | succ k ih =>
    intro c
    rw [fsd]
    cases h : p c with
    | true => exact Or.inl ⟨c, by omega, by omega, h, fun q h1 h2 => by omega, rfl⟩
    | false =>
      rcases ih (c + 1) with ⟨j, a1, a2, a3, a4, a5⟩ | ⟨a1, a2⟩
      · refine Or.inl ⟨j, by omega, by omega, a3, fun q h1 h2 => ?_, a5⟩
        by_cases h3 : q = c
        · subst h3; exact h
        · exact a4 q (by omega) h2
      · refine Or.inr ⟨fun q h1 h2 => ?_, a2⟩
        by_cases h3 : q = c
        · subst h3; exact h
        · exact a1 q (by omega) (by omega)
theorem fsd_fs (p : Nat → Bool) (N : Nat) : fsd p 0 N = fs p N := by
  rcases fsd_cases p N 0 with ⟨j, -, a2, a3, a4, a5⟩ | ⟨a1, a2⟩
  · rw [a5, fs_some a3 (fun q hq => a4 q (by omega) hq) (by omega)]
  · rw [a2, fs_none (fun q hq => a1 q (by omega) (by omega))]
theorem fsd_step (p : Nat → Bool) {c N : Nat} (h : c < N) : fsd p c (N - c) = if p c then some c else fsd p (c + 1) (N - (c + 1)) := by
  rw [show N - c = (N - (c + 1)) + 1 by omega, fsd]
theorem ct_dn (p : Nat → Bool) {c N : Nat} (h : c < N) : nI (fb_ct p N - fb_ct p c) = if p c then nI (fb_ct p N - fb_ct p (c + 1)) + 1 else nI (fb_ct p N - fb_ct p (c + 1)) := by
  have h1 := fb_ct_succ p c
  have h2 := fb_ct_mono p (show c + 1 ≤ N from h)
  cases h3 : p c with
  | true =>
    rw [h3] at h1
    rw [if_pos rfl, nI_1]
    congr 1
    rw [if_pos rfl] at h1
    omega
  | false =>
    rw [h3] at h1
    rw [if_neg (by decide)]
    congr 1
    rw [if_neg (by decide)] at h1
    omega
end DWN
section PTS
def iP (n p : Nat) : Nat := fb_ct (fun i => decide (pl n (i + 1) 0 ≤ p)) n
def jP (n p : Nat) : Nat := p - pl n (iP n p) 0
set_option maxRecDepth 100000 in
theorem iP_pl : ∀ n, n < 17 → ∀ i, i < n + 1 → ∀ j, j < n + 1 - i → iP n (pl n i j) = i := by decide +kernel
set_option maxRecDepth 100000 in
theorem jP_pl : ∀ n, n < 17 → ∀ i, i < n + 1 → ∀ j, j < n + 1 - i → jP n (pl n i j) = j := by decide +kernel
set_option maxRecDepth 100000 in
theorem pl_ij : ∀ n, n < 17 → ∀ p, p < pts n → pl n (iP n p) (jP n p) = p ∧ iP n p + jP n p ≤ n := by decide +kernel
def rmb (n p : Nat) : Bool := decide (iP n p = 0) || decide (jP n p = 0) || decide (iP n p + jP n p = n)
set_option maxRecDepth 100000 in
theorem rim7 : ∀ n, n < 17 → ∀ i, i < n + 1 → ∀ j, j < n + 1 - i → fX1_onRim (nI n) (nI i) (nI j) = some (bI (rmb n (pl n i j))) := by decide +kernel
set_option maxRecDepth 100000 in
theorem rim8c : ∀ n, n < 17 → ∀ i, i < n + 1 → ∀ j, j < n + 1 - i → fX8_isRim (nc n) (nI i) (nI j) = some (bI (rmb n (pl n i j))) := by decide +kernel
end PTS
section MT2
variable {n : Nat} {m now : Nat → Int32} {l k : Int32} {f g : Nat → Int64}
theorem pl00 (n : Nat) : pl n 0 0 = 0 := by simp [pl]
theorem rim8 (hn : n < 17) (h : now 0 = nI n) {i j : Nat} (hij : i + j ≤ n) : fX8_isRim now (nI i) (nI j) = some (bI (rmb n (pl n i j))) := by
  rw [show fX8_isRim now (nI i) (nI j) = fX8_isRim (nc n) (nI i) (nI j) by simp only [fX8_isRim, fX8_isRim_b18, n8 h, n8c]]
  exact rim8c n hn i (by omega) j (by omega)
theorem fub_c {c : Nat} (h : fub n m c = true) : cel n c = true := by
  cases h9 : cel n c with
  | true => rfl
  | false => rw [fub_cel h9] at h; cases h
theorem lat7 (hn : n < 17) {i j : Nat} (hij : i + j ≤ n) : fX1_labelAt (nI n) m (nI i) (nI j) = some (m (pl n i j)) := by
  have h1 := pts_pl n hn i (by omega) (by omega) j (by omega) (by omega)
  have h2 := pts_le n hn
  unfold fX1_labelAt
  rw [num7 n hn i (by omega) j (by omega) (by omega), obs, lon7 (by omega), obs]
theorem m_nth (hn : n < 17) (h : R8 n m now) (hv : VL n m) (hr : RW l f k g) (t x : Int32) : ∃ r l' f' k' g' t', fX7_nth (nI n) m l f x = some (r, l', f') ∧ fX8_nth now k t g x = some (r, k', t', g') ∧ RW l' f' k' g' := by
  have h512 := nbs_le n hn
  unfold fX7_nth fX8_nth
  rw [nth7 hn, nth8 hn h hv, obs, obs]
  cases ho : nth n m x with
  | none =>
    rw [if_pos (show oI none = -1 from rfl), if_pos (show oI none = -1 from rfl)]
    exact ⟨_, _, _, _, _, _, rfl, rfl, hr⟩
  | some j =>
    obtain ⟨h1, h2, -⟩ := fs_lt ho
    have hf : fub n m j = true := by
      cases h9 : fub n m j with
      | true => rfl
      | false => rw [h9] at h2; cases h2
    have hne : ¬ oI (some j) = -1 := fun e => by
      have := (oI_none (o := some j) (fun c hc => by cases hc; omega)).mp e
      cases this
    rw [if_neg hne, if_neg hne]
    show ∃ r l' f' k' g' t', (fX1_turn (nI n) m (nI j)).bind _ = _ ∧ (fX8_turn now (nI j)).bind _ = _ ∧ _
    rw [turn7 hn h1, turn8 hn h hv (fub_c hf), obs, obs, tell7, tell8_0]
    simp only [bd2, obs]
    exact ⟨_, _, _, _, _, _, rfl, rfl, RW.t1 f g _⟩
/-- cells of this set of labels -/
def stb (n : Nat) (m : Nat → Int32) (x : Int32) (c : Nat) : Bool := cel n c && decide (set3 n m c = x)
theorem m_with (hn : n < 17) (hn1 : 1 ≤ n) (h : R8 n m now) (hr : RW l f k g) (t x : Int32) : ∃ r l' f' k' g' t', fX7_with (nI n) m l f x = some (r, l', f') ∧ fX8_with now k t g x = some (r, k', t', g') ∧ RW l' f' k' g' := by
  have h512 := nbs_le n hn
  unfold fX7_with fX8_with fX8_in
  by_cases h1 : x < 1
  · rw [if_pos h1, if_pos h1, obs, if_pos rfl]
    exact ⟨_, _, _, _, _, _, rfl, rfl, hr⟩
  rw [if_neg h1, if_neg h1]
  by_cases h2 : x ≤ 7
  rotate_left
  · rw [if_neg h2, if_pos (fa_of_nle h2), obs, if_pos rfl]
    exact ⟨_, _, _, _, _, _, rfl, rfl, hr⟩
  have h3 : ¬ (7 : Int32) < x := fun e => (fa_of_lt e).2.1 h2
  rw [if_pos h2, if_neg h3, obs, if_neg (by decide), nbs8 hn h.1, obs, obs]
  have hct : ∀ i, fb_ct (stb n m x) i ≤ i := fb_ct_le _
  have e7 : lfix (fX7_with_b20 (nI n) m) (fun _ _ _ _ _ _ => none) FU l f x 0 (-1) 0 = some (nI (fb_ct (stb n m x) (2 * n * n)), nI 1, vp_updL f 0 (oI (fs (stb n m x) (2 * n * n))).toInt64) := by
    refine l_acc0 (F := fX7_with_b20 (nI n) m) (fun rc i => rc l f x (nI (fb_ct (stb n m x) i)) (oI (fs (stb n m x) i)) (nI i)) (2 * n * n) (by omega) _ (fun rc i hi => ?_) (fun rc => ?_)
    · show fX7_with_b20 (nI n) m rc l f x _ _ _ = _
      unfold fX7_with_b20 fX7_with_b80
      rw [nbs7 n hn, obs, if_neg (nI_ge hi (by omega)), isc7 n hn i hi, obs, ifb]
      simp only [obs, nI_1]
      rw [fb_ct_succ, fs]
      have hfs : oI (fs (stb n m x) i) = -1 ↔ fs (stb n m x) i = none := oI_none (fun c hc => by have := (fs_lt hc).1; omega)
      cases hcl : cel n i with
      | false =>
        rw [if_neg (by decide), show stb n m x i = false by simp [stb, hcl]]
        cases fs (stb n m x) i <;> rfl
      | true =>
        rw [if_pos rfl, set7 hn hcl, obs]
        by_cases h4 : set3 n m i = x
        · rw [if_pos h4, show stb n m x i = true by simp [stb, hcl, h4]]
          cases h5 : fs (stb n m x) i with
          | none => rw [if_pos (show oI none = -1 from rfl)]; rfl
          | some j =>
            rw [h5] at hfs
            rw [if_neg (fun e => by have := hfs.mp e; cases this)]; rfl
        · rw [if_neg h4, show stb n m x i = false by simp [stb, h4]]
          cases fs (stb n m x) i <;> rfl
    · show fX7_with_b20 (nI n) m rc l f x _ _ _ = _
      unfold fX7_with_b20
      rw [nbs7 n hn, obs, if_pos (nI_le (Nat.le_refl _) (by omega)), tell7]
      simp only [bd2, obs]
  have hN1 : 1 ≤ 2 * n * n := by
    have : 1 ≤ n * n := Nat.mul_le_mul hn1 hn1
    rw [Nat.mul_assoc]; omega
  have e8 : lfix (fX8_with_b29 now) (fun _ _ _ _ _ _ _ => none) FU k 0 g x 0 (-1) (nI (2 * n * n) - 1) = some (nI (fb_ct (stb n m x) (2 * n * n)), nI 1, 0, vp_updL g 0 (oI (fs (stb n m x) (2 * n * n))).toInt64) := by
    have key := l_dn (F := fX8_with_b29 now) (z := fun _ _ _ _ _ _ _ => none) (fun rc c => rc k 0 g x (nI (fb_ct (stb n m x) (2 * n * n) - fb_ct (stb n m x) c)) (oI (fsd (stb n m x) c (2 * n * n - c))) (nI c - 1)) (some (nI (fb_ct (stb n m x) (2 * n * n)), nI 1, 0, vp_updL g 0 (oI (fs (stb n m x) (2 * n * n))).toInt64)) (fun rc => ?_) (2 * n * n) FU (fun rc c hc => ?_) (fu_lt (by omega))
    · rw [Nat.sub_self, Nat.sub_self] at key
      exact key
    · show fX8_with_b29 now rc k 0 g x _ _ _ = _
      unfold fX8_with_b29
      rw [if_pos (show nI 0 - 1 < 0 by decide), fsd_fs, tell8_0]
      simp only [bd2, obs]
      rfl
    · show fX8_with_b29 now rc k 0 g x _ _ _ = _
      unfold fX8_with_b29
      rw [show nI (c + 1) - 1 = nI c from nI_pred c, if_neg (nI_pos (by omega)), isc8 hn h.1 hc, obs, ifb]
      simp only [obs]
      rw [show nI c + -1 = nI c - 1 from (Int32.sub_eq_add_neg _ _).symm]
      rw [ct_dn _ hc, fsd_step _ hc]
      cases hcl : cel n c with
      | false => rw [if_neg (by decide), show stb n m x c = false by simp [stb, hcl]]; rfl
      | true =>
        rw [if_pos rfl, set8 hn h hcl, obs]
        by_cases h4 : set3 n m c = x
        · rw [if_pos h4, show stb n m x c = true by simp [stb, hcl, h4]]; rfl
        · rw [if_neg h4, show stb n m x c = false by simp [stb, h4]]; rfl
  rw [e7, e8]
  exact ⟨_, _, _, _, _, _, rfl, rfl, RW.t1 f g _⟩
theorem m_many (hn : n < 17) (h : R8 n m now) (hr : RW l f k g) (t x : Int32) : ∃ r l' f' k' g' t', fX7_many (nI n) m l f x = some (r, l', f') ∧ fX8_many now k t g x = some (r, k', t', g') ∧ RW l' f' k' g' := by
  unfold fX7_many fX8_many
  have hp := pts_le n hn
  rcases good_cases x with ⟨v, hv, rfl, e1, e2, -⟩ | ⟨e1, e2, -⟩
  rotate_left
  · rw [e1, e2, obs, obs, if_pos rfl, if_pos rfl]
    exact ⟨_, _, _, _, _, _, rfl, rfl, hr⟩
  rw [e1, e2, obs, obs, if_neg (by decide), if_neg (by decide)]
  have e7 : lfix (fX7_many_b25 (nI n) m) (fun _ _ _ _ _ _ => none) FU l f (nI v) 0 0 0 = some (nI (fb_ct (fun p => decide (m p = nI v)) (pts n)), nI 1, vp_updL f 0 (nI (fb_ct (fun p => decide (m p = nI v) && rmb n p) (pts n))).toInt64) := by
    have key := l_tri (F1 := fX7_many_b25 (nI n) m) (z1 := fun _ _ _ _ _ _ => none) (G := fX7_many_b37 (nI n) m) (z2 := fun _ _ _ _ _ _ _ => none) hn (fun rc i => rc l f (nI v) (nI (fb_ct (fun p => decide (m p = nI v)) (pl n i 0))) (nI (fb_ct (fun p => decide (m p = nI v) && rmb n p) (pl n i 0))) (nI i)) (fun rc i j => rc l f (nI v) (nI (fb_ct (fun p => decide (m p = nI v)) (pl n i j))) (nI (fb_ct (fun p => decide (m p = nI v) && rmb n p) (pl n i j))) (nI i) (nI j)) (fun rc i hi => ?_) (fun rc r i j hi hj => ?_) (fun rc r i hi => ?_) (some (nI (fb_ct (fun p => decide (m p = nI v)) (pts n)), nI 1, vp_updL f 0 (nI (fb_ct (fun p => decide (m p = nI v) && rmb n p) (pts n))).toInt64)) (fun rc => ?_)
    · rw [pl00] at key
      exact key
    · show fX7_many_b25 (nI n) m rc l f _ _ _ _ = _
      unfold fX7_many_b25
      rw [if_neg (nI_nlt hi (by omega))]; rfl
    · show fX7_many_b37 (nI n) m rc r l f _ _ _ _ _ = _
      unfold fX7_many_b37 fX7_many_b82
      rw [pk_sub hi, if_neg (nI_nlt hj (by omega)), lat7 hn (by omega), obs, rim7 n hn i (by omega) j (by omega)]
      simp only [obs, nI_1, ifb]
      rw [show pl n i (j + 1) = pl n i j + 1 from rfl, fb_ct_succ, fb_ct_succ]
      by_cases h4 : m (pl n i j) = nI v
      · rw [if_pos h4, decide_eq_true h4]
        cases rmb n (pl n i j) with
        | false => rw [if_neg (by decide), Int32.add_zero]; rfl
        | true => rw [if_pos rfl]; rfl
      · rw [if_neg h4, decide_eq_false h4]; rfl
    · show fX7_many_b37 (nI n) m rc r l f _ _ _ _ _ = _
      unfold fX7_many_b37
      rw [pk_sub hi, if_pos (nI_lt (by omega) (by omega)), obs, nI_1, pl_next n hn i (by omega) hi]
    · show fX7_many_b25 (nI n) m rc l f _ _ _ _ = _
      unfold fX7_many_b25
      rw [if_pos (nI_lt (by omega) (by omega)), tell7, pl_end n hn]
      simp only [bd2, obs]
  have e8 : lfix (fX8_many_b23 now) (fun _ _ _ _ _ _ _ => none) FU k 0 g (nI v) 0 0 0 = some (nI (fb_ct (fun p => decide (m p = nI v)) (pts n)), nI 1, 0, vp_updL g 0 (nI (fb_ct (fun p => decide (m p = nI v) && rmb n p) (pts n))).toInt64) := by
    have key := l_tri (F1 := fX8_many_b23 now) (z1 := fun _ _ _ _ _ _ _ => none) (G := fX8_many_b35 now) (z2 := fun _ _ _ _ _ _ _ _ => none) hn (fun rc i => rc k 0 g (nI v) (nI (fb_ct (fun p => decide (m p = nI v)) (pl n i 0))) (nI (fb_ct (fun p => decide (m p = nI v) && rmb n p) (pl n i 0))) (nI i)) (fun rc i j => rc k 0 g (nI v) (nI (fb_ct (fun p => decide (m p = nI v)) (pl n i j))) (nI (fb_ct (fun p => decide (m p = nI v) && rmb n p) (pl n i j))) (nI i) (nI j)) (fun rc i hi => ?_) (fun rc r i j hi hj => ?_) (fun rc r i hi => ?_) (some (nI (fb_ct (fun p => decide (m p = nI v)) (pts n)), nI 1, 0, vp_updL g 0 (nI (fb_ct (fun p => decide (m p = nI v) && rmb n p) (pts n))).toInt64)) (fun rc => ?_)
    · rw [pl00] at key
      exact key
    · show fX8_many_b23 now rc k 0 g _ _ _ _ = _
      unfold fX8_many_b23
      rw [n8 h.1, obs, if_neg (nI_nlt hi (by omega))]; rfl
    · show fX8_many_b35 now rc r k 0 g _ _ _ _ _ = _
      unfold fX8_many_b35 fX8_many_b86
      have h1 := pts_pl n hn i (by omega) hi j (by omega) hj
      rw [n8 h.1, obs, pk_sub hi, if_neg (nI_nlt hj (by omega)), pl8 hn h.1 (by omega) (by omega), obs, lab8 (by omega), h.2 _ h1, obs, rim8 hn h.1 (show i + j ≤ n by omega)]
      simp only [obs, nI_1, ifb]
      rw [show pl n i (j + 1) = pl n i j + 1 from rfl, fb_ct_succ, fb_ct_succ]
      by_cases h4 : m (pl n i j) = nI v
      · rw [if_pos h4, decide_eq_true h4]
        cases rmb n (pl n i j) with
        | false => rw [if_neg (by decide), Int32.add_zero]; rfl
        | true => rw [if_pos rfl]; rfl
      · rw [if_neg h4, decide_eq_false h4]; rfl
    · show fX8_many_b35 now rc r k 0 g _ _ _ _ _ = _
      unfold fX8_many_b35
      rw [n8 h.1, obs, pk_sub hi, if_pos (nI_lt (by omega) (by omega)), obs, nI_1, pl_next n hn i (by omega) hi]
    · show fX8_many_b23 now rc k 0 g _ _ _ _ = _
      unfold fX8_many_b23
      rw [n8 h.1, obs, if_pos (nI_lt (by omega) (by omega)), tell8_0, pl_end n hn]
      simp only [bd2, obs]
  rw [e7, e8]
  exact ⟨_, _, _, _, _, _, rfl, rfl, RW.t1 f g _⟩
/-- label: thrown alike, and where not, the same answer -/
theorem m_label (hn : n < 17) (h : R8 n m now) (t x y : Int32) : ∃ t' v v', fX7_label (nI n) m x y = some (t', v) ∧ fX8_label now t x y = some (v', t') ∧ (t' = 0 → v = v') ∧ (t' = 0 ∨ t' = 1) := by
  unfold fX7_label fX8_label fX8_lost
  have hp := pts_le n hn
  rcases point_cases hn h.1 x y with ⟨i, j, hij, rfl, rfl, e7, e8⟩ | ⟨e7, e8⟩
  · have h1 := pts_pl n hn i (by omega) (by omega) j (by omega) (by omega)
    rw [e7, e8, obs, obs, if_neg (by decide), if_neg (by decide), lat7 hn hij, obs, pl8 hn h.1 (by omega) (by omega), obs, lab8 (by omega), h.2 _ h1, obs]
    exact ⟨_, _, _, rfl, rfl, fun _ => rfl, Or.inl rfl⟩
  · rw [e7, e8, obs, obs, if_pos rfl, if_pos rfl]
    simp only [bd2, obs]
    exact ⟨_, _, _, rfl, rfl, fun e => absurd e (by decide), Or.inr rfl⟩
theorem m_row (hr : RW l f k g) (t x : Int32) : ∃ t' v v', fX7_row l f x = some (t', v) ∧ fX8_row k g t x = some (v', t') ∧ (t' = 0 → v = v') ∧ (t' = 0 ∨ t' = 1) := by
  obtain ⟨q, hq, rfl, rfl, hj⟩ := hr
  unfold fX7_row fX8_row fX8_in fX8_lost
  by_cases hx : x < 0
  · rw [if_pos hx, if_pos hx, obs, if_pos rfl]
    simp only [bd2, obs]
    exact ⟨_, _, _, rfl, rfl, fun e => absurd e (by decide), Or.inr rfl⟩
  · obtain ⟨j, hj31, rfl⟩ := nI_of hx
    rw [if_neg hx, if_neg hx]
    by_cases h2 : j < q
    · unfold fX3_at
      have h3 : ¬ nI q - 1 < nI j := by
        rw [show (1 : Int32) = nI 1 from rfl, pk_sub (by omega)]; exact nI_nlt (by omega) (by omega)
      rw [if_pos (nI_lt h2 (by omega)), if_neg hx, if_neg (nI_ge h2 (by omega)), if_neg (show ¬ (16 : Int32) ≤ nI j from nI_ge (show j < 16 by omega) (by decide)), ald_in (show j < 16 by omega) (by decide), if_neg h3]
      simp only [obs]
      rw [if_neg (by decide), ald_in (show j < 64 by omega) (by decide), obs]
      exact ⟨_, _, _, rfl, rfl, fun _ => hj j h2, Or.inl rfl⟩
    · have h3 : nI q - 1 < nI j := by
        rw [fa_lt, nI_toInt hj31, show (1 : Int32) = nI 1 from rfl, pk_sub_toInt (by omega) (by omega)]
        omega
      rw [if_neg (nI_nlt (by omega) (by omega)), if_pos h3, obs, if_pos rfl]
      simp only [bd2, obs]
      exact ⟨_, _, _, rfl, rfl, fun e => absurd e (by decide), Or.inr rfl⟩
end MT2
