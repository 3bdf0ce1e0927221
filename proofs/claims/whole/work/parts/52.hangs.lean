/-! hangs, lone. -/
section HNG
variable {n : Nat} {m now : Nat → Int32} {l k : Int32} {f g : Nat → Int64}
set_option maxRecDepth 100000 in
theorem cnI7 : ∀ n, n < 17 → ∀ c, c < 2 * n * n → cel n c = true → ∀ q, q < 3 → fX1_cornerI (nI n) (nI c) (nI q) = some (nI (iP n (co n c q))) := by decide +kernel
set_option maxRecDepth 100000 in
theorem cnJ7 : ∀ n, n < 17 → ∀ c, c < 2 * n * n → cel n c = true → ∀ q, q < 3 → fX1_cornerJ (nI n) (nI c) (nI q) = some (nI (jP n (co n c q))) := by decide +kernel
/-- another label that the point p can have -/
def loA (n : Nat) (m : Nat → Int32) (p v : Nat) : Bool := decide (¬ m p = nI v) && decide (0 < prc n (iP n p) (jP n p) v)
/-- .. with no fewer full cells -/
def loB (n : Nat) (m : Nat → Int32) (p v : Nat) : Bool := loA n m p v && decide (fmn n m ≤ fmn n (upd m p (nI v)))
/-- .. with one alone -/
def loC (n : Nat) (m : Nat → Int32) (p v : Nat) : Bool := loA n m p v && decide (fmn n (upd m p (nI v)) = 1)
theorem sub_neg {a b : Nat} (ha : a < 2 ^ 30) (hb : b < 2 ^ 30) : nI a - nI b < 0 ↔ a < b := by
  rw [fa_lt, pk_sub_toInt ha hb]
  show (a : Int) - b < 0 ↔ a < b
  omega
theorem loose7 (hn : n < 17) {p : Nat} (hp : p < pts n) : fX7_looseLabel (nI n) m (nI (iP n p)) (nI (jP n p)) = some (oI (fs (loB n m p) 3), m) := by
  obtain ⟨h1, h2⟩ := pl_ij n hn p hp
  unfold fX7_looseLabel
  have key := l_fs (F := fX7_looseLabel_b11 (nI n)) (z := fun _ _ _ _ => none) (fun rc i => rc m (nI (iP n p)) (nI (jP n p)) (nI i)) (fun j => some (nI j, m)) (loB n m p) 3 (by decide) (fun rc i hi hq => ?_) (fun rc i hi hq => ?_) (some (-1, m)) (fun rc => rfl)
  · refine key.trans ?_
    generalize fs _ _ = o
    cases o <;> rfl
  · show fX7_looseLabel_b11 (nI n) rc _ _ _ _ = _
    unfold fX7_looseLabel_b11
    rw [if_neg (show ¬ (3 : Int32) ≤ nI i from nI_ge hi (by decide)), lat7 hn h2, obs, h1, can7 n hn _ (by omega) _ (by omega) i hi, gain7 hn h2, h1]
    simp only [obs, bd2, nI_1, ifb]
    by_cases e1 : nI i = m p
    · rw [if_pos e1]
    · rw [if_neg e1]
      by_cases e2 : 0 < prc n (iP n p) (jP n p) i
      · rw [decide_eq_true e2, if_pos rfl]
        have e3 : ¬ fmn n m ≤ fmn n (upd m p (nI i)) := by
          have : ¬ m p = nI i := fun e => e1 e.symm
          simpa [loB, loA, this, e2] using hq
        have b1 := fmn_le (m := m) hn
        have b2 := fmn_le (m := upd m p (nI i)) hn
        rw [if_pos ((sub_neg (by omega) (by omega)).mpr (by omega))]
      · rw [decide_eq_false e2, if_neg (by decide)]
  · show fX7_looseLabel_b11 (nI n) rc _ _ _ _ = _
    unfold fX7_looseLabel_b11
    have hq1 : (¬ m p = nI i ∧ 0 < prc n (iP n p) (jP n p) i) ∧ fmn n m ≤ fmn n (upd m p (nI i)) := by simpa [loB, loA] using hq
    have b1 := fmn_le (m := m) hn
    have b2 := fmn_le (m := upd m p (nI i)) hn
    rw [if_neg (show ¬ (3 : Int32) ≤ nI i from nI_ge hi (by decide)), lat7 hn h2, obs, h1, can7 n hn _ (by omega) _ (by omega) i hi, gain7 hn h2, h1]
    simp only [obs, bd2, ifb]
    rw [if_neg (fun e => hq1.1.1 e.symm), decide_eq_true hq1.1.2, if_pos rfl, if_neg (fun e => by have := (sub_neg (by omega) (by omega)).mp e; omega)]
theorem one7 (hn : n < 17) {p : Nat} (hp : p < pts n) : fX7_labelForOne (nI n) m (nI (iP n p)) (nI (jP n p)) (nI (fmn n m)) = some (oI (fs (loC n m p) 3), m) := by
  obtain ⟨h1, h2⟩ := pl_ij n hn p hp
  unfold fX7_labelForOne
  have hsum : ∀ i, nI (fmn n m) + (nI (fmn n (upd m p (nI i))) - nI (fmn n m)) = nI (fmn n (upd m p (nI i))) := fun i => by
    rw [Int32.add_comm, Int32.sub_add_cancel]
  have hone : ∀ i, nI (fmn n (upd m p (nI i))) = 1 ↔ fmn n (upd m p (nI i)) = 1 := fun i => by
    have b2 := fmn_le (m := upd m p (nI i)) hn
    exact nI_eq (b := 1) (by omega) (by decide)
  have key := l_fs (F := fX7_labelForOne_b12 (nI n)) (z := fun _ _ _ _ _ => none) (fun rc i => rc m (nI (iP n p)) (nI (jP n p)) (nI (fmn n m)) (nI i)) (fun j => some (nI j, m)) (loC n m p) 3 (by decide) (fun rc i hi hq => ?_) (fun rc i hi hq => ?_) (some (-1, m)) (fun rc => rfl)
  · refine key.trans ?_
    generalize fs _ _ = o
    cases o <;> rfl
  · show fX7_labelForOne_b12 (nI n) rc _ _ _ _ _ = _
    unfold fX7_labelForOne_b12
    rw [if_neg (show ¬ (3 : Int32) ≤ nI i from nI_ge hi (by decide)), lat7 hn h2, obs, h1, can7 n hn _ (by omega) _ (by omega) i hi, gain7 hn h2, h1]
    simp only [obs, bd2, nI_1, ifb, hsum]
    by_cases e1 : nI i = m p
    · rw [if_pos e1]
    · rw [if_neg e1]
      by_cases e2 : 0 < prc n (iP n p) (jP n p) i
      · rw [decide_eq_true e2, if_pos rfl]
        have e3 : ¬ fmn n (upd m p (nI i)) = 1 := by
          have : ¬ m p = nI i := fun e => e1 e.symm
          simpa [loC, loA, this, e2] using hq
        rw [if_neg (fun e => e3 ((hone i).mp e))]
      · rw [decide_eq_false e2, if_neg (by decide)]
  · show fX7_labelForOne_b12 (nI n) rc _ _ _ _ _ = _
    unfold fX7_labelForOne_b12
    have hq1 : (¬ m p = nI i ∧ 0 < prc n (iP n p) (jP n p) i) ∧ fmn n (upd m p (nI i)) = 1 := by simpa [loC, loA] using hq
    rw [if_neg (show ¬ (3 : Int32) ≤ nI i from nI_ge hi (by decide)), lat7 hn h2, obs, h1, can7 n hn _ (by omega) _ (by omega) i hi, gain7 hn h2, h1]
    simp only [obs, bd2, ifb, hsum]
    rw [if_neg (fun e => hq1.1.1 e.symm), decide_eq_true hq1.1.2, if_pos rfl, if_pos ((hone i).mpr hq1.2)]
theorem fullBy8 (hn : n < 17) (h : R8 n m now) (hl : VL n m) {p v : Nat} (hp : p < pts n) (hv : v < 3) : fX8_fullBy now (nI p) (nI v) = some (if loA n m p v then nI (fmn n (upd m p (nI v))) else -1, now) := by
  have h153 := pts_le n hn
  obtain ⟨h1, h2⟩ := pl_ij n hn p hp
  unfold fX8_fullBy
  rw [lab8 (by omega), h.2 p hp, obs, iof8 hn h.1 hp, jof8 hn h.1 hp, obs, obs, can8 hn h.1 h2 hv, obs, obs, ifb, ast36 (by omega), obs, fullMany8 hn (h.put hp (nI v)) (hl.put p (lab_of hv)), obs, ast36 (by omega), obs]
  have hb : upd (upd now (36 + p) (nI v)) (36 + p) (m p) = now := by rw [← h.2 p hp, upd_back]
  rw [hb]
  unfold loA
  by_cases e1 : m p = nI v
  · rw [if_pos e1]; simp [e1]
  · rw [if_neg e1]
    by_cases e2 : 0 < prc n (iP n p) (jP n p) v
    · simp [e1, e2]
    · simp [e1, e2]
/-- what is told of the three corners -/
def hgR (L : Nat → Int32) (f : Nat → Int64) : Nat → Nat → Int64
  | 0 => f
  | q + 1 => vp_updL (hgR L f q) q (L q).toInt64
theorem hgR_rw (L : Nat → Int32) (f g : Nat → Int64) : ∀ q, q ≤ 16 → RW (nI q) (hgR L f q) (nI q) (hgR L g q) := by
  intro q
  induction q with
  | zero => intro _; exact RW.nil f g
  | succ q ih => intro hq; exact (ih (by omega)).add (by omega) _
theorem m_hangs (hn : n < 17) (hn1 : 1 ≤ n) (h : R8 n m now) (hl : VL n m) (hr : RW l f k g) (t8 x : Int32) :
    ∃ r l' f' k' t8' g', fX7_hangs (nI n) m l f x = some (r, m, l', f') ∧ fX8_hangs k t8 now g x = some (r, k', t8', now, g') ∧ RW l' f' k' g' := by
  have h512 := nbs_le n hn
  unfold fX7_hangs fX8_hangs
  rcases cell_cases hn hn1 h.1 x with ⟨c, hcl, rfl, e7, e8⟩ | ⟨e7, e8⟩
  rotate_left
  · rw [e7, e8, obs, obs, if_pos rfl, if_pos rfl]
    exact ⟨_, _, _, _, _, _, rfl, rfl, hr⟩
  have hc := (cel_ij hcl).1
  rw [e7, e8, obs, obs, if_neg n10, if_neg n10, turn7 hn hc, full8 hn h hl hcl, obs, obs, ifb]
  by_cases h0 : tn n m c = 0
  · rw [if_pos h0, show fub n m c = false by simp [fub, h0], if_neg (by decide)]
    exact ⟨_, _, _, _, _, _, rfl, rfl, hr⟩
  rw [if_neg h0, show fub n m c = true by simp [fub, h0], if_pos rfl, fullMany8 hn h hl, obs]
  unfold fX3_clear
  rw [obs]
  let ll : Nat → Option Nat := fun q => fs (loB n m (co n c q)) 3
  have hll : ∀ q, ll q = none ∨ ∃ v, v < 3 ∧ ll q = some v := fun q => by
    cases e : ll q with
    | none => exact Or.inl rfl
    | some v => exact Or.inr ⟨v, (fs_lt e).1, rfl⟩
  have e7 : lfix (fX7_hangs_b41 (nI n)) (fun _ _ _ _ _ _ => none) FU m 0 f (nI c) 0 0 = some (nI (fb_ct (fun q => (ll q).isSome) 3), m, nI 3, hgR (fun q => oI (ll q)) f 3) := by
    refine l_acc0 (F := fX7_hangs_b41 (nI n)) (fun rc i => rc m (nI i) (hgR (fun q => oI (ll q)) f i) (nI c) (nI (fb_ct (fun q => (ll q).isSome) i)) (nI i)) 3 (by decide) _ (fun rc i hi => ?_) (fun rc => rfl)
    show fX7_hangs_b41 (nI n) rc _ _ _ _ _ _ = _
    unfold fX7_hangs_b41 fX7_hangs_b89
    rw [if_neg (show ¬ (3 : Int32) ≤ nI i from nI_ge hi (by decide)), cnI7 n hn c hc hcl i hi, cnJ7 n hn c hc hcl i hi, obs, obs, loose7 hn (co_lt n hn c hc hcl i hi)]
    simp only [bd2, obs, add7 (show i < 16 by omega), nI_1]
    rw [fb_ct_succ]
    have e : fs (loB n m (co n c i)) 3 = ll i := rfl
    rw [e]
    rcases hll i with e | ⟨v, hv, e⟩
    · rw [e, if_pos oIn, Int32.add_zero, hgR, e]; rfl
    · rw [e, if_neg (oI_e (by omega)), hgR, e]; rfl
  have hco : ∀ i, i < 3 → co n c i < pts n := fun i hi => co_lt n hn c hc hcl i hi
  have e8 : lfix (fX8_hangs_b41) (fun _ _ _ _ _ _ _ _ => none) FU 0 0 now g (nI c) (nI (fmn n m)) 0 0 = some (nI (fb_ct (fun q => (ll q).isSome) 3), nI 3, 0, now, hgR (fun q => oI (ll q)) g 3) := by
    refine l_acc0 (F := fX8_hangs_b41) (fun rc i => rc (nI i) 0 now (hgR (fun q => oI (ll q)) g i) (nI c) (nI (fmn n m)) (nI (fb_ct (fun q => (ll q).isSome) i)) (nI i)) 3 (by decide) _ (fun rc i hi => ?_) (fun rc => rfl)
    show fX8_hangs_b41 rc _ _ _ _ _ _ _ _ = _
    unfold fX8_hangs_b41
    rw [if_neg (show ¬ (3 : Int32) ≤ nI i from nI_ge hi (by decide))]
    have hb := fmn_le (m := m) hn
    have key := l_dn (F := fX8_hangs_b53 rc) (z := fun _ _ _ _ _ _ _ _ _ _ => none) (fun r d => r (nI i) 0 now (hgR (fun q => oI (ll q)) g i) (nI c) (nI (fmn n m)) (nI (fb_ct (fun q => (ll q).isSome) i)) (nI i) (oI (fsd (loB n m (co n c i)) d (3 - d))) (nI d - 1)) (rc (nI (i + 1)) 0 now (hgR (fun q => oI (ll q)) g (i + 1)) (nI c) (nI (fmn n m)) (nI (fb_ct (fun q => (ll q).isSome) (i + 1))) (nI (i + 1))) (fun r => ?_) 3 FU (fun r d hd => ?_) (fu_lt (by decide))
    · exact key
    · show fX8_hangs_b53 rc r _ _ _ _ _ _ _ _ _ _ = _
      unfold fX8_hangs_b53 fX8_hangs_b97
      rw [if_pos (show nI 0 - 1 < 0 by decide), fsd_fs]
      simp only [obs, bd2, tell8 (show i < 64 by omega), nI_1]
      rw [fb_ct_succ]
      have e : fs (loB n m (co n c i)) 3 = ll i := rfl
      rw [e]
      rcases hll i with e | ⟨v, hv, e⟩
      · rw [e, if_pos oIn, Int32.add_zero, hgR, e]; rfl
      · rw [e, if_neg (oI_e (by omega)), hgR, e]; rfl
    · show fX8_hangs_b53 rc r _ _ _ _ _ _ _ _ _ _ = _
      unfold fX8_hangs_b53
      rw [show nI (d + 1) - 1 = nI d from nI_pred d, if_neg (nI_pos (by omega)), co8 hn h.1 hc hi, obs, fullBy8 hn h hl (hco i hi) hd]
      simp only [bd2, obs]
      rw [show nI d + -1 = nI d - 1 from (Int32.sub_eq_add_neg _ _).symm, fsd_step _ hd]
      have hb2 := fmn_le (m := upd m (co n c i) (nI d)) hn
      unfold loB
      cases loA n m (co n c i) d with
      | false =>
        rw [if_neg (show ¬ false = true by decide), if_pos (show (-1 : Int32) < nI (fmn n m) by rw [fa_lt, nI_toInt (by omega)]; show (-1 : Int) < _; omega)]; rfl
      | true =>
        rw [if_pos rfl]
        by_cases h9 : fmn n m ≤ fmn n (upd m (co n c i) (nI d))
        · rw [if_neg (nI_nlt h9 (by omega)), decide_eq_true h9]; rfl
        · rw [if_pos (nI_lt (by omega) (by omega)), decide_eq_false h9]; rfl
  rw [e7, e8]
  exact ⟨_, _, _, _, _, _, rfl, rfl, hgR_rw _ f g 3 (by decide)⟩
end HNG
