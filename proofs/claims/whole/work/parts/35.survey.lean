/-! The class's survey; which ints are points, cells. -/
section SVD
set_option maxRecDepth 100000 in
theorem ij_up : ∀ n, n < 17 → ∀ i, i < n → ∀ j, j < n - i → (2 * (n * i + j)) / 2 / n = i ∧ (2 * (n * i + j)) / 2 % n = j ∧ (2 * (n * i + j)) % 2 = 0 ∧ cel n (2 * (n * i + j)) = true := by decide +kernel
set_option maxRecDepth 100000 in
theorem ij_dn : ∀ n, n < 17 → ∀ i, i < n → ∀ j, j < n - i → (2 * (n * i + j) + 1) / 2 / n = i ∧ (2 * (n * i + j) + 1) / 2 % n = j ∧ (2 * (n * i + j) + 1) % 2 = 1 ∧ cel n (2 * (n * i + j) + 1) = decide (i + j + 1 < n) := by decide +kernel
set_option maxRecDepth 100000 in
theorem ij_no : ∀ n, n < 17 → ∀ i, i < n → ∀ c, c < 2 * i → cel n (2 * (n * i + (n - i)) + c) = false := by decide +kernel
end SVD
section SVY
variable {n : Nat} {m now : Nat → Int32}
theorem tat0 (hn : n < 17) {i j : Nat} (h : i + j < n) : fX1_turnAt (nI n) m (nI i) (nI j) 0 = some (tn n m (2 * (n * i + j))) := by
  obtain ⟨h1, h2, h3, h4⟩ := ij_up n hn i (by omega) j (by omega)
  have := tat7 (m := m) hn h4
  rw [h1, h2, h3] at this
  rw [tn_cel h4, ← this]; rfl
theorem tat1 (hn : n < 17) {i j : Nat} (h : i + j < n) : fX1_turnAt (nI n) m (nI i) (nI j) 1 = some (tn n m (2 * (n * i + j) + 1)) := by
  obtain ⟨h1, h2, h3, h4⟩ := ij_dn n hn i (by omega) j (by omega)
  by_cases h5 : i + j + 1 < n
  · rw [decide_eq_true h5] at h4
    have := tat7 (m := m) hn h4
    rw [h1, h2, h3] at this
    rw [tn_cel h4, ← this]; rfl
  · rw [decide_eq_false h5] at h4
    rw [tn_no h4]
    unfold fX1_turnAt
    rw [if_neg (nI_pos (by omega)), if_neg (nI_pos (by omega)), if_neg (show ¬ nI i + nI j + (1 : Int32) < nI n by rw [nI_add, nI_1]; exact nI_nlt (by omega) (by omega))]
theorem take7 {c : Nat} (hc : c < 512) : fX1_take (oI (fs (fub n m) c)) (nI (fb_ct (fub n m) c)) (oI (ls (fub n m) c)) (sI (tn n m) c) (nI c) (tn n m c) = some (oI (fs (fub n m) (c + 1)), nI (fb_ct (fub n m) (c + 1)), oI (ls (fub n m) (c + 1)), sI (tn n m) (c + 1)) := by
  unfold fX1_take fX1_take_b41
  have hfs : oI (fs (fub n m) c) = -1 ↔ fs (fub n m) c = none := oI_none (fun k hk => by have := (fs_lt hk).1; omega)
  by_cases h1 : tn n m c = 0
  · have h2 : fub n m c = false := by simp [fub, h1]
    rw [if_pos h1, fb_ct_succ, fs, ls, sI, h2, h1, Int32.add_zero]
    cases fs (fub n m) c <;> rfl
  · have h2 : fub n m c = true := by simp [fub, h1]
    rw [if_neg h1, obs, obs, nI_1, fb_ct_succ, fs, ls, sI, h2]
    cases h3 : fs (fub n m) c with
    | none => rw [if_pos (by rfl)]; rfl
    | some k =>
      rw [h3] at hfs
      rw [if_neg (fun e => by have := hfs.mp e; cases this)]; rfl
/-- what the survey finds -/
theorem survey7 (hn : n < 17) (a b c d : Int32) : fX1_survey (nI n) m a b c d = some (oI (fs (fub n m) (2 * n * n)), nI (fmn n m), oI (ls (fub n m) (2 * n * n)), tsm n m) := by
  have h512 := nbs_le n hn
  unfold fX1_survey fmn tsm
  refine l_acc0 (F := fX1_survey_b22 (nI n) m) (z := fun _ _ _ _ _ => none) (fun rc i => rc (oI (fs (fub n m) (2 * n * i))) (nI (fb_ct (fub n m) (2 * n * i))) (oI (ls (fub n m) (2 * n * i))) (sI (tn n m) (2 * n * i)) (nI i)) n (by omega) _ (fun rc i hi => ?_) (fun rc => ?_)
  · show fX1_survey_b22 (nI n) m rc _ _ _ _ _ = _
    unfold fX1_survey_b22
    rw [if_neg (nI_ge hi (by omega))]
    have hle : 2 * n * (i + 1) ≤ 512 := Nat.le_trans (Nat.mul_le_mul_left _ hi) h512
    have key := l_acc0 (F := fX1_survey_b32 (nI n) m rc) (z := fun _ _ _ _ _ _ => none) (fun r j => r (oI (fs (fub n m) (2 * (n * i + j)))) (nI (fb_ct (fub n m) (2 * (n * i + j)))) (oI (ls (fub n m) (2 * (n * i + j)))) (sI (tn n m) (2 * (n * i + j))) (nI i) (nI j)) (n - i) (by omega) (rc (oI (fs (fub n m) (2 * n * (i + 1)))) (nI (fb_ct (fub n m) (2 * n * (i + 1)))) (oI (ls (fub n m) (2 * n * (i + 1)))) (sI (tn n m) (2 * n * (i + 1))) (nI (i + 1))) (fun r j hj => ?_) (fun r => ?_)
    · rw [show 2 * (n * i + 0) = 2 * n * i by rw [Nat.add_zero, Nat.mul_assoc]] at key
      exact key
    · show fX1_survey_b32 (nI n) m rc r _ _ _ _ _ _ = _
      unfold fX1_survey_b32
      have hc : 2 * (n * i + j) + 1 < 512 := by
        have : 2 * n * (i + 1) = 2 * (n * i + n) := by rw [Nat.mul_succ, Nat.mul_assoc]; omega
        omega
      rw [if_neg (show ¬ nI n - nI i ≤ nI j by rw [pk_sub (by omega)]; exact nI_ge hj (by omega))]
      rw [tat0 hn (by omega), obs, show (2 : Int32) * (nI n * nI i + nI j) = nI (2 * (n * i + j)) by rw [pk_mul, nI_add, show (2 : Int32) = nI 2 from rfl, pk_mul], take7 (by omega)]
      simp only [bd4, obs]
      rw [tat1 hn (by omega), obs, nI_1, take7 (by omega)]
      simp only [obs]
      rw [nI_1, show 2 * (n * i + j) + 1 + 1 = 2 * (n * i + (j + 1)) by omega]
    · show fX1_survey_b32 (nI n) m rc r _ _ _ _ _ _ = _
      unfold fX1_survey_b32
      rw [if_pos (show nI n - nI i ≤ nI (n - i) by rw [pk_sub (by omega)]; exact nI_le (Nat.le_refl _) (by omega)), obs, nI_1]
      have e : 2 * n * (i + 1) = 2 * (n * i + (n - i)) + 2 * i := by rw [Nat.mul_succ, Nat.mul_assoc]; omega
      have hno : ∀ c, 2 * (n * i + (n - i)) ≤ c → c < 2 * (n * i + (n - i)) + 2 * i → cel n c = false := fun c h1 h2 => by
        have := ij_no n hn i hi (c - 2 * (n * i + (n - i))) (by omega)
        rwa [show 2 * (n * i + (n - i)) + (c - 2 * (n * i + (n - i))) = c by omega] at this
      rw [e, fs_skip (fun c h1 h2 => fub_cel (hno c h1 h2)), ls_skip (fun c h1 h2 => fub_cel (hno c h1 h2)), ct_skip (fun c h1 h2 => fub_cel (hno c h1 h2)), sI_skip (fun c h1 h2 => tn_no (hno c h1 h2))]
  · show fX1_survey_b22 (nI n) m rc _ _ _ _ _ = _
    unfold fX1_survey_b22
    rw [if_pos (nI_le (Nat.le_refl _) (by omega))]
theorem fullCells7 (hn : n < 17) (a b c d : Int32) : fX1_fullCells (nI n) m a b c d = some (nI (fmn n m), oI (fs (fub n m) (2 * n * n)), nI (fmn n m), oI (ls (fub n m) (2 * n * n)), tsm n m) := by
  unfold fX1_fullCells
  rw [survey7 hn]
  simp only [bd4, obs]
theorem in8_cases {N : Nat} (hN : N < 2 ^ 30) (x : Int32) : (∃ i, i ≤ N ∧ x = nI i ∧ fX8_in x 0 (nI N) = some 1) ∨ ((x < 0 ∨ (¬ x < 0 ∧ nI N < x)) ∧ fX8_in x 0 (nI N) = some 0) := by
  unfold fX8_in
  by_cases hx : x < 0
  · exact Or.inr ⟨Or.inl hx, by rw [if_pos hx]⟩
  · by_cases h2 : nI N < x
    · exact Or.inr ⟨Or.inr ⟨hx, h2⟩, by rw [if_neg hx, if_pos h2]⟩
    · left
      obtain ⟨j, hj, rfl⟩ := nI_of hx
      refine ⟨j, ?_, rfl, by rw [if_neg hx, if_neg h2]⟩
      apply Classical.byContradiction
      intro h3
      exact h2 (nI_lt (by omega) hj)
/-- which ints are points -/
theorem point_cases (hn : n < 17) (h : now 0 = nI n) (x y : Int32) : (∃ i j, i + j ≤ n ∧ x = nI i ∧ y = nI j ∧ fX1_has (nI n) x y = some 1 ∧ fX8_isPoint now x y = some 1) ∨ (fX1_has (nI n) x y = some 0 ∧ fX8_isPoint now x y = some 0) := by
  rcases in8_cases (N := n) (by omega) x with ⟨i, hi, rfl, e⟩ | ⟨hx, e⟩
  · rcases in8_cases (N := n - i) (by omega) y with ⟨j, hj, rfl, e2⟩ | ⟨hy, e2⟩
    · refine Or.inl ⟨i, j, by omega, rfl, rfl, ?_, ?_⟩
      · unfold fX1_has
        rw [if_neg (nI_pos (by omega)), if_neg (nI_pos (by omega)), if_neg (nI_nlt hi (by omega)), pk_sub hi, if_neg (nI_nlt hj (by omega))]
      · unfold fX8_isPoint
        rw [n8 h, obs, e, obs, if_neg (by decide), obs, pk_sub hi, e2, obs, if_neg (by decide)]
    · refine Or.inr ⟨?_, ?_⟩
      · unfold fX1_has
        rw [if_neg (nI_pos (by omega)), if_neg (nI_nlt hi (by omega)), pk_sub hi]
        rcases hy with hy | ⟨hy, hy2⟩
        · rw [if_pos hy]
        · rw [if_neg hy, if_pos hy2]
      · unfold fX8_isPoint
        rw [n8 h, obs, e, obs, if_neg (by decide), obs, pk_sub hi, e2, obs, if_pos rfl]
  · refine Or.inr ⟨?_, ?_⟩
    · unfold fX1_has
      rcases hx with hx | ⟨hx, hx2⟩
      · rw [if_pos hx]
      · rw [if_neg hx, if_pos hx2]
        split <;> rfl
    · unfold fX8_isPoint
      rw [n8 h, obs, e, obs, if_pos rfl]
/-- which ints are cells -/
theorem cell_cases (hn : n < 17) (h1 : 1 ≤ n) (h : now 0 = nI n) (x : Int32) : (∃ c, cel n c = true ∧ x = nI c ∧ fX1_isCell (nI n) x = some 1 ∧ fX8_isCell now x = some 1) ∨ (fX1_isCell (nI n) x = some 0 ∧ fX8_isCell now x = some 0) := by
  have h512 := nbs_le n hn
  by_cases hx : x < 0
  · right; unfold fX1_isCell fX8_isCell; rw [if_pos hx, if_pos hx]; exact ⟨rfl, rfl⟩
  · obtain ⟨c, hc, rfl⟩ := nI_of hx
    by_cases hc2 : c < 2 * n * n
    · rw [isc7 n hn c hc2, isc8 hn h hc2]
      cases h9 : cel n c with
      | true => exact Or.inl ⟨c, h9, rfl, rfl, rfl⟩
      | false => exact Or.inr ⟨rfl, rfl⟩
    · right
      have e2 : n * n * 2 ≤ c := by rw [Nat.mul_comm (n * n) 2, ← Nat.mul_assoc]; omega
      have e3 : n ≤ c / 2 / n := by
        rw [Nat.le_div_iff_mul_le h1, Nat.le_div_iff_mul_le (by decide)]; exact e2
      refine ⟨?_, ?_⟩
      · unfold fX1_isCell
        rw [if_neg hx, if_pos (show (2 : Int32) * nI n * nI n ≤ nI c by
          rw [show (2 : Int32) = nI 2 from rfl, pk_mul, pk_mul]; exact nI_le (by omega) hc)]
      · unfold fX8_isCell fX8_cellI fX8_cellJ
        rw [if_neg hx, n8 h]
        simp only [obs]
        have d1 : nI c / (2 : Int32) = nI (c / 2) := pk_div hc (by decide) (by decide)
        have d2 : nI c - nI c / (2 : Int32) * 2 = nI (c % 2) := pk_rem hc (by decide) (by decide)
        have hn0 : ¬ nI n = 0 := nI_ne0 (by omega) (by omega)
        have hr : c / 2 % n < n := Nat.mod_lt _ (by omega)
        have hq : c / 2 / n ≤ c := Nat.le_trans (Nat.div_le_self _ _) (Nat.div_le_self _ _)
        have hq3 : c / 2 / n + c / 2 % n < 2 ^ 31 - 1 := by
          have hq2 : c / 2 / n ≤ c / 2 := Nat.div_le_self _ _
          generalize c / 2 / n = a at *
          generalize c / 2 % n = b at *
          omega
        rw [d2, d1, dvI, if_neg hn0, rmI, if_neg hn0, pk_rem (Nat.lt_of_le_of_lt (Nat.div_le_self c 2) hc) h1 (by omega), pk_div (Nat.lt_of_le_of_lt (Nat.div_le_self c 2) hc) h1 (by omega)]
        simp only [obs, nI_add]
        have hlt : nI n - 1 - nI (c % 2) < nI (c / 2 / n + c / 2 % n) := by
          generalize c / 2 / n = a at *
          generalize c / 2 % n = b at *
          rw [fa_lt, nI_toInt (by omega)]
          by_cases h2 : c % 2 = 0
          · rw [h2, show nI n - 1 - nI 0 = nI (n - 1) by rw [show (1 : Int32) = nI 1 from rfl, pk_sub h1, pk_sub (by omega)]; rfl, nI_toInt (by omega)]
            omega
          · rw [show c % 2 = 1 by omega, show nI n - 1 - nI 1 = nI n - nI 2 by
              rw [Int32.sub_eq_add_neg, Int32.sub_eq_add_neg, Int32.sub_eq_add_neg, Int32.add_assoc]; rfl, pk_sub_toInt (by omega) (by omega)]
            omega
        rw [if_pos hlt]
end SVY
