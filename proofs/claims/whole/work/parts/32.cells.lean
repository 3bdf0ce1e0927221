section OBS
/-- not by rfl: the kernel must not compare what is bound -/
theorem obs {α β : Type} (a : α) (f : α → Option β) : (some a).bind f = f a := by
  have h : ∀ o : Option α, o = some a → o.bind f = f a := fun o h => by subst h; rfl
  exact h _ rfl
end OBS
section DC2
set_option maxRecDepth 100000 in
theorem over7 : ∀ n, n < 17 → ∀ i, i < n + 1 → ∀ j, j < n + 1 - i → fX1_overOf (nI n) (nI i) (nI (pl n i j)) = some (nI (pl n (i + 1) j)) := by decide +kernel
set_option maxRecDepth 100000 in
theorem and1 : ∀ c, c < 512 → (nI c) &&& (1 : Int32) = nI (c % 2) := by decide +kernel
end DC2
section VL7
/-- labels are 0, 1, 2 -/
def VL (n : Nat) (m : Nat → Int32) : Prop := ∀ p, p < pts n → m p = 0 ∨ m p = 1 ∨ m p = 2
/-- the reference's array holds the size and the labels -/
def R8 (n : Nat) (m now : Nat → Int32) : Prop := now 0 = nI n ∧ ∀ p, p < pts n → now (36 + p) = m p
variable {n : Nat} {m now : Nat → Int32}
theorem pl8 (hn : n < 17) (h : now 0 = nI n) {i j : Nat} (hi : i ≤ n + 1) (hj : j < 18) : fX8_place now (nI i) (nI j) = some (nI (pl n i j)) := by
  rw [show fX8_place now (nI i) (nI j) = fX8_place (nc n) (nI i) (nI j) by simp only [fX8_place, n8 h, n8c]]
  exact pl8c n hn i (by omega) j hj hi
theorem pts8 (hn : n < 17) (h : now 0 = nI n) : fX8_points now = some (nI (pts n)) := by
  rw [show fX8_points now = fX8_points (nc n) by simp only [fX8_points, n8 h, n8c]]
  exact pts8c n hn
theorem nbs8 (hn : n < 17) (h : now 0 = nI n) : fX8_numbers now = some (nI (2 * n * n)) := by
  rw [show fX8_numbers now = fX8_numbers (nc n) by simp only [fX8_numbers, n8 h, n8c]]
  exact nbs8c n hn
theorem ci8 (hn : n < 17) (h : now 0 = nI n) {c : Nat} (hc : c < 2 * n * n) : fX8_cellI now (nI c) = some (nI (c / 2 / n)) := by
  rw [show fX8_cellI now (nI c) = fX8_cellI (nc n) (nI c) by simp only [fX8_cellI, n8 h, n8c]]
  exact ci8c n hn c hc
theorem cj8 (hn : n < 17) (h : now 0 = nI n) {c : Nat} (hc : c < 2 * n * n) : fX8_cellJ now (nI c) = some (nI (c / 2 % n)) := by
  rw [show fX8_cellJ now (nI c) = fX8_cellJ (nc n) (nI c) by simp only [fX8_cellJ, n8 h, n8c]]
  exact cj8c n hn c hc
theorem isc8 (hn : n < 17) (h : now 0 = nI n) {c : Nat} (hc : c < 2 * n * n) : fX8_isCell now (nI c) = some (bI (cel n c)) := by
  rw [show fX8_isCell now (nI c) = fX8_isCell (nc n) (nI c) by simp only [fX8_isCell, fX8_cellI, fX8_cellJ, n8 h, n8c]]
  exact isc8c n hn c hc
theorem co8 (hn : n < 17) (h : now 0 = nI n) {c k : Nat} (hc : c < 2 * n * n) (hk : k < 3) : fX8_corner now (nI c) (nI k) = some (nI (co n c k)) := by
  rw [show fX8_corner now (nI c) (nI k) = fX8_corner (nc n) (nI c) (nI k) by simp only [fX8_corner, fX8_corner_b31, fX8_corner_b44, fX8_corner_b61, fX8_corner_b74, fX8_place, fX8_cellI, fX8_cellJ, n8 h, n8c]]
  exact co8c n hn c hc k hk
theorem bey8 (hn : n < 17) (h : now 0 = nI n) {c e : Nat} (hc : c < 2 * n * n) (hcl : cel n c = true) (he : e < 3) : fX8_beyond now (nI c) (nI e) = some (oI (bey n c e)) := by
  rw [show fX8_beyond now (nI c) (nI e) = fX8_beyond (nc n) (nI c) (nI e) by simp only [fX8_beyond, fX8_beyond_b24, fX8_beyond_b36, fX8_beyond_b50, fX8_beyond_b66, fX8_beyond_b98, fX8_cellI, fX8_cellJ, n8 h, n8c]]
  exact bey8c n hn c hc hcl e he
theorem prc8 (hn : n < 17) (h : now 0 = nI n) {i j g : Nat} (hij : i + j ≤ n) (hg : g < 3) : fX8_price now (nI i) (nI j) (nI g) = some (nI (prc n i j g)) := by
  rw [show fX8_price now (nI i) (nI j) (nI g) = fX8_price (nc n) (nI i) (nI j) (nI g) by simp only [fX8_price, n8 h, n8c]]
  exact prc8c n hn i (by omega) j (by omega) g hg
theorem can8 (hn : n < 17) (h : now 0 = nI n) {i j g : Nat} (hij : i + j ≤ n) (hg : g < 3) : fX8_canHave now (nI i) (nI j) (nI g) = some (bI (decide (0 < prc n i j g))) := by
  rw [show fX8_canHave now (nI i) (nI j) (nI g) = fX8_canHave (nc n) (nI i) (nI j) (nI g) by simp only [fX8_canHave, fX8_price, n8 h, n8c]]
  exact can8c n hn i (by omega) j (by omega) g hg
theorem lab8 {p : Nat} (hp : p < 153) : fX8_labelAt now (nI p) = some (now (36 + p)) := by
  show (ald 189 (nI 36 + nI p) now).bind (fun v1 => some v1) = _
  rw [nI_add, ald_in (by omega) (by decide)]; rfl
theorem clb8 (hn : n < 17) (h : R8 n m now) {c k : Nat} (hc : c < 2 * n * n) (hcl : cel n c = true) (hk : k < 3) : fX8_cornerLabel now (nI c) (nI k) = some (m (co n c k)) := by
  have h1 := co_lt n hn c hc hcl k hk
  have h2 := pts_le n hn
  unfold fX8_cornerLabel
  rw [co8 hn h.1 hc hk]
  show (fX8_labelAt now (nI (co n c k))).bind (fun v2 => some v2) = _
  rw [lab8 (by omega), h.2 _ h1]; rfl
theorem lon7 {p : Nat} (hp : p < 153) : fX1_labelOfNumber m (nI p) = some (m p) := by
  unfold fX1_labelOfNumber
  rw [if_neg (nI_pos (by omega)), if_neg (show ¬ (153 : Int32) ≤ nI p from nI_ge hp (by decide)), ald_in hp (by decide)]; rfl
theorem cel_ij {c : Nat} (h : cel n c = true) : c < 2 * n * n ∧ ∃ i j, c / 2 / n = i ∧ c / 2 % n = j ∧ i + j + c % 2 < n := by
  have h1 : c < 2 * n * n ∧ c / 2 / n + c / 2 % n + c % 2 < n := by simpa [cel] using h
  exact ⟨h1.1, _, _, rfl, rfl, h1.2⟩
def trn (a b c : Int32) : Int32 := if a = b then 0 else if b = c then 0 else if a = c then 0 else if b = (a + 1) - (a + 1) / 3 * 3 then 1 else -1
theorem trn7 (a b c : Int32) : fX1_turnOf a b c = some (trn a b c) := by
  unfold fX1_turnOf trn
  split
  · rfl
  · split
    · rfl
    · split
      · rfl
      · split <;> rfl
/-- what a cell's corners are -/
theorem co_up {c i j : Nat} (h : c % 2 = 0) (hi : c / 2 / n = i) (hj : c / 2 % n = j) : co n c 0 = pl n i j ∧ co n c 1 = pl n (i + 1) j ∧ co n c 2 = pl n i j + 1 := by
  simp [co, h, pl, hi, hj, Nat.add_assoc]
theorem co_dn {c i j : Nat} (h : ¬ c % 2 = 0) (hi : c / 2 / n = i) (hj : c / 2 % n = j) : co n c 0 = pl n (i + 1) j + 1 ∧ co n c 1 = pl n i j + 1 ∧ co n c 2 = pl n (i + 1) j := by
  simp [co, h, pl, hi, hj, Nat.add_assoc]
/-- turn of the cell c -/
def tr3 (n : Nat) (m : Nat → Int32) (c : Nat) : Int32 := trn (m (co n c 0)) (m (co n c 1)) (m (co n c 2))
theorem cel_n {c : Nat} (h : cel n c = true) : 0 < n := by
  obtain ⟨-, i, j, -, -, h1⟩ := cel_ij h
  omega
theorem tat7 (hn : n < 17) {c : Nat} (hcl : cel n c = true) : fX1_turnAt (nI n) m (nI (c / 2 / n)) (nI (c / 2 % n)) (nI (c % 2)) = some (tr3 n m c) := by
  obtain ⟨hc, i, j, hi, hj, hs⟩ := cel_ij hcl
  have h512 := nbs_le n hn
  have k0 := co_lt n hn c hc hcl 0 (by decide)
  have k1 := co_lt n hn c hc hcl 1 (by decide)
  have k2 := co_lt n hn c hc hcl 2 (by decide)
  have hp := pts_le n hn
  rw [hi, hj]
  unfold fX1_turnAt
  rw [if_neg (nI_pos (by omega)), if_neg (nI_pos (by omega)), nI_add, nI_add, if_pos (nI_lt hs (by omega)), num7 n hn _ (by omega) _ (by omega) (by omega)]
  simp only [obs]
  rw [over7 n hn _ (by omega) _ (by omega)]
  by_cases h2 : c % 2 = 0
  · obtain ⟨e0, e1, e2⟩ := co_up (n := n) h2 hi hj
    rw [e0] at k0; rw [e1] at k1; rw [e2] at k2
    simp only [h2, show nI 0 = (0 : Int32) from rfl, if_pos, obs, nI_1, lon7 (m := m) (show pl n i j < 153 by omega), lon7 (m := m) (show pl n (i + 1) j < 153 by omega), lon7 (m := m) (show pl n i j + 1 < 153 by omega), trn7, tr3, e0, e1, e2]
  · obtain ⟨e0, e1, e2⟩ := co_dn (n := n) h2 hi hj
    rw [e0] at k0; rw [e1] at k1; rw [e2] at k2
    have h3 : c % 2 = 1 := by omega
    simp only [h3, if_neg (show ¬ nI 1 = (0 : Int32) by decide), obs, nI_1, lon7 (m := m) (show pl n (i + 1) j + 1 < 153 by omega), lon7 (m := m) (show pl n (i + 1) j < 153 by omega), lon7 (m := m) (show pl n i j + 1 < 153 by omega), trn7, tr3, e0, e1, e2]
/-- turn of a number, 0 where there is no cell -/
def tn (n : Nat) (m : Nat → Int32) (c : Nat) : Int32 := if cel n c then tr3 n m c else 0
theorem turn7 (hn : n < 17) {c : Nat} (hc : c < 2 * n * n) : fX1_turn (nI n) m (nI c) = some (tn n m c) := by
  have h512 := nbs_le n hn
  unfold fX1_turn tn
  rw [isc7 n hn c hc]
  simp only [obs, ifb]
  cases hcl : cel n c with
  | false => rfl
  | true => simp only [if_true, ci7 n hn c hc, cj7 n hn c hc, obs, and1 c (by omega), tat7 hn hcl]
theorem clb7 (hn : n < 17) {c k : Nat} (hcl : cel n c = true) (hk : k < 3) : fX1_cornerLabel (nI n) m (nI c) (nI k) = some (m (co n c k)) := by
  obtain ⟨hc, i, j, hi, hj, hs⟩ := cel_ij hcl
  have h512 := nbs_le n hn
  have k0 := co_lt n hn c hc hcl 0 (by decide)
  have k1 := co_lt n hn c hc hcl 1 (by decide)
  have k2 := co_lt n hn c hc hcl 2 (by decide)
  have hp := pts_le n hn
  unfold fX1_cornerLabel
  rw [ci7 n hn c hc, cj7 n hn c hc, hi, hj]
  simp only [obs]
  rw [num7 n hn _ (by omega) _ (by omega) (by omega)]
  simp only [obs]
  rw [over7 n hn _ (by omega) _ (by omega), and1 c (by omega)]
  simp only [obs]
  have h3 : k = 0 ∨ k = 1 ∨ k = 2 := by omega
  by_cases h2 : c % 2 = 0
  · obtain ⟨e0, e1, e2⟩ := co_up (n := n) h2 hi hj
    rw [e0] at k0; rw [e1] at k1; rw [e2] at k2
    rw [h2, if_pos (show nI 0 = (0 : Int32) from rfl)]
    unfold fX1_cornerLabel_b38
    rcases h3 with rfl | rfl | rfl
    · rw [if_pos (show nI 0 = (0 : Int32) from rfl), if_neg (by decide), fX1_cornerLabel_b59, lon7 (by omega), e0]; rfl
    · rw [if_neg (by decide), if_pos (by decide), if_neg (by decide), fX1_cornerLabel_b83, lon7 (by omega), e1]; rfl
    · rw [if_neg (by decide), if_neg (by decide), if_neg (by decide), fX1_cornerLabel_b102, nI_1, lon7 (by omega), e2]; rfl
  · obtain ⟨e0, e1, e2⟩ := co_dn (n := n) h2 hi hj
    rw [e0] at k0; rw [e1] at k1; rw [e2] at k2
    rw [show c % 2 = 1 by omega, if_neg (show ¬ nI 1 = (0 : Int32) by decide)]
    unfold fX1_cornerLabel_b38
    rcases h3 with rfl | rfl | rfl
    · rw [if_pos (show nI 0 = (0 : Int32) from rfl), if_pos rfl, fX1_cornerLabel_b59, nI_1, lon7 (by omega), e0]; rfl
    · rw [if_neg (by decide), if_pos (by decide), if_pos rfl, fX1_cornerLabel_b83, nI_1, lon7 (by omega), e1]; rfl
    · rw [if_neg (by decide), if_neg (by decide), if_pos rfl, fX1_cornerLabel_b102, lon7 (by omega), e2]; rfl
end VL7
