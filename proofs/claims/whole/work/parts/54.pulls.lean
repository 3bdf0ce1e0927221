/-! Pulls, and what is off. -/
section PLS
def zL (z : Int) : Int64 := Int64.ofInt z
def zI (z : Int) : Int32 := Int32.ofInt z
theorem zL_add (a b : Int) : zL a + zL b = zL (a + b) := (Int64.ofInt_add a b).symm
theorem zL_sub (a b : Int) : zL a - zL b = zL (a - b) := (Int64.ofInt_sub a b).symm
theorem zL_mul (a b : Int) : zL a * zL b = zL (a * b) := (Int64.ofInt_mul a b).symm
theorem zL_toInt {z : Int} (h1 : -1073741824 < z) (h2 : z < 1073741824) : (zL z).toInt = z := Int64.toInt_ofInt_of_le (by omega) (by omega)
theorem zI_toInt {z : Int} (h1 : -1073741824 < z) (h2 : z < 1073741824) : (zI z).toInt = z := fb_ofI (by omega) (by omega)
theorem zI_w {z : Int} (h1 : -1073741824 < z) (h2 : z < 1073741824) : (zI z).toInt64 = zL z := by
  rw [fa_eq64, Int32.toInt_toInt64, zI_toInt h1 h2, zL_toInt h1 h2]
theorem nI_w {k : Nat} (h : k < 1073741824) : (nI k).toInt64 = zL k := by
  rw [fa_eq64, Int32.toInt_toInt64, nI_toInt (by omega), zL_toInt (by omega) (by omega)]
theorem nI_zI (a b : Nat) (ha : a < 1073741824) (hb : b < 1073741824) : nI a - nI b = zI ((a : Int) - b) := by
  rw [fa_eq, pk_sub_toInt (by omega) (by omega), zI_toInt (by omega) (by omega)]
theorem zL_lt {a b : Int} (h1 : -1073741824 < a) (h2 : a < 1073741824) (h3 : -1073741824 < b) (h4 : b < 1073741824) : zL a < zL b ↔ a < b := by
  rw [fa_lt64, zL_toInt h1 h2, zL_toInt h3 h4]
theorem zL_le {a b : Int} (h1 : -1073741824 < a) (h2 : a < 1073741824) (h3 : -1073741824 < b) (h4 : b < 1073741824) : zL a ≤ zL b ↔ a ≤ b := by
  rw [fa_le64, zL_toInt h1 h2, zL_toInt h3 h4]
theorem zI_lt {a b : Int} (h1 : -1073741824 < a) (h2 : a < 1073741824) (h3 : -1073741824 < b) (h4 : b < 1073741824) : zI a < zI b ↔ a < b := by
  rw [fa_lt, zI_toInt h1 h2, zI_toInt h3 h4]
theorem zI_le {a b : Int} (h1 : -1073741824 < a) (h2 : a < 1073741824) (h3 : -1073741824 < b) (h4 : b < 1073741824) : zI a ≤ zI b ↔ a ≤ b := by
  rw [fa_le, zI_toInt h1 h2, zI_toInt h3 h4]
def PUL (P : Nat → Int64) (Q : Nat → Nat → Int) : Prop := ∀ q, q < 3 → ∀ h, h < 3 → P (3 * q + h) = zL (Q q h)
/-- the pull of a good at a point -/
def qv (Q : Nat → Nat → Int) (n i j q : Nat) : Int := Q q 0 * i + Q q 1 * j + Q q 2 * (n - i - j : Nat)
def BQ (Q : Nat → Nat → Int) : Prop := ∀ n i j q, n < 17 → i + j ≤ n → q < 3 → -1073741824 < qv Q n i j q ∧ qv Q n i j q < 1073741824
variable {n : Nat} {m now : Nat → Int32} {P : Nat → Int64} {Q : Nat → Nat → Int} {l k : Int32} {f g : Nat → Int64}
theorem good_is {v : Nat} (hv : v < 3) : fX7_isGood (nI v) = some 1 := by
  have h3 : v = 0 ∨ v = 1 ∨ v = 2 := by omega
  rcases h3 with rfl | rfl | rfl <;> rfl
theorem pull7 (hn : n < 17) (hP : PUL P Q) {i j q : Nat} (hij : i + j ≤ n) (hq : q < 3) : fX4_pull P (nI n) (nI i) (nI j) (nI q) = some (zL (qv Q n i j q)) := by
  unfold fX4_pull
  have p2 : fX1_price (nI n) (nI i) (nI j) 2 = some (nI (n - i - j)) := prc7 n hn i (by omega) j (by omega) 2 (by decide)
  have e0 : (3 : Int32) * nI q = nI (3 * q) := by rw [show (3 : Int32) = nI 3 from rfl, pk_mul]
  have e1 : (3 : Int32) * nI q + 1 = nI (3 * q + 1) := by rw [e0, nI_1]
  have e2 : (3 : Int32) * nI q + 2 = nI (3 * q + 2) := by rw [e0, show (2 : Int32) = nI 2 from rfl, nI_add]
  rw [good_is hq, obs, if_neg n10, obs, e1, e2, e0, ald_in (by omega) (by decide), obs, ald_in (by omega) (by decide), obs, ald_in (by omega) (by decide), obs, p2, obs]
  have a0 : P (3 * q) = zL (Q q 0) := hP q hq 0 (by decide)
  have a1 : P (3 * q + 1) = zL (Q q 1) := hP q hq 1 (by decide)
  have a2 : P (3 * q + 2) = zL (Q q 2) := hP q hq 2 (by decide)
  rw [a0, a1, a2, nI_w (by omega), nI_w (by omega), nI_w (by omega), zL_mul, zL_mul, zL_mul, zL_add, zL_add]; rfl
/-- how far a point is off, over the first t goods -/
def ofN (Q : Nat → Nat → Int) (n i j : Nat) : Nat → Nat
  | 0 => 0
  | t + 1 => if ofN Q n i j t < (qv Q n i j t).natAbs then (qv Q n i j t).natAbs else ofN Q n i j t
theorem ofN_lt (hB : BQ Q) (hn : n < 17) {i j : Nat} (hij : i + j ≤ n) : ∀ t, t ≤ 3 → ofN Q n i j t < 1073741824 := by
  intro t
  induction t with
  | zero => intro _; exact (by decide : (0 : Nat) < 1073741824)
  | succ t ih =>
    intro ht
    have := hB n i j t hn hij (by omega)
    rw [ofN]
    split
    · omega
    · exact ih (by omega)
theorem off7 (hn : n < 17) (hP : PUL P Q) (hB : BQ Q) {i j : Nat} (hij : i + j ≤ n) : fX4_off P (nI n) (nI i) (nI j) = some (zL (ofN Q n i j 3)) := by
  unfold fX4_off
  refine l_acc0 (F := fX4_off_b6 P (nI n)) (fun rc t => rc (nI i) (nI j) (zL (ofN Q n i j t)) (nI t)) 3 (by decide) _ (fun rc t ht => ?_) (fun rc => rfl)
  show fX4_off_b6 P (nI n) rc _ _ _ _ = _
  unfold fX4_off_b6
  rw [if_neg (show ¬ (3 : Int32) ≤ nI t from nI_ge ht (by decide)), pull7 hn hP hij ht, obs, obs, obs, nI_1, ofN]
  have hb := hB n i j t hn hij ht
  have ho := ofN_lt hB hn hij t (by omega)
  have ha : abL (zL (qv Q n i j t)) = zL ((qv Q n i j t).natAbs) := by
    unfold abL
    by_cases h : (0 : Int64) < zL (qv Q n i j t)
    · rw [if_pos h]
      have h2 : (0 : Int) < qv Q n i j t := (zL_lt (a := 0) (by omega) (by omega) hb.1 hb.2).mp h
      rw [show ((qv Q n i j t).natAbs : Int) = qv Q n i j t by omega]
    · rw [if_neg h]
      have h2 : ¬ (0 : Int) < qv Q n i j t := fun e => h ((zL_lt (a := 0) (by omega) (by omega) hb.1 hb.2).mpr e)
      rw [show ((qv Q n i j t).natAbs : Int) = -qv Q n i j t by omega]
      exact (Int64.ofInt_neg _).symm
  rw [ha]
  unfold mxL
  by_cases h : ofN Q n i j t < (qv Q n i j t).natAbs
  · rw [if_neg (fun e => by have := (zL_lt (by omega) (by omega) (by omega) (by omega)).mp e; omega), if_pos h]
  · by_cases h2 : (qv Q n i j t).natAbs < ofN Q n i j t
    · rw [if_pos ((zL_lt (by omega) (by omega) (by omega) (by omega)).mpr (by omega)), if_neg h]
    · rw [if_neg (fun e => by have := (zL_lt (by omega) (by omega) (by omega) (by omega)).mp e; omega), if_neg h, show (qv Q n i j t).natAbs = ofN Q n i j t by omega]
/-- the reference tells these excesses -/
def EX8 (now : Nat → Int32) (Q : Nat → Nat → Int) (n : Nat) : Prop := ∀ i j q, i + j ≤ n → q < 3 → fX8_excessOf now (nI i) (nI j) (nI q) = some (zI (qv Q n i j q))
theorem off8 (hn : n < 17) (hE : EX8 now Q n) (hB : BQ Q) {i j : Nat} (hij : i + j ≤ n) : fX8_off now (nI i) (nI j) = some (nI (ofN Q n i j 3)) := by
  unfold fX8_off
  refine l_acc0 (F := fX8_off_b5 now) (fun rc t => rc (nI i) (nI j) (nI (ofN Q n i j t)) (nI t)) 3 (by decide) _ (fun rc t ht => ?_) (fun rc => rfl)
  show fX8_off_b5 now rc _ _ _ _ = _
  unfold fX8_off_b5
  rw [if_neg (show ¬ (3 : Int32) ≤ nI t from nI_ge ht (by decide)), hE i j t hij ht, obs, obs, obs, nI_1, ofN]
  have hb := hB n i j t hn hij ht
  have ho := ofN_lt hB hn hij t (by omega)
  have ha : abI (zI (qv Q n i j t)) = nI ((qv Q n i j t).natAbs) := by
    unfold abI
    by_cases h : (0 : Int32) ≤ zI (qv Q n i j t)
    · rw [if_pos h]
      have h2 : (0 : Int) ≤ qv Q n i j t := (zI_le (a := 0) (by omega) (by omega) hb.1 hb.2).mp h
      rw [fa_eq, zI_toInt hb.1 hb.2, nI_toInt (by omega)]; omega
    · rw [if_neg h]
      have h2 : ¬ (0 : Int) ≤ qv Q n i j t := fun e => h ((zI_le (a := 0) (by omega) (by omega) hb.1 hb.2).mpr e)
      have h3 : (0 : Int32) - zI (qv Q n i j t) = zI (0 - qv Q n i j t) := (Int32.ofInt_sub 0 _).symm
      rw [h3, fa_eq, zI_toInt (by omega) (by omega), nI_toInt (by omega)]; omega
  rw [ha]
  unfold mxI
  by_cases h : ofN Q n i j t < (qv Q n i j t).natAbs
  · rw [if_pos (nI_lt h (by omega)), if_pos h]
  · rw [if_neg (nI_nlt (by omega) (by omega)), if_neg h]
theorem m_excess (hn : n < 17) (h : now 0 = nI n) (hP : PUL P Q) (hB : BQ Q) {kd : Int32} (hk : now 1 = kd) (hE : kd = 1 → EX8 now Q n) (hr : RW l f k g) (t8 x y : Int32) : ∃ r l' f' k' t8' g', fX7_excess (nI n) kd P l f x y = some (r, l', f') ∧ fX8_excess now k t8 g x y = some (r, k', t8', g') ∧ RW l' f' k' g' := by
  unfold fX7_excess fX8_excess
  rcases point_cases hn h x y with ⟨i, j, hij, rfl, rfl, e7, e8⟩ | ⟨e7, e8⟩
  rotate_left
  · rw [e7, e8, obs, obs, if_pos rfl, if_pos rfl]
    exact ⟨_, _, _, _, _, _, rfl, rfl, hr⟩
  have hl1 : ald 189 1 now = some kd := by
    rw [← hk]; exact ald_in (i := 1) (by decide) (by decide)
  rw [e7, e8, obs, obs, if_neg n10, if_neg n10, hl1, obs]
  by_cases h1 : kd = 1
  rotate_left
  · rw [if_neg h1, if_neg h1]
    exact ⟨_, _, _, _, _, _, rfl, rfl, hr⟩
  have hE := hE h1
  have b0 := hB n i j 0 hn hij (by decide)
  have b1 := hB n i j 1 hn hij (by decide)
  have b2 := hB n i j 2 hn hij (by decide)
  have bo := ofN_lt hB hn hij 3 (by decide)
  have p0 : fX4_pull P (nI n) (nI i) (nI j) 0 = some (zL (qv Q n i j 0)) := pull7 hn hP hij (q := 0) (by decide)
  have p1 : fX4_pull P (nI n) (nI i) (nI j) 1 = some (zL (qv Q n i j 1)) := pull7 hn hP hij (q := 1) (by decide)
  have p2 : fX4_pull P (nI n) (nI i) (nI j) 2 = some (zL (qv Q n i j 2)) := pull7 hn hP hij (q := 2) (by decide)
  have x0 : fX8_excessOf now (nI i) (nI j) 0 = some (zI (qv Q n i j 0)) := hE i j 0 hij (by decide)
  have x1 : fX8_excessOf now (nI i) (nI j) 1 = some (zI (qv Q n i j 1)) := hE i j 1 hij (by decide)
  have x2 : fX8_excessOf now (nI i) (nI j) 2 = some (zI (qv Q n i j 2)) := hE i j 2 hij (by decide)
  rw [if_pos h1, if_pos h1, p0, obs, p1, obs, p2, obs, off7 hn hP hB hij, obs, tell7_4, lf4]
  unfold fX8_excess_b36
  simp only [if_neg (show ¬ (3 : Int32) ≤ 0 by decide), x0, obs, bd2, tell8_0, show (0 : Int32) + 1 = 1 by decide, if_neg (show ¬ (3 : Int32) ≤ 1 by decide), x1, tell8 (q := 1) (by decide), show (1 : Int32) + 1 = 2 by decide, if_neg (show ¬ (3 : Int32) ≤ 2 by decide), x2, tell8 (q := 1 + 1) (by decide), show (2 : Int32) + 1 = 3 by decide, if_pos (show (3 : Int32) ≤ 3 by decide), off8 hn hE hB hij, tell8 (q := 1 + 1 + 1) (by decide), zI_w b0.1 b0.2, zI_w b1.1 b1.2, zI_w b2.1 b2.2, nI_w bo]
  exact ⟨_, _, _, _, _, _, rfl, rfl, RW.t4 f g _ _ _ _⟩
end PLS
