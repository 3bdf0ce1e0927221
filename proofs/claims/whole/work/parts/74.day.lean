/-! A day read. -/
section DAY
variable {L : Nat} {B : Nat → Nat} {sg tx : Nat → Int32}
def ndA (c : Nat) : Nat := if c = 97 then 3 else if c = 103 then 2 else if c = 108 then 5 else if c = 115 then 8 else 0
def dB (L : Nat) (B : Nat → Nat) (p r : Nat) : Bool := (dgt L B (p + 1 + r)).isNone
def atD (L : Nat) (B : Nat → Nat) (p k : Nat) : Int32 := match fs (dB L B p) k with | none => nI (p + 1 + k) | some r => nI (p + 1 + r)
def wrD (L : Nat) (B : Nat → Nat) (p k : Nat) : Int32 := match fs (dB L B p) k with | none => -1 | some r => nI (p + 1 + r)
def v1D (L : Nat) (B : Nat → Nat) (p k : Nat) : Int32 := match fs (dB L B p) k with | some _ => 0 | none => (match dgt L B (p + 1 + k) with | none => 0 | some d => nI d)
def v2D (L : Nat) (B : Nat → Nat) (p k : Nat) : Int32 := 10 * v1D L B p k + v1D L B p (k + 1)
theorem one8D (hT : TX L B sg tx) {p k : Nat} (hp : p < 85) (hk : k < 10) : fX8_oneOf (nI L) tx (atD L B p k) (wrD L B p k) 48 10 = some (v1D L B p k, atD L B p (k + 1), wrD L B p (k + 1)) := by
  unfold atD wrD v1D
  rw [fs]
  cases hf : fs (dB L B p) k with
  | some r =>
    have hr := (fs_lt hf).1
    simp only
    rw [one8w (nI_m1 (by omega))]
  | none =>
    simp only
    rw [one8d hT (by omega)]
    cases hd : dgt L B (p + 1 + k) with
    | none =>
      have e : dB L B p k = true := by unfold dB; rw [hd]; rfl
      simp only [e, if_true]
    | some d =>
      have e : dB L B p k = false := by unfold dB; rw [hd]; rfl
      simp only [e]
      rfl
theorem dig1 (hT : TX L B sg tx) {p k : Nat} (hp : p < 85) (hk : k < 9) : fX8_digits (nI L) tx (atD L B p k) (wrD L B p k) 1 = some (v1D L B p k, atD L B p (k + 1), wrD L B p (k + 1)) := by
  unfold fX8_digits
  rw [lf4]
  generalize lfix (fX8_digits_b4 (nI L) tx) _ 4092 = R
  unfold fX8_digits_b4
  rw [if_neg (show ¬ (1 : Int32) ≤ 0 by decide), one8D hT hp (by omega)]
  simp only [bd3, obs, show (0 : Int32) + 1 = 1 by decide, if_pos (show (1 : Int32) ≤ 1 by decide)]
  rw [show (10 : Int32) * 0 + v1D L B p k = v1D L B p k by rw [show (10 : Int32) * 0 = 0 from rfl, Int32.zero_add]]
theorem dig2 (hT : TX L B sg tx) {p k : Nat} (hp : p < 85) (hk : k < 9) : fX8_digits (nI L) tx (atD L B p k) (wrD L B p k) 2 = some (v2D L B p k, atD L B p (k + 1 + 1), wrD L B p (k + 1 + 1)) := by
  unfold fX8_digits
  rw [lf4]
  generalize lfix (fX8_digits_b4 (nI L) tx) _ 4092 = R
  unfold fX8_digits_b4
  rw [if_neg (show ¬ (2 : Int32) ≤ 0 by decide), one8D hT hp (by omega)]
  simp only [bd3, obs, show (0 : Int32) + 1 = 1 by decide, if_neg (show ¬ (2 : Int32) ≤ 1 by decide)]
  rw [one8D hT hp (by omega)]
  simp only [obs, show (1 : Int32) + 1 = 2 by decide, if_pos (show (2 : Int32) ≤ 2 by decide)]
  unfold v2D
  rw [show (10 : Int32) * 0 + v1D L B p k = v1D L B p k by rw [show (10 : Int32) * 0 = 0 from rfl, Int32.zero_add]]
/-- what an act at p lays down from place b on -/
def raD (L : Nat) (B : Nat → Nat) (p b : Nat) (rd : Nat → Int32) : Nat → Int32 :=
  if B p = 97 then upd (upd (upd (upd rd b (nI 97)) (b + 1) (v1D L B p 0)) (b + 2) (v1D L B p 1)) (b + 3) (v1D L B p 2)
  else if B p = 103 then upd (upd rd b (nI 103)) (b + 1) (v2D L B p 0)
  else if B p = 108 then upd (upd (upd (upd rd b (nI 108)) (b + 1) (v2D L B p 0)) (b + 2) (v2D L B p 2)) (b + 3) (v1D L B p 4)
  else upd (upd (upd (upd (upd rd b (nI 115)) (b + 1) (v2D L B p 0)) (b + 2) (v2D L B p 2)) (b + 3) (v2D L B p 4)) (b + 4) (v2D L B p 6)
theorem at0 {p : Nat} : atD L B p 0 = nI (p + 1) ∧ wrD L B p 0 = -1 := ⟨rfl, rfl⟩
theorem readAct8 (hT : TX L B sg tx) {p b : Nat} (hp : p < L) (hb : b < 700) (hnd : ¬ ndA (B p) = 0) (rd : Nat → Int32) : fX8_readAct (nI L) tx (nI p) (-1) rd (nI b) = some (atD L B p (ndA (B p)), wrD L B p (ndA (B p)), raD L B p b rd) := by
  have hL := hT.1
  have hB := (hT.2 p hp).1
  have hch : chT L B p = nI (B p) := if_pos hp
  unfold fX8_readAct
  rw [here8 hT (by omega), hch, obs]
  have hcs : B p = 97 ∨ B p = 103 ∨ B p = 108 ∨ B p = 115 := by
    unfold ndA at hnd
    by_cases h1 : B p = 97
    · exact Or.inl h1
    · rw [if_neg h1] at hnd
      by_cases h2 : B p = 103
      · exact Or.inr (Or.inl h2)
      · rw [if_neg h2] at hnd
        by_cases h3 : B p = 108
        · exact Or.inr (Or.inr (Or.inl h3))
        · rw [if_neg h3] at hnd
          by_cases h4 : B p = 115
          · exact Or.inr (Or.inr (Or.inr h4))
          · rw [if_neg h4] at hnd; exact absurd rfl hnd
  have i1 : nI b + 1 = nI (b + 1) := nI_1 b
  have i2 : nI b + 2 = nI (b + 2) := nI_add b 2
  have i3 : nI b + 3 = nI (b + 3) := nI_add b 3
  have i4 : nI b + 4 = nI (b + 4) := nI_add b 4
  have s1 : ∀ (F : Nat → Int32) x, ast 720 (nI (b + 1)) F x = some (upd F (b + 1) x) := fun F x => ast_in (by omega) (by decide)
  have s2 : ∀ (F : Nat → Int32) x, ast 720 (nI (b + 2)) F x = some (upd F (b + 2) x) := fun F x => ast_in (by omega) (by decide)
  have s3 : ∀ (F : Nat → Int32) x, ast 720 (nI (b + 3)) F x = some (upd F (b + 3) x) := fun F x => ast_in (by omega) (by decide)
  have s4 : ∀ (F : Nat → Int32) x, ast 720 (nI (b + 4)) F x = some (upd F (b + 4) x) := fun F x => ast_in (by omega) (by decide)
  have z1 : nI (p + 1) = atD L B p 0 := rfl
  have z2 : (-1 : Int32) = wrD L B p 0 := rfl
  rcases hcs with hc | hc | hc | hc
  · rw [hc, if_neg (show ¬ nI 97 = 108 by decide), if_neg (show ¬ nI 97 = 103 by decide), if_neg (show ¬ nI 97 = 115 by decide), if_pos (show nI 97 = 97 by decide)]
    unfold fX8_readAct_b38 fX8_readAct_b67 fX8_readAct_b82
    rw [obs, nI_1, ast_in (show b < 720 by omega) (by decide), obs, if_neg (show ¬ nI 97 = 108 by decide), if_pos (show nI 97 = 97 by decide), lf4]
    generalize lfix (fX8_readAct_b86 (nI L) tx) _ 4092 = R
    unfold fX8_readAct_b86 fX8_readAct_b119 fX8_readAct_b124
    rw [z1, show (-1 : Int32) = wrD L B p 0 from rfl]
    simp only [if_neg (show ¬ (3 : Int32) < 1 by decide), if_pos (show nI 97 = 97 by decide), dig1 hT (show p < 85 by omega) (show 0 < 9 by decide), bd3, obs, i1, s1, show (1 : Int32) + 1 = 2 by decide, if_neg (show ¬ (3 : Int32) < 2 by decide), dig1 hT (show p < 85 by omega) (show 0 + 1 < 9 by decide), i2, s2, show (2 : Int32) + 1 = 3 by decide, if_neg (show ¬ (3 : Int32) < 3 by decide), dig1 hT (show p < 85 by omega) (show 0 + 1 + 1 < 9 by decide), i3, s3, show (3 : Int32) + 1 = 4 by decide, if_pos (show (3 : Int32) < 4 by decide)]
    unfold raD
    rw [if_pos hc]; rfl
  · rw [hc, if_neg (show ¬ nI 103 = 108 by decide), if_pos (show nI 103 = 103 by decide)]
    unfold fX8_readAct_b38 fX8_readAct_b82
    rw [obs, nI_1, ast_in (show b < 720 by omega) (by decide), obs, if_neg (show ¬ nI 103 = 108 by decide), if_neg (show ¬ nI 103 = 97 by decide), if_pos (show nI 103 = 103 by decide), lf4]
    generalize lfix (fX8_readAct_b86 (nI L) tx) _ 4092 = R
    unfold fX8_readAct_b86 fX8_readAct_b123 fX8_readAct_b124
    rw [z1, show (-1 : Int32) = wrD L B p 0 from rfl]
    simp only [if_neg (show ¬ (1 : Int32) < 1 by decide), if_neg (show ¬ nI 103 = 97 by decide), if_neg (show ¬ nI 103 = 108 by decide), dig2 hT (show p < 85 by omega) (show 0 < 9 by decide), bd3, obs, i1, s1, show (1 : Int32) + 1 = 2 by decide, if_pos (show (1 : Int32) < 2 by decide)]
    unfold raD
    rw [if_neg (by omega), if_pos hc]; rfl
  · rw [hc, if_pos (show nI 108 = 108 by decide)]
    unfold fX8_readAct_b38 fX8_readAct_b67 fX8_readAct_b82
    rw [obs, nI_1, ast_in (show b < 720 by omega) (by decide), obs, if_pos (show nI 108 = 108 by decide), lf4]
    generalize lfix (fX8_readAct_b86 (nI L) tx) _ 4092 = R
    unfold fX8_readAct_b86 fX8_readAct_b119 fX8_readAct_b123 fX8_readAct_b124
    rw [z1, show (-1 : Int32) = wrD L B p 0 from rfl]
    simp only [if_neg (show ¬ (3 : Int32) < 1 by decide), if_neg (show ¬ nI 108 = 97 by decide), if_pos (show nI 108 = 108 by decide), if_neg (show ¬ (1 : Int32) = 3 by decide), dig2 hT (show p < 85 by omega) (show 0 < 9 by decide), bd3, obs, i1, s1, show (1 : Int32) + 1 = 2 by decide, if_neg (show ¬ (3 : Int32) < 2 by decide), if_neg (show ¬ (2 : Int32) = 3 by decide), dig2 hT (show p < 85 by omega) (show 0 + 1 + 1 < 9 by decide), i2, s2, show (2 : Int32) + 1 = 3 by decide, if_neg (show ¬ (3 : Int32) < 3 by decide), if_true, dig1 hT (show p < 85 by omega) (show 0 + 1 + 1 + 1 + 1 < 9 by decide), i3, s3, show (3 : Int32) + 1 = 4 by decide, if_pos (show (3 : Int32) < 4 by decide)]
    unfold raD
    rw [if_neg (by omega), if_neg (by omega), if_pos hc]; rfl
  · rw [hc, if_neg (show ¬ nI 115 = 108 by decide), if_neg (show ¬ nI 115 = 103 by decide), if_pos (show nI 115 = 115 by decide)]
    unfold fX8_readAct_b38 fX8_readAct_b82
    rw [obs, nI_1, ast_in (show b < 720 by omega) (by decide), obs, if_neg (show ¬ nI 115 = 108 by decide), if_neg (show ¬ nI 115 = 97 by decide), if_neg (show ¬ nI 115 = 103 by decide), lf1, lfs _ _ 4094, lfs _ _ 4093, lfs _ _ 4092, lfs _ _ 4091]
    generalize lfix (fX8_readAct_b86 (nI L) tx) _ 4091 = R
    unfold fX8_readAct_b86 fX8_readAct_b123 fX8_readAct_b124
    rw [z1, show (-1 : Int32) = wrD L B p 0 from rfl]
    simp only [if_neg (show ¬ (4 : Int32) < 1 by decide), if_neg (show ¬ nI 115 = 97 by decide), if_neg (show ¬ nI 115 = 108 by decide), dig2 hT (show p < 85 by omega) (show 0 < 9 by decide), bd3, obs, i1, s1, show (1 : Int32) + 1 = 2 by decide, if_neg (show ¬ (4 : Int32) < 2 by decide), dig2 hT (show p < 85 by omega) (show 0 + 1 + 1 < 9 by decide), i2, s2, show (2 : Int32) + 1 = 3 by decide, if_neg (show ¬ (4 : Int32) < 3 by decide), dig2 hT (show p < 85 by omega) (show 0 + 1 + 1 + 1 + 1 < 9 by decide), i3, s3, show (3 : Int32) + 1 = 4 by decide, if_neg (show ¬ (4 : Int32) < 4 by decide), dig2 hT (show p < 85 by omega) (show 0 + 1 + 1 + 1 + 1 + 1 + 1 < 9 by decide), i4, s4, show (4 : Int32) + 1 = 5 by decide, if_pos (show (4 : Int32) < 5 by decide)]
    unfold raD
    rw [if_neg (by omega), if_neg (by omega), if_neg (by omega)]; rfl
theorem readNo8 (hT : TX L B sg tx) {p : Nat} (hp : p < L) (hnd : ndA (B p) = 0) (rd : Nat → Int32) (b : Int32) : fX8_readAct (nI L) tx (nI p) (-1) rd b = some (nI p, nI p, rd) := by
  have hL := hT.1
  have hB := (hT.2 p hp).1
  have hch : chT L B p = nI (B p) := if_pos hp
  have hcs : ¬ B p = 97 ∧ ¬ B p = 103 ∧ ¬ B p = 108 ∧ ¬ B p = 115 := by
    refine ⟨fun e => ?_, fun e => ?_, fun e => ?_, fun e => ?_⟩ <;> (rw [e] at hnd; exact absurd hnd (by decide))
  have ne : ∀ c, c < 256 → ¬ B p = c → ¬ nI (B p) = nI c := fun c hc h e => h ((nI_eq (by omega) (by omega)).mp e)
  unfold fX8_readAct
  rw [here8 hT (by omega), hch, obs, if_neg (show ¬ nI (B p) = 108 from ne 108 (by decide) hcs.2.2.1), if_neg (show ¬ nI (B p) = 103 from ne 103 (by decide) hcs.2.1), if_neg (show ¬ nI (B p) = 115 from ne 115 (by decide) hcs.2.2.2), if_neg (show ¬ nI (B p) = 97 from ne 97 (by decide) hcs.1), fault8, obs]
theorem nd7 {c : Nat} (hc : c < 256) : fX7_digitsOfAct (nI c) = some (nI (ndA c)) := by
  have eq : ∀ k, k < 256 → (nI c = nI k ↔ c = k) := fun k hk => nI_eq (by omega) (by omega)
  have e1 : nI c = 97 ↔ c = 97 := eq 97 (by decide)
  have e2 : nI c = 103 ↔ c = 103 := eq 103 (by decide)
  have e3 : nI c = 108 ↔ c = 108 := eq 108 (by decide)
  have e4 : nI c = 115 ↔ c = 115 := eq 115 (by decide)
  unfold fX7_digitsOfAct ndA
  by_cases h1 : c = 97
  · rw [if_pos (e1.mpr h1), if_pos h1]; rfl
  · rw [if_neg (fun e => h1 (e1.mp e)), if_neg h1]
    by_cases h2 : c = 103
    · rw [if_pos (e2.mpr h2), if_pos h2]; rfl
    · rw [if_neg (fun e => h2 (e2.mp e)), if_neg h2]
      by_cases h3 : c = 108
      · rw [if_pos (e3.mpr h3), if_pos h3]; rfl
      · rw [if_neg (fun e => h3 (e3.mp e)), if_neg h3]
        by_cases h4 : c = 115
        · rw [if_pos (e4.mpr h4), if_pos h4]; rfl
        · rw [if_neg (fun e => h4 (e4.mp e)), if_neg h4]; rfl
theorem nd_le (c : Nat) : ndA c ≤ 8 ∧ (¬ ndA c = 0 → 2 ≤ ndA c) := by
  unfold ndA
  split
  · omega
  · split
    · omega
    · split
      · omega
      · split <;> omega
theorem day_body7 (hT : TX L B sg tx) {p : Nat} (hp : p < L) (rc : Int32 → Option Int32) : fX7_wrongInDay_b2 (nI L) sg rc (nI p) = if ndA (B p) = 0 then some (nI p) else match fs (dB L B p) (ndA (B p)) with | some r => some (nI (p + 1 + r)) | none => rc (nI (p + 1 + ndA (B p))) := by
  have hL := hT.1
  have hB := (hT.2 p hp).1
  have hnd := nd_le (B p)
  have hch : chT L B p = nI (B p) := if_pos hp
  unfold fX7_wrongInDay_b2
  rw [if_neg (nI_ge hp (by omega)), at7 hT (by omega), hch, obs, nd7 hB, obs]
  by_cases h0 : ndA (B p) = 0
  · rw [h0, if_pos (show nI 0 = (0 : Int32) from rfl), if_pos rfl]
  · rw [if_neg (nI_n0 (by omega) (by omega)), if_neg h0]
    have key := l_fs (F := fX7_wrongInDay_b33 (nI L) sg rc) (z := fun _ _ _ => none) (fun r q => r (nI p) (nI (ndA (B p))) (nI (q + 1))) (fun q => some (nI (p + 1 + q))) (dB L B p) (ndA (B p)) (by omega) (fun r q hq hb => ?_) (fun r q hq hb => ?_) (rc (nI (p + 1 + ndA (B p)))) (fun r => ?_)
    · exact key
    · show fX7_wrongInDay_b33 (nI L) sg rc r _ _ _ = _
      unfold fX7_wrongInDay_b33
      rw [if_neg (nI_nlt (by omega) (by omega)), nI_add, show p + (q + 1) = p + 1 + q by omega, digit7 hT (by omega), obs]
      unfold dB at hb
      cases hd : dgt L B (p + 1 + q) with
      | none => rw [hd] at hb; cases hb
      | some d =>
        have := dgt_le hd
        rw [if_neg (oI_e (by omega)), obs, nI_1]
    · show fX7_wrongInDay_b33 (nI L) sg rc r _ _ _ = _
      unfold fX7_wrongInDay_b33
      rw [if_neg (nI_nlt (by omega) (by omega)), nI_add, show p + (q + 1) = p + 1 + q by omega, digit7 hT (by omega), obs]
      unfold dB at hb
      cases hd : dgt L B (p + 1 + q) with
      | none => rw [if_pos oIn]
      | some d => rw [hd] at hb; cases hb
    · show fX7_wrongInDay_b33 (nI L) sg rc r _ _ _ = _
      unfold fX7_wrongInDay_b33
      rw [if_pos (nI_lt (by omega) (by omega)), obs, show (1 : Int32) + nI (ndA (B p)) = nI (1 + ndA (B p)) from nI_add 1 _, nI_add, Nat.add_assoc]
/-- where act number k begins -/
def psA (B : Nat → Nat) : Nat → Nat
  | 0 => 0
  | k + 1 => psA B k + 1 + ndA (B (psA B k))
/-- act number k stands there -/
def gdA (L : Nat) (B : Nat → Nat) (k : Nat) : Prop := psA B k < L ∧ ¬ ndA (B (psA B k)) = 0 ∧ fs (dB L B (psA B k)) (ndA (B (psA B k))) = none
def RAx (L : Nat) (B : Nat → Nat) (k : Nat) (rd : Nat → Int32) : Prop := ∀ j, j < k → ∃ rd0, ∀ q, q < 5 → rd (5 * j + q) = raD L B (psA B j) (5 * j) rd0 (5 * j + q)
theorem updn {F : Nat → Int32} {k q : Nat} {x : Int32} (h : ¬ q = k) : upd F k x q = F q := if_neg h
theorem raD_out {p b : Nat} {rd : Nat → Int32} {q : Nat} (h : q < b ∨ b + 5 ≤ q) : raD L B p b rd q = rd q := by
  unfold raD
  split
  · rw [updn (by omega), updn (by omega), updn (by omega), updn (by omega)]
  · split
    · rw [updn (by omega), updn (by omega)]
    · split
      · rw [updn (by omega), updn (by omega), updn (by omega), updn (by omega)]
      · rw [updn (by omega), updn (by omega), updn (by omega), updn (by omega), updn (by omega)]
theorem gd_end {k : Nat} (h : gdA L B k) : psA B (k + 1) ≤ L := by
  obtain ⟨h1, h2, h3⟩ := h
  have hnd := nd_le (B (psA B k))
  have : dB L B (psA B k) (ndA (B (psA B k)) - 1) = false := by
    rcases fs_cases (dB L B (psA B k)) (ndA (B (psA B k))) with ⟨j, -, -, -, x⟩ | ⟨x, -⟩
    · rw [h3] at x; cases x
    · exact x _ (by omega)
  unfold dB at this
  cases hd : dgt L B (psA B k + 1 + (ndA (B (psA B k)) - 1)) with
  | none => rw [hd] at this; cases this
  | some d =>
    have := dgt_le hd
    rw [psA]
    omega
theorem day_ind (hT : TX L B sg tx) (rm uM : Int32) (row : Nat → Int64) (now U W : Nat → Int32) : ∀ (d k fuel fuel8 : Nat), L - psA B k ≤ d → 3 * k ≤ psA B k → psA B k ≤ L → d < fuel → d + 1 < fuel8 → ∀ rd, RAx L B k rd → (∀ j, j < k → gdA L B j) →
    (∃ w a8' rd', w < 90 ∧ lfix (fX7_wrongInDay_b2 (nI L) sg) (fun _ => none) fuel (nI (psA B k)) = some (nI w) ∧ lfix (fX8_day_b11 tx) (fun _ _ _ _ _ _ _ _ _ _ _ _ _ => none) fuel8 (nI (psA B k)) (nI L) rm 0 0 uM (-1) now rd row U W (nI k) = some (-1 - nI w, a8', nI L, rm, 0, 0, uM, nI w, now, rd', row, U, W)) ∨
    (∃ M rd', psA B M = L ∧ 3 * M ≤ L ∧ lfix (fX7_wrongInDay_b2 (nI L) sg) (fun _ => none) fuel (nI (psA B k)) = some (-1) ∧ (∀ j, j < M → gdA L B j) ∧ RAx L B M rd' ∧ lfix (fX8_day_b11 tx) (fun _ _ _ _ _ _ _ _ _ _ _ _ _ => none) fuel8 (nI (psA B k)) (nI L) rm 0 0 uM (-1) now rd row U W (nI k) = fX8_day_b42 tx (nI L) (nI L) rm 0 0 uM (-1) now rd' row U W (nI M)) := by
  have hL := hT.1
  intro d
  induction d with
  | zero =>
    intro k fuel fuel8 h1 h2 h3 h4 h5 rd hrd hg
    obtain ⟨q, rfl⟩ : ∃ q, fuel = q + 1 := ⟨fuel - 1, by omega⟩
    obtain ⟨q8, rfl⟩ : ∃ q8, fuel8 = q8 + 1 := ⟨fuel8 - 1, by omega⟩
    have hp : psA B k = L := by omega
    right
    refine ⟨k, rd, hp, by omega, ?_, hg, hrd, ?_⟩
    · rw [lfs]
      unfold fX7_wrongInDay_b2
      rw [if_pos (nI_le (by omega) (by omega))]
    · rw [lfs]
      generalize lfix (fX8_day_b11 tx) _ q8 = R
      unfold fX8_day_b11
      rw [fine8, obs, if_neg n10, if_pos (nI_le (by omega) (by omega)), hp]
  | succ d ih =>
    intro k fuel fuel8 h1 h2 h3 h4 h5 rd hrd hg
    obtain ⟨q, rfl⟩ : ∃ q, fuel = q + 1 := ⟨fuel - 1, by omega⟩
    obtain ⟨q8, rfl⟩ : ∃ q8, fuel8 = q8 + 1 + 1 := ⟨fuel8 - 2, by omega⟩
    by_cases hend : L ≤ psA B k
    · have hp : psA B k = L := by omega
      right
      refine ⟨k, rd, hp, by omega, ?_, hg, hrd, ?_⟩
      · rw [lfs]
        generalize lfix (fX7_wrongInDay_b2 (nI L) sg) _ q = R
        unfold fX7_wrongInDay_b2
        rw [if_pos (nI_le (by omega) (by omega))]
      · rw [lfs]
        generalize lfix (fX8_day_b11 tx) _ (q8 + 1) = R
        unfold fX8_day_b11
        rw [fine8, obs, if_neg n10, if_pos (nI_le (by omega) (by omega)), hp]
    have hp : psA B k < L := by omega
    have hnd := nd_le (B (psA B k))
    have i5 : (5 : Int32) * nI k = nI (5 * k) := by rw [show (5 : Int32) = nI 5 from rfl, pk_mul]
    -- once wrong
    have over : ∀ (w : Nat) (at8 : Int32) (rd' : Nat → Int32), w < 90 → lfix (fX8_day_b11 tx) (fun _ _ _ _ _ _ _ _ _ _ _ _ _ => none) (q8 + 1) at8 (nI L) rm 0 0 uM (nI w) now rd' row U W (nI (k + 1)) = some (-1 - nI w, at8, nI L, rm, 0, 0, uM, nI w, now, rd', row, U, W) := fun w at8 rd' hw => by
      rw [lfs]
      generalize lfix (fX8_day_b11 tx) _ q8 = R
      unfold fX8_day_b11 fX8_day_b42
      rw [fine8w (nI_m1 (by omega)), obs, if_pos rfl, right8w (nI_m1 (by omega))]
      simp only [bd2, obs, if_true]
    rw [lfs (fX7_wrongInDay_b2 (nI L) sg), lfs (fX8_day_b11 tx) _ (q8 + 1), day_body7 hT hp]
    generalize hR8 : lfix (fX8_day_b11 tx) (fun _ _ _ _ _ _ _ _ _ _ _ _ _ => none) (q8 + 1) = R8' at *
    have body8 : fX8_day_b11 tx R8' (nI (psA B k)) (nI L) rm 0 0 uM (-1) now rd row U W (nI k) = bd3 (fX8_readAct (nI L) tx (nI (psA B k)) (-1) rd (nI (5 * k))) fun v2 v3 v4 => R8' v2 (nI L) rm 0 0 uM v3 now v4 row U W (nI (k + 1)) := by
      unfold fX8_day_b11
      rw [fine8, obs, if_neg n10, if_neg (nI_ge hp (by omega)), i5]
      simp only [obs, nI_1]
    rw [body8]
    by_cases h0 : ndA (B (psA B k)) = 0
    · left
      rw [if_pos h0, readNo8 hT hp h0]
      simp only [bd3, obs]
      rw [over _ _ _ (by omega)]
      exact ⟨_, _, _, by omega, rfl, rfl⟩
    · rw [if_neg h0, readAct8 hT hp (by omega) h0]
      simp only [bd3, obs]
      cases hf : fs (dB L B (psA B k)) (ndA (B (psA B k))) with
      | some r =>
        have hr := (fs_lt hf).1
        left
        have ea : wrD L B (psA B k) (ndA (B (psA B k))) = nI (psA B k + 1 + r) := by unfold wrD; rw [hf]
        rw [ea, over _ _ _ (by omega)]
        exact ⟨_, _, _, by omega, rfl, rfl⟩
      | none =>
        have ea : wrD L B (psA B k) (ndA (B (psA B k))) = -1 := by unfold wrD; rw [hf]
        have eb : atD L B (psA B k) (ndA (B (psA B k))) = nI (psA B (k + 1)) := by unfold atD; rw [hf]; rfl
        have hgk : gdA L B k := ⟨hp, h0, hf⟩
        have hps : psA B (k + 1) = psA B k + 1 + ndA (B (psA B k)) := rfl
        rw [ea, eb, ← hps]
        have hr1 : RAx L B (k + 1) (raD L B (psA B k) (5 * k) rd) := fun j hj => by
          by_cases h9 : j = k
          · subst h9; exact ⟨rd, fun q _ => rfl⟩
          · obtain ⟨rd0, h8⟩ := hrd j (by omega)
            exact ⟨rd0, fun q hq => by rw [raD_out (by omega)]; exact h8 q hq⟩
        have hg1 : ∀ j, j < k + 1 → gdA L B j := fun j hj => by
          by_cases h9 : j = k
          · subst h9; exact hgk
          · exact hg j (by omega)
        have x := ih (k + 1) q (q8 + 1) (by omega) (by omega) (gd_end hgk) (by omega) (by omega) (raD L B (psA B k) (5 * k) rd) hr1 hg1
        rw [hR8] at x
        exact x
end DAY
