/-! best, clears, sells. -/
section BST
variable {n : Nat} {m now : Nat → Int32} {P : Nat → Int64} {Q : Nat → Nat → Int} {l k : Int32} {f g : Nat → Int64}
/-- how far point number p is off -/
def oP (Q : Nat → Nat → Int) (n p : Nat) : Nat := ofN Q n (iP n p) (jP n p) 3
theorem oP_lt (hB : BQ Q) (hn : n < 17) {p : Nat} (hp : p < pts n) : oP Q n p < 1073741824 := ofN_lt hB hn (pl_ij n hn p hp).2 3 (by decide)
theorem oP_pl (hn : n < 17) {i j : Nat} (hij : i + j ≤ n) : ofN Q n i j 3 = oP Q n (pl n i j) := by
  unfold oP
  rw [iP_pl n hn i (by omega) j (by omega), jP_pl n hn i (by omega) j (by omega)]
theorem offAt8 (hn : n < 17) (h : now 0 = nI n) (hE : EX8 now Q n) (hB : BQ Q) {p : Nat} (hp : p < pts n) : fX8_offAt now (nI p) = some (nI (oP Q n p)) := by
  unfold fX8_offAt
  rw [iof8 hn h hp, obs, jof8 hn h hp, obs, off8 hn hE hB (pl_ij n hn p hp).2, obs]; rfl
/-- the best of the first c points -/
def bP (Q : Nat → Nat → Int) (n : Nat) : Nat → Nat
  | 0 => 0
  | c + 1 => if oP Q n c < oP Q n (bP Q n c) then c else bP Q n c
set_option maxRecDepth 100000 in
theorem pts_pos : ∀ n, n < 17 → 0 < pts n := by decide +kernel
theorem bP_lt (hn : n < 17) : ∀ c, c ≤ pts n → bP Q n c < pts n := by
  intro c
  induction c with
  | zero => intro _; exact pts_pos n hn
  | succ c ih =>
    intro hc
    rw [bP]
    split
    · omega
    · exact ih (by omega)
theorem iP0 (hn : n < 17) : iP n 0 = 0 ∧ jP n 0 = 0 := by
  have h1 := iP_pl n hn 0 (by omega) 0 (by omega)
  have h2 := jP_pl n hn 0 (by omega) 0 (by omega)
  rw [pl00] at h1 h2
  exact ⟨h1, h2⟩
theorem m_best (hn : n < 17) (h : now 0 = nI n) (hP : PUL P Q) (hB : BQ Q) {kd : Int32} (hk : now 1 = kd) (hE : kd = 1 → EX8 now Q n) (hr : RW l f k g) (t8 : Int32) : ∃ r l' f' k' t8' g', fX7_best (nI n) kd P l f = some (r, l', f') ∧ fX8_best now k t8 g = some (r, k', t8', g') ∧ RW l' f' k' g' := by
  have h153 := pts_le n hn
  have hpp := pts_pos n hn
  unfold fX7_best fX8_best
  have hl1 : ald 189 1 now = some kd := by
    rw [← hk]; exact ald_in (i := 1) (by decide) (by decide)
  rw [hl1, obs]
  by_cases h1 : kd = 1
  rotate_left
  · rw [if_neg h1, if_neg h1]
    exact ⟨_, _, _, _, _, _, rfl, rfl, hr⟩
  have hE := hE h1
  rw [if_pos h1, if_pos h1]
  have o00 : fX4_off P (nI n) 0 0 = some (zL (ofN Q n 0 0 3)) := off7 hn hP hB (i := 0) (j := 0) (by omega)
  rw [o00, obs]
  let b := bP Q n (pts n)
  have hb : b < pts n := bP_lt hn _ (Nat.le_refl _)
  have e7 := l_tri (F1 := fX7_best_b47 (nI n) kd P) (z1 := fun _ _ _ _ _ _ => none) (G := fX7_best_b59 (nI n) kd P) (z2 := fun _ _ _ _ _ _ _ => none) hn (fun rc i => rc l f (nI (iP n (bP Q n (pl n i 0)))) (nI (jP n (bP Q n (pl n i 0)))) (zL (oP Q n (bP Q n (pl n i 0)))) (nI i)) (fun rc i j => rc l f (nI (iP n (bP Q n (pl n i j)))) (nI (jP n (bP Q n (pl n i j)))) (zL (oP Q n (bP Q n (pl n i j)))) (nI i) (nI j)) (fun rc i hi => ?_) (fun rc r i j hi hj => ?_) (fun rc r i hi => ?_) (some (nI b, nI 3, vp_updL (vp_updL (vp_updL f 0 (nI (iP n b)).toInt64) 1 (nI (jP n b)).toInt64) 2 (zL (oP Q n b)))) (fun rc => ?_)
  rotate_left
  · show fX7_best_b47 (nI n) kd P rc _ _ _ _ _ _ = _
    unfold fX7_best_b47
    rw [if_neg (nI_nlt hi (by omega))]; rfl
  · show fX7_best_b59 (nI n) kd P rc r _ _ _ _ _ _ _ = _
    unfold fX7_best_b59
    have hp := pts_pl n hn i (by omega) hi j (by omega) hj
    have hbb := bP_lt (Q := Q) hn (pl n i j) (by omega)
    have o1 := oP_lt hB hn hp
    have o2 := oP_lt hB hn hbb
    rw [pk_sub hi, if_neg (nI_nlt hj (by omega)), off7 hn hP hB (show i + j ≤ n by omega), obs, oP_pl hn (by omega)]
    simp only [obs, nI_1]
    have e : pl n i (j + 1) = pl n i j + 1 := rfl
    rw [e, bP]
    by_cases h9 : oP Q n (pl n i j) < oP Q n (bP Q n (pl n i j))
    · rw [if_neg (fun e => by have := (zL_le (by omega) (by omega) (by omega) (by omega)).mp ((lg_cmp_ge _ _).mp e); omega), if_pos h9, iP_pl n hn i (by omega) j (by omega), jP_pl n hn i (by omega) j (by omega)]
    · rw [if_pos ((lg_cmp_ge _ _).mpr ((zL_le (by omega) (by omega) (by omega) (by omega)).mpr (by omega))), if_neg h9]
  · show fX7_best_b59 (nI n) kd P rc r _ _ _ _ _ _ _ = _
    unfold fX7_best_b59
    rw [pk_sub hi, if_pos (nI_lt (by omega) (by omega)), obs, nI_1, pl_next n hn i (by omega) hi]
  · show fX7_best_b47 (nI n) kd P rc _ _ _ _ _ _ = _
    unfold fX7_best_b47
    have hbb : pl n (iP n b) (jP n b) = b ∧ iP n b + jP n b ≤ n := pl_ij n hn b hb
    rw [if_pos (nI_lt (by omega) (by omega)), tell7_3, pl_end n hn]
    simp only [bd2, obs]
    have e : fX1_numberOf (nI n) (nI (iP n b)) (nI (jP n b)) = some (nI b) := by
      rw [num7 n hn _ (by omega) _ (by omega) (by omega), hbb.1]
    rw [show fX1_numberOf (nI n) (nI (iP n (bP Q n (pts n)))) (nI (jP n (bP Q n (pts n)))) = some (nI b) from e, obs]
  rw [pl00, show bP Q n 0 = 0 from rfl, (iP0 hn).1, (iP0 hn).2] at e7
  have e7 : lfix (fX7_best_b47 (nI n) kd P) (fun _ _ _ _ _ _ => none) FU l f 0 0 (zL (oP Q n 0)) 0 = _ := e7
  have o0 : ofN Q n 0 0 3 = oP Q n 0 := by rw [oP_pl hn (by omega), pl00]
  have e8 := l_acc0 (F := fX8_best_b22 now) (z := fun _ _ _ _ _ => none) (fun rc c => rc k 0 g (nI (bP Q n (c + 1))) (nI (c + 1))) (pts n - 1) (by omega) (some (nI b, nI 3, 0, vp_updL (vp_updL (vp_updL g 0 (nI (iP n b)).toInt64) 1 (nI (jP n b)).toInt64) 2 (zL (oP Q n b)))) (fun rc c hc => ?_) (fun rc => ?_)
  rotate_left
  · show fX8_best_b22 now rc _ _ _ _ _ = _
    unfold fX8_best_b22
    have hbb := bP_lt (Q := Q) hn (c + 1) (by omega)
    have o1 := oP_lt hB hn (show c + 1 < pts n by omega)
    have o2 := oP_lt hB hn hbb
    rw [pts8 hn h, obs, if_neg (nI_ge (show c + 1 < pts n by omega) (by omega)), offAt8 hn h hE hB (show c + 1 < pts n by omega), obs, offAt8 hn h hE hB hbb, obs]
    simp only [obs, nI_1]
    have e : bP Q n (c + 1 + 1) = if oP Q n (c + 1) < oP Q n (bP Q n (c + 1)) then c + 1 else bP Q n (c + 1) := rfl
    rw [e]
    by_cases h9 : oP Q n (c + 1) < oP Q n (bP Q n (c + 1))
    · rw [if_neg (nI_ge h9 (by omega)), if_pos h9]
    · rw [if_pos (nI_le (by omega) (by omega)), if_neg h9]
  · show fX8_best_b22 now rc _ _ _ _ _ = _
    unfold fX8_best_b22
    have o2 := oP_lt hB hn hb
    rw [show pts n - 1 + 1 = pts n by omega, pts8 hn h, obs, if_pos (nI_le (Nat.le_refl _) (by omega))]
    show (fX8_iOf now (nI b)).bind _ = _
    rw [iof8 hn h hb]
    simp only [obs, bd2, tell8_0]
    show (fX8_jOf now (nI b)).bind _ = _
    rw [jof8 hn h hb]
    simp only [obs, tell8 (q := 1) (by decide)]
    show (fX8_offAt now (nI b)).bind _ = _
    rw [offAt8 hn h hE hB hb]
    simp only [obs, tell8 (q := 1 + 1) (by decide), nI_w o2]
    rfl
  have b1 : bP Q n (0 + 1) = 0 := by
    show (if oP Q n 0 < oP Q n 0 then 0 else 0) = 0
    split <;> rfl
  simp only [b1] at e8
  have e8 : lfix (fX8_best_b22 now) (fun _ _ _ _ _ => none) FU k 0 g 0 1 = _ := e8
  rw [o0, e7, e8]
  exact ⟨_, _, _, _, _, _, rfl, rfl, RW.t3 f g _ _ _⟩
end BST
