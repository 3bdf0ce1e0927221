/-! lone. -/
section LON
variable {n : Nat} {m now : Nat → Int32} {l k : Int32} {f g : Nat → Int64}
def loP (n : Nat) (m : Nat → Int32) (p : Nat) : Bool := (fs (loC n m p) 3).isSome
def ptC (n : Nat) (m : Nat → Int32) (d : Nat) : Option Nat := fsd (loP n m) d (pts n - d)
def toC (n : Nat) (m : Nat → Int32) (d : Nat) : Int32 := match ptC n m d with | none => -1 | some p => oI (fs (loC n m p) 3)
theorem ptC_s {d : Nat} (h : d < pts n) : ptC n m d = if loP n m d then some d else ptC n m (d + 1) := fsd_step _ h
theorem ptC_lt {d p : Nat} (h : ptC n m d = some p) : d ≤ p ∧ p < d + (pts n - d) ∧ loP n m p = true := by
  rcases fsd_cases (loP n m) (pts n - d) d with ⟨j, a1, a2, a3, -, a5⟩ | ⟨-, a2⟩
  · unfold ptC at h
    rw [a5] at h; cases h
    exact ⟨a1, a2, a3⟩
  · unfold ptC at h
    rw [a2] at h; cases h
theorem loP_v {p : Nat} (h : loP n m p = true) : ∃ v, v < 3 ∧ fs (loC n m p) 3 = some v := by
  unfold loP at h
  cases e : fs (loC n m p) 3 with
  | none => rw [e] at h; cases h
  | some v => exact ⟨v, (fs_lt e).1, rfl⟩
theorem lone8i (hn : n < 17) (h : R8 n m now) (hl : VL n m) {d : Nat} (hd : d < pts n) (F : Int32) (rc : Int32 → Int32 → (Nat → Int32) → (Nat → Int64) → Int32 → Int32 → Int32 → Int32 → Option (Int32 × Int32 × Int32 × (Nat → Int32) × (Nat → Int64))) : lfix (fX8_lone_b35 rc) (fun _ _ _ _ _ _ _ _ _ => none) FU k 0 now g F (oI (ptC n m (d + 1))) (toC n m (d + 1)) (nI d) 2 = rc k 0 now g F (oI (ptC n m d)) (toC n m d) (nI d - 1) := by
  have h153 := pts_le n hn
  let X : Nat → Int32 := fun e => match fsd (loC n m d) e (3 - e) with | none => oI (ptC n m (d + 1)) | some _ => nI d
  let Y : Nat → Int32 := fun e => match fsd (loC n m d) e (3 - e) with | none => toC n m (d + 1) | some v => nI v
  have key := l_dn (F := fX8_lone_b35 rc) (z := fun _ _ _ _ _ _ _ _ _ => none) (fun r e => r k 0 now g F (X e) (Y e) (nI d) (nI e - 1)) (rc k 0 now g F (oI (ptC n m d)) (toC n m d) (nI d - 1)) (fun r => ?_) 3 FU (fun r e he => ?_) (fu_lt (by decide))
  · exact key
  · show fX8_lone_b35 rc r _ _ _ _ _ _ _ _ _ = _
    unfold fX8_lone_b35
    rw [if_pos (show nI 0 - 1 < 0 by decide), obs, show nI d + -1 = nI d - 1 from (Int32.sub_eq_add_neg _ _).symm]
    have hX : X 0 = oI (ptC n m d) := by
      show (match fsd (loC n m d) 0 (3 - 0) with | none => oI (ptC n m (d + 1)) | some _ => nI d) = _
      rw [fsd_fs, ptC_s hd]
      unfold loP
      cases fs (loC n m d) 3 <;> rfl
    have hY : Y 0 = toC n m d := by
      show (match fsd (loC n m d) 0 (3 - 0) with | none => toC n m (d + 1) | some v => nI v) = _
      have e1 : toC n m d = (match (if loP n m d then some d else ptC n m (d + 1)) with | none => -1 | some p => oI (fs (loC n m p) 3)) := by
        rw [← ptC_s hd]; rfl
      rw [fsd_fs, e1]
      unfold loP
      cases h9 : fs (loC n m d) 3 with
      | none => rfl
      | some v => simp only [Option.isSome_some, if_true, h9]; rfl
    rw [hX, hY]
  · show fX8_lone_b35 rc r _ _ _ _ _ _ _ _ _ = _
    unfold fX8_lone_b35
    have hb := fmn_le (m := upd m d (nI e)) hn
    rw [show nI (e + 1) - 1 = nI e from nI_pred e, if_neg (nI_pos (by omega)), fullBy8 hn h hl hd he]
    simp only [bd2, obs]
    rw [show nI e + -1 = nI e - 1 from (Int32.sub_eq_add_neg _ _).symm]
    have hX : X e = if loC n m d e then nI d else X (e + 1) := by
      show (match fsd (loC n m d) e (3 - e) with | none => oI (ptC n m (d + 1)) | some _ => nI d) = _
      rw [fsd_step _ he]
      cases loC n m d e <;> rfl
    have hY : Y e = if loC n m d e then nI e else Y (e + 1) := by
      show (match fsd (loC n m d) e (3 - e) with | none => toC n m (d + 1) | some v => nI v) = _
      rw [fsd_step _ he]
      cases loC n m d e <;> rfl
    rw [hX, hY]
    unfold loC
    cases loA n m d e with
    | false => rw [if_neg (show ¬ false = true by decide), if_neg (show ¬ (-1 : Int32) = 1 by decide)]; rfl
    | true =>
      rw [if_pos (show true = true from rfl)]
      have hone : nI (fmn n (upd m d (nI e))) = 1 ↔ fmn n (upd m d (nI e)) = 1 := nI_eq (b := 1) (by omega) (by decide)
      by_cases h9 : fmn n (upd m d (nI e)) = 1
      · rw [if_pos (hone.mpr h9), decide_eq_true h9]; rfl
      · rw [if_neg (fun e9 => h9 (hone.mp e9)), decide_eq_false h9]; rfl
theorem m_lone (hn : n < 17) (h : R8 n m now) (hl : VL n m) (hr : RW l f k g) (a b c d t8 : Int32) :
    ∃ r a' b' c' d' l' f' k' t8' g', fX7_lone (nI n) a b c d m l f = some (r, a', b', c', d', m, l', f') ∧ fX8_lone k t8 now g = some (r, k', t8', now, g') ∧ RW l' f' k' g' := by
  have h153 := pts_le n hn
  have hF := fmn_le (m := m) hn
  have hm1 : (-1 : Int32).toInt64 = (-1 : Int64) := by decide
  unfold fX7_lone fX8_lone
  rw [fullCells7 hn, fullMany8 hn h hl, pts8 hn h.1]
  simp only [bd5, obs]
  generalize hA : oI (fs (fub n m) (2 * n * n)) = A
  generalize hC : oI (ls (fub n m) (2 * n * n)) = C
  by_cases h1 : fmn n m = 1
  · rw [if_pos (show nI (fmn n m) = 1 by rw [h1]; rfl), tell7_3, lf1]
    unfold fX8_lone_b22 fX8_lone_b73 fX8_lone_b86
    have e1 : nI (fmn n m) = 1 := by rw [h1]; rfl
    simp only [bd2, obs, tell8_0, tell8 (q := 1) (by decide), tell8 (q := 1 + 1) (by decide), hm1, if_true]
    rw [if_pos e1, if_pos e1, ite_self]
    exact ⟨_, _, _, _, _, _, _, _, _, _, rfl, rfl, RW.t3 f g _ _ _⟩
  · have e1 : ¬ nI (fmn n m) = 1 := fun e => h1 ((nI_eq (b := 1) (by omega) (by decide)).mp e)
    rw [if_neg e1]
    have e7 := l_trE (F1 := fX7_lone_b37 (nI n)) (z1 := fun _ _ _ _ _ _ _ _ _ => none) (G := fX7_lone_b48 (nI n)) (z2 := fun _ _ _ _ _ _ _ _ _ _ => none) hn (fun rc i => rc A (nI (fmn n m)) C (tsm n m) m l f (nI (fmn n m)) (nI i)) (fun rc i j => rc A (nI (fmn n m)) C (tsm n m) m l f (nI (fmn n m)) (nI i) (nI j)) (loP n m) (fun p => some (1, A, nI (fmn n m), C, tsm n m, m, nI 3, vp_updL (vp_updL (vp_updL f 0 (nI (fmn n m)).toInt64) 1 (nI p).toInt64) 2 (oI (fs (loC n m p) 3)).toInt64)) (fun rc i hi => ?_) (fun rc r i j hi hj hq => ?_) (fun rc r i j hi hj hq => ?_) (fun rc r i hi => ?_) (some (-2, A, nI (fmn n m), C, tsm n m, m, l, f)) (fun rc => ?_)
    rotate_left
    · show fX7_lone_b37 (nI n) rc _ _ _ _ _ _ _ _ _ = _
      unfold fX7_lone_b37
      rw [if_neg (nI_nlt hi (by omega))]; rfl
    · show fX7_lone_b48 (nI n) rc r _ _ _ _ _ _ _ _ _ _ = _
      unfold fX7_lone_b48
      have hp := pts_pl n hn i (by omega) hi j (by omega) hj
      have ho := one7 (m := m) hn hp
      rw [iP_pl n hn i (by omega) j (by omega), jP_pl n hn i (by omega) j (by omega)] at ho
      rw [pk_sub hi, if_neg (nI_nlt hj (by omega)), ho]
      simp only [bd2, obs, nI_1]
      have : fs (loC n m (pl n i j)) 3 = none := by
        unfold loP at hq
        cases e9 : fs (loC n m (pl n i j)) 3 with
        | none => rfl
        | some v => rw [e9] at hq; cases hq
      rw [this, if_pos oIn]
    · show fX7_lone_b48 (nI n) rc r _ _ _ _ _ _ _ _ _ _ = _
      unfold fX7_lone_b48
      have hp := pts_pl n hn i (by omega) hi j (by omega) hj
      have ho := one7 (m := m) hn hp
      rw [iP_pl n hn i (by omega) j (by omega), jP_pl n hn i (by omega) j (by omega)] at ho
      rw [pk_sub hi, if_neg (nI_nlt hj (by omega)), ho]
      simp only [bd2, obs]
      obtain ⟨v, hv, e9⟩ := loP_v hq
      rw [e9, if_neg (oI_e (by omega)), num7 n hn i (by omega) j (by omega) (by omega), obs, tell7_3]
      simp only [obs]
    · show fX7_lone_b48 (nI n) rc r _ _ _ _ _ _ _ _ _ _ = _
      unfold fX7_lone_b48
      rw [pk_sub hi, if_pos (nI_lt (by omega) (by omega)), obs, nI_1]
    · show fX7_lone_b37 (nI n) rc _ _ _ _ _ _ _ _ _ = _
      unfold fX7_lone_b37
      rw [if_pos (nI_lt (by omega) (by omega))]
    have e8 := l_dn (F := fX8_lone_b22) (z := fun _ _ _ _ _ _ _ _ => none) (fun rc d => rc k 0 now g (nI (fmn n m)) (oI (ptC n m d)) (toC n m d) (nI d - 1)) (fX8_lone_b73 k 0 now g (nI (fmn n m)) (oI (ptC n m 0)) (toC n m 0)) (fun rc => ?_) (pts n) FU (fun rc d hd => ?_) (fu_lt (by omega))
    rotate_left
    · show fX8_lone_b22 rc _ _ _ _ _ _ _ _ = _
      unfold fX8_lone_b22
      rw [if_pos (show nI 0 - 1 < 0 by decide)]
    · show fX8_lone_b22 rc _ _ _ _ _ _ _ _ = _
      unfold fX8_lone_b22
      rw [show nI (d + 1) - 1 = nI d from nI_pred d, if_neg (nI_pos (by omega)), if_neg e1, lone8i hn h hl hd]
    have p0 : ptC n m (pts n) = none := by unfold ptC; rw [Nat.sub_self]; rfl
    have t0 : toC n m (pts n) = -1 := by unfold toC; rw [p0]
    simp only [p0, t0] at e8
    have e8 : lfix (fX8_lone_b22) (fun _ _ _ _ _ _ _ _ => none) FU k 0 now g (nI (fmn n m)) (-1) (-1) (nI (pts n) - 1) = _ := e8
    have e7 : lfix (fX7_lone_b37 (nI n)) (fun _ _ _ _ _ _ _ _ _ => none) FU A (nI (fmn n m)) C (tsm n m) m l f (nI (fmn n m)) 0 = _ := e7
    rw [e7, e8]
    have hp0 : ptC n m 0 = fs (loP n m) (pts n) := fsd_fs _ _
    unfold fX8_lone_b73 fX8_lone_b86
    rw [if_neg e1]
    cases h9 : ptC n m 0 with
    | none =>
      rw [h9] at hp0
      rw [← hp0, if_pos oIn]
      exact ⟨_, _, _, _, _, _, _, _, _, _, rfl, rfl, hr⟩
    | some p =>
      have q1 := ptC_lt h9
      have t1 : toC n m 0 = oI (fs (loC n m p) 3) := by unfold toC; rw [h9]
      rw [h9] at hp0
      rw [← hp0, if_neg (oI_e (by omega)), t1]
      simp only [bd2, obs, tell8_0, tell8 (q := 1) (by decide), tell8 (q := 1 + 1) (by decide)]
      rw [if_neg (oI_e (by omega))]
      exact ⟨_, _, _, _, _, _, _, _, _, _, rfl, rfl, RW.t3 f g _ _ _⟩
end LON
