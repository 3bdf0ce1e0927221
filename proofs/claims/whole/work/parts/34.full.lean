/-! Full cells: what class and reference count. -/
section FUL
variable {n : Nat} {m now : Nat → Int32}
theorem lab3 {a b c : Int32} (ha : a = 0 ∨ a = 1 ∨ a = 2) (hb : b = 0 ∨ b = 1 ∨ b = 2) (hc : c = 0 ∨ c = 1 ∨ c = 2) :
    ((((1 : Int32) <<< (a &&& 31)) ||| ((1 : Int32) <<< (b &&& 31))) ||| ((1 : Int32) <<< (c &&& 31)) = 7 ↔ ¬ trn a b c = 0) ∧ (¬ trn a b c = 0 → (if (a + 1) - (a + 1) / 3 * 3 = b then (1 : Int32) else -1) = trn a b c) ∧ (trn a b c = 0 ∨ trn a b c = 1 ∨ trn a b c = -1) := by
  rcases ha with rfl | rfl | rfl <;> rcases hb with rfl | rfl | rfl <;> rcases hc with rfl | rfl | rfl <;> decide
theorem vl_co (hn : n < 17) (hv : VL n m) {c k : Nat} (hcl : cel n c = true) (hk : k < 3) : m (co n c k) = 0 ∨ m (co n c k) = 1 ∨ m (co n c k) = 2 := hv _ (co_lt n hn c (cel_ij hcl).1 hcl k hk)
/-- is the cell of this number full -/
def fub (n : Nat) (m : Nat → Int32) (c : Nat) : Bool := decide (¬ tn n m c = 0)
theorem fub_cel {c : Nat} (h : cel n c = false) : fub n m c = false := by simp [fub, tn, h]
theorem tn_cel {c : Nat} (h : cel n c = true) : tn n m c = tr3 n m c := by simp [tn, h]
theorem tn_no {c : Nat} (h : cel n c = false) : tn n m c = 0 := by simp [tn, h]
/-- the set of a cell's labels -/
def set3 (n : Nat) (m : Nat → Int32) (c : Nat) : Int32 := (((1 : Int32) <<< (m (co n c 0) &&& 31)) ||| ((1 : Int32) <<< (m (co n c 1) &&& 31))) ||| ((1 : Int32) <<< (m (co n c 2) &&& 31))
theorem set8 (hn : n < 17) (h : R8 n m now) {c : Nat} (hcl : cel n c = true) : fX8_labelSet now (nI c) = some (set3 n m c) := by
  have hc := (cel_ij hcl).1
  have h0 : fX8_cornerLabel now (nI c) 0 = some (m (co n c 0)) := clb8 hn h hc hcl (k := 0) (by decide)
  have h1 : fX8_cornerLabel now (nI c) 1 = some (m (co n c 1)) := clb8 hn h hc hcl (k := 1) (by decide)
  have h2 : fX8_cornerLabel now (nI c) 2 = some (m (co n c 2)) := clb8 hn h hc hcl (k := 2) (by decide)
  unfold fX8_labelSet set3
  rw [h0, obs, h1, obs, h2, obs]
theorem set7 (hn : n < 17) {c : Nat} (hcl : cel n c = true) : fX1_labelSet (nI n) m (nI c) = some (set3 n m c) := by
  have h0 : fX1_cornerLabel (nI n) m (nI c) 0 = some (m (co n c 0)) := clb7 hn hcl (k := 0) (by decide)
  have h1 : fX1_cornerLabel (nI n) m (nI c) 1 = some (m (co n c 1)) := clb7 hn hcl (k := 1) (by decide)
  have h2 : fX1_cornerLabel (nI n) m (nI c) 2 = some (m (co n c 2)) := clb7 hn hcl (k := 2) (by decide)
  unfold fX1_labelSet set3
  rw [h0, obs, h1, obs, h2, obs]
theorem full8 (hn : n < 17) (h : R8 n m now) (hv : VL n m) {c : Nat} (hcl : cel n c = true) : fX8_isFull now (nI c) = some (bI (fub n m c)) := by
  have hl := lab3 (vl_co hn hv hcl (k := 0) (by decide)) (vl_co hn hv hcl (k := 1) (by decide)) (vl_co hn hv hcl (k := 2) (by decide))
  unfold fX8_isFull
  rw [set8 hn h hcl, obs]
  unfold fub
  rw [tn_cel hcl]
  by_cases h7 : tr3 n m c = 0
  · have h9 : ¬ set3 n m c = 7 := fun e => hl.1.mp e h7
    rw [if_neg h9]; simp [h7, bI]
  · have h9 : set3 n m c = 7 := hl.1.mpr h7
    rw [if_pos h9]; simp [h7, bI]
theorem turn8 (hn : n < 17) (h : R8 n m now) (hv : VL n m) {c : Nat} (hcl : cel n c = true) : fX8_turn now (nI c) = some (tn n m c) := by
  have hl := lab3 (vl_co hn hv hcl (k := 0) (by decide)) (vl_co hn hv hcl (k := 1) (by decide)) (vl_co hn hv hcl (k := 2) (by decide))
  have hc := (cel_ij hcl).1
  have h0 : fX8_cornerLabel now (nI c) 0 = some (m (co n c 0)) := clb8 hn h hc hcl (k := 0) (by decide)
  have h1 : fX8_cornerLabel now (nI c) 1 = some (m (co n c 1)) := clb8 hn h hc hcl (k := 1) (by decide)
  unfold fX8_turn
  rw [full8 hn h hv hcl, obs, ifb, h0, obs, h1, obs]
  unfold fub
  rw [tn_cel hcl]
  by_cases h7 : tr3 n m c = 0
  · simp [h7]
  · have h9 : (if (m (co n c 0) + 1) - (m (co n c 0) + 1) / 3 * 3 = m (co n c 1) then (1 : Int32) else -1) = tr3 n m c := hl.2.1 h7
    rw [if_pos (by simp [h7])]
    split
    · next h3 => rw [if_pos h3] at h9; rw [h9]
    · next h3 => rw [if_neg h3] at h9; rw [h9]
theorem nI_b (k : Nat) (b : Bool) : nI k + bI b = nI (k + if b then 1 else 0) := by
  cases b
  · show nI k + nI 0 = _; rw [nI_add]; rfl
  · show nI k + nI 1 = _; rw [nI_add]; rfl
/-- how many are full -/
def fmn (n : Nat) (m : Nat → Int32) : Nat := fb_ct (fub n m) (2 * n * n)
theorem fmn_le (hn : n < 17) : fmn n m ≤ 512 := Nat.le_trans (fb_ct_le _ _) (nbs_le n hn)
theorem fullMany8 (hn : n < 17) (h : R8 n m now) (hv : VL n m) : fX8_fullMany now = some (nI (fmn n m)) := by
  have h512 := nbs_le n hn
  unfold fX8_fullMany fmn
  refine l_acc0 (F := fX8_fullMany_b4 now) (fun rc i => rc (nI (fb_ct (fub n m) i)) (nI i)) (2 * n * n) (by omega) _ (fun rc i hi => ?_) (fun rc => ?_)
  · unfold fX8_fullMany_b4
    rw [nbs8 hn h.1, obs, if_neg (nI_ge hi (by omega)), isc8 hn h.1 hi, obs, ifb]
    cases hcl : cel n i with
    | false =>
      rw [if_neg (by decide)]
      unfold fX8_fullMany_b33 fX8_fullMany_b34
      rw [obs, obs, nI_1, Int32.add_zero, fb_ct_succ, fub_cel hcl]; rfl
    | true =>
      rw [if_pos rfl, full8 hn h hv hcl, obs, ifb]
      unfold fX8_fullMany_b33 fX8_fullMany_b34
      rw [fb_ct_succ, ← nI_b]
      cases fub n m i with
      | false => rw [if_neg (by decide), obs, obs, nI_1]; rfl
      | true => rw [if_pos rfl, obs, obs, nI_1, nI_1, nI_b]; rfl
  · unfold fX8_fullMany_b4
    rw [nbs8 hn h.1, obs, if_pos (nI_le (Nat.le_refl _) (by omega))]
/-- the sum of turns -/
def tsm (n : Nat) (m : Nat → Int32) : Int32 := sI (tn n m) (2 * n * n)
theorem turns8 (hn : n < 17) (h : R8 n m now) (hv : VL n m) : fX8_turns now = some (tsm n m) := by
  have h512 := nbs_le n hn
  unfold fX8_turns tsm
  refine l_acc0 (F := fX8_turns_b4 now) (fun rc i => rc (sI (tn n m) i) (nI i)) (2 * n * n) (by omega) _ (fun rc i hi => ?_) (fun rc => ?_)
  · unfold fX8_turns_b4 fX8_turns_b30
    rw [nbs8 hn h.1, obs, if_neg (nI_ge hi (by omega)), isc8 hn h.1 hi, obs, ifb]
    cases hcl : cel n i with
    | false => rw [if_neg (by decide), obs, obs, nI_1, sI, tn_no hcl]
    | true => rw [if_pos rfl, turn8 hn h hv hcl, obs, obs, obs, nI_1, sI]
  · unfold fX8_turns_b4
    rw [nbs8 hn h.1, obs, if_pos (nI_le (Nat.le_refl _) (by omega))]
/-- number k of the full ones -/
def nth (n : Nat) (m : Nat → Int32) (x : Int32) : Option Nat := fs (fun j => fub n m j && decide (nI (fb_ct (fub n m) j) = x)) (2 * n * n)
theorem nth7 (hn : n < 17) (x : Int32) : fX1_nthFull (nI n) m x = some (oI (nth n m x)) := by
  have h512 := nbs_le n hn
  unfold fX1_nthFull nth
  have := l_fs (z := (fun _ _ _ => none)) (F := fX1_nthFull_b4 (nI n) m) (fun rc i => rc x (nI (fb_ct (fub n m) i)) (nI i)) (fun j => some (nI j)) (fun j => fub n m j && decide (nI (fb_ct (fub n m) j) = x)) (2 * n * n) (by omega) (fun rc i hi hp => ?_) (fun rc i hi hp => ?_) (some (-1)) (fun rc => ?_)
  · refine this.trans ?_
    generalize fs _ _ = o
    cases o <;> rfl
  · unfold fX1_nthFull_b4
    rw [nbs7 n hn, obs, if_neg (nI_ge hi (by omega)), turn7 hn hi, obs, obs, obs, obs, nI_1, nI_1, fb_ct_succ]
    by_cases h1 : tn n m i = 0
    · rw [if_pos h1]; simp [fub, h1]
    · rw [if_neg h1]
      have h2 : fub n m i = true := by simp [fub, h1]
      rw [h2] at hp
      have h3 : ¬ nI (fb_ct (fub n m) i) = x := by simpa using hp
      rw [if_neg h3, h2]; rfl
  · unfold fX1_nthFull_b4
    have hp1 : fub n m i = true ∧ nI (fb_ct (fub n m) i) = x := by simpa using hp
    have h1 : ¬ tn n m i = 0 := by simpa [fub] using hp1.1
    rw [nbs7 n hn, obs, if_neg (nI_ge hi (by omega)), turn7 hn hi, obs, if_neg h1, if_pos hp1.2]
  · unfold fX1_nthFull_b4
    rw [nbs7 n hn, obs, if_pos (nI_le (Nat.le_refl _) (by omega))]
theorem nth8 (hn : n < 17) (h : R8 n m now) (hv : VL n m) (x : Int32) : fX8_nthFull now x = some (oI (nth n m x)) := by
  have h512 := nbs_le n hn
  have hct : ∀ i, i ≤ 2 * n * n → fb_ct (fub n m) i < 2 ^ 31 := fun i hi => Nat.lt_of_le_of_lt (fb_ct_le _ _) (by omega)
  by_cases hx : x < 0
  · -- none
    have e : nth n m x = none := fs_none (fun q hq => by
      have : ¬ nI (fb_ct (fub n m) q) = x := fun e => by rw [← e] at hx; exact nI_pos (hct q (by omega)) hx
      simp [this])
    rw [e]
    unfold fX8_nthFull
    show lfix (fX8_nthFull_b4 now) (fun _ _ _ => none) (4095 + 1) x x 0 = _
    rw [lfix]
    unfold fX8_nthFull_b4
    rw [nbs8 hn h.1, obs, if_pos hx]
    split <;> rfl
  · obtain ⟨k, hk, rfl⟩ := nI_of hx
    unfold fX8_nthFull nth
    have := l_fs (z := (fun _ _ _ => none)) (F := fX8_nthFull_b4 now) (fun rc i => rc (nI k) (nI k - nI (fb_ct (fub n m) i)) (nI i)) (fun j => some (nI j)) (fun j => fub n m j && decide (nI (fb_ct (fub n m) j) = nI k)) (2 * n * n) (by omega) (fun rc i hi hp => ?_) (fun rc i hi hp => ?_) (some (-1)) (fun rc => ?_)
    · rw [show nI k - nI (fb_ct (fub n m) 0) = nI k by rw [pk_sub (by simp [fb_ct])]; rfl] at this
      refine this.trans ?_
      generalize fs _ _ = o
      cases o <;> rfl
    · unfold fX8_nthFull_b4
      rw [nbs8 hn h.1, obs, if_neg (nI_ge hi (by omega)), if_neg hx, isc8 hn h.1 hi, obs, ifb, obs, nI_1]
      cases hcl : cel n i with
      | false => rw [if_neg (by decide), fb_ct_succ, fub_cel hcl]; rfl
      | true =>
        rw [if_pos rfl, full8 hn h hv hcl]
        simp only [obs, ifb, nI_1]
        rw [fb_ct_succ]
        cases hf : fub n m i with
        | false => rw [if_neg (by decide)]; rfl
        | true =>
          rw [hf] at hp
          have h3 : ¬ nI (fb_ct (fub n m) i) = nI k := by simpa using hp
          have h4 : ¬ nI k - nI (fb_ct (fub n m) i) = 0 := fun e => h3 (by
            have e2 : nI k - nI (fb_ct (fub n m) i) + nI (fb_ct (fub n m) i) = 0 + nI (fb_ct (fub n m) i) := by rw [e]
            rw [Int32.sub_add_cancel, Int32.zero_add] at e2
            exact e2.symm)
          rw [if_pos rfl, if_neg h4]
          have h5 : nI k - nI (fb_ct (fub n m) i) + -1 = nI k - nI (fb_ct (fub n m) i + if true = true then 1 else 0) := by
            rw [if_pos rfl, ← nI_add]
            show _ + -1 = nI k - (nI (fb_ct (fub n m) i) + 1)
            rw [Int32.sub_eq_add_neg, Int32.sub_eq_add_neg, Int32.neg_add, Int32.sub_eq_add_neg, Int32.add_assoc]
          rw [h5]
    · unfold fX8_nthFull_b4
      have hp1 : fub n m i = true ∧ nI (fb_ct (fub n m) i) = nI k := by simpa using hp
      have hcl : cel n i = true := by
        cases h9 : cel n i with
        | true => rfl
        | false => rw [fub_cel h9] at hp1; exact absurd hp1.1 (by decide)
      rw [nbs8 hn h.1, obs, if_neg (nI_ge hi (by omega)), if_neg hx, isc8 hn h.1 hi, obs, ifb, hcl, if_pos rfl, full8 hn h hv hcl, obs, ifb, hp1.1, if_pos rfl, hp1.2, Int32.sub_self, if_pos rfl]
    · unfold fX8_nthFull_b4
      rw [nbs8 hn h.1, obs, if_pos (nI_le (Nat.le_refl _) (by omega))]
end FUL
