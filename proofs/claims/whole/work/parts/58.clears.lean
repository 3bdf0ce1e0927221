/-! clears, sells. -/
section CLR
variable {n : Nat} {m now : Nat → Int32} {P : Nat → Int64} {Q : Nat → Nat → Int} {l k : Int32} {f g : Nat → Int64}
def cK (Q : Nat → Nat → Int) (n c q : Nat) (s : Option (Nat × Nat)) : Option (Nat × Nat) := match s with
  | none => some (c, q)
  | some b => if oP Q n (co n c q) < oP Q n (co n b.1 b.2) then some (c, q) else some b
def cC (Q : Nat → Nat → Int) (n : Nat) (m : Nat → Int32) (c : Nat) (s : Option (Nat × Nat)) : Option (Nat × Nat) := if fub n m c then itk (cK Q n c) s 3 else s
/-- found so far -/
def cF (Q : Nat → Nat → Int) (n : Nat) (m : Nat → Int32) (c : Nat) : Option (Nat × Nat) := itk (cC Q n m) none c
def cf1 (s : Option (Nat × Nat)) : Int32 := match s with | none => -1 | some b => nI b.1
def cf2 (s : Option (Nat × Nat)) : Int32 := match s with | none => 0 | some b => nI b.2
def cf3 (Q : Nat → Nat → Int) (n : Nat) (s : Option (Nat × Nat)) : Int64 := match s with | none => 0 | some b => zL (oP Q n (co n b.1 b.2))
def cf4 (n : Nat) (s : Option (Nat × Nat)) : Int32 := match s with | none => -1 | some b => nI (co n b.1 b.2)
def cOK (n : Nat) (s : Option (Nat × Nat)) : Prop := ∀ b, s = some b → cel n b.1 = true ∧ b.2 < 3
theorem cOK_K {c q : Nat} (hc : cel n c = true) (hq : q < 3) {s : Option (Nat × Nat)} (h : cOK n s) : cOK n (cK Q n c q s) := fun b hb => by
  unfold cK at hb
  cases s with
  | none => cases hb; exact ⟨hc, hq⟩
  | some d =>
    simp only at hb
    split at hb
    · cases hb; exact ⟨hc, hq⟩
    · exact h b hb
theorem cOK_Ks {c : Nat} (hc : cel n c = true) {s : Option (Nat × Nat)} (h : cOK n s) : ∀ q, q ≤ 3 → cOK n (itk (cK Q n c) s q) := by
  intro q
  induction q with
  | zero => intro _; exact h
  | succ q ih => intro hq; exact cOK_K hc (by omega) (ih (by omega))
theorem cOK_F (c : Nat) : cOK n (cF Q n m c) := by
  unfold cF
  induction c with
  | zero => intro b hb; cases hb
  | succ c ih =>
    rw [itk]
    unfold cC
    cases hf : fub n m c with
    | false => rw [if_neg (by decide)]; exact ih
    | true => rw [if_pos rfl]; exact cOK_Ks (fub_c hf) ih 3 (Nat.le_refl 3)
theorem less7 (hn : n < 17) (hP : PUL P Q) (hB : BQ Q) {X : Nat} (hX : X < 1073741824) : fX4_lessOff P (nI n) (zL X) = some (nI (fb_ct (fun p => decide (oP Q n p < X)) (pts n))) := by
  have h153 := pts_le n hn
  unfold fX4_lessOff
  have key := l_tri (F1 := fX4_lessOff_b6 P (nI n)) (z1 := fun _ _ _ => none) (G := fX4_lessOff_b18 P (nI n)) (z2 := fun _ _ _ _ => none) hn (fun rc i => rc (zL X) (nI (fb_ct (fun p => decide (oP Q n p < X)) (pl n i 0))) (nI i)) (fun rc i j => rc (zL X) (nI (fb_ct (fun p => decide (oP Q n p < X)) (pl n i j))) (nI i) (nI j)) (fun rc i hi => ?_) (fun rc r i j hi hj => ?_) (fun rc r i hi => ?_) (some (nI (fb_ct (fun p => decide (oP Q n p < X)) (pts n)))) (fun rc => ?_)
  · rw [pl00] at key
    exact key
  · show fX4_lessOff_b6 P (nI n) rc _ _ _ = _
    unfold fX4_lessOff_b6
    rw [if_neg (nI_nlt hi (by omega))]; rfl
  · show fX4_lessOff_b18 P (nI n) rc r _ _ _ _ = _
    unfold fX4_lessOff_b18 fX4_lessOff_b51
    have hp := pts_pl n hn i (by omega) hi j (by omega) hj
    have o1 := oP_lt hB hn hp
    rw [pk_sub hi, if_neg (nI_nlt hj (by omega)), off7 hn hP hB (show i + j ≤ n by omega), obs, oP_pl hn (by omega)]
    simp only [obs, nI_1]
    rw [show pl n i (j + 1) = pl n i j + 1 from rfl, fb_ct_succ]
    by_cases h9 : oP Q n (pl n i j) < X
    · rw [if_neg (fun e => by have := (zL_le (by omega) (by omega) (by omega) (by omega)).mp ((lg_cmp_ge _ _).mp e); omega), decide_eq_true h9]; rfl
    · rw [if_pos ((lg_cmp_ge _ _).mpr ((zL_le (by omega) (by omega) (by omega) (by omega)).mpr (by omega))), decide_eq_false h9, Int32.add_zero]; rfl
  · show fX4_lessOff_b18 P (nI n) rc r _ _ _ _ = _
    unfold fX4_lessOff_b18
    rw [pk_sub hi, if_pos (nI_lt (by omega) (by omega)), obs, nI_1, pl_next n hn i (by omega) hi]
  · show fX4_lessOff_b6 P (nI n) rc _ _ _ = _
    unfold fX4_lessOff_b6
    rw [if_pos (nI_lt (by omega) (by omega)), pl_end n hn]
def cE7 (Q : Nat → Nat → Int) (n : Nat) (l : Int32) (f : Nat → Int64) (s : Option (Nat × Nat)) : Option (Int32 × Int32 × (Nat → Int64)) := match s with | none => some (-2, l, f) | some b => some (nI b.1, nI 4, vp_updL (vp_updL (vp_updL (vp_updL f 0 (nI (iP n (co n b.1 b.2))).toInt64) 1 (nI (jP n (co n b.1 b.2))).toInt64) 2 (zL (oP Q n (co n b.1 b.2)))) 3 (nI (fb_ct (fun p => decide (oP Q n p < oP Q n (co n b.1 b.2))) (pts n))).toInt64)
def cE8 (Q : Nat → Nat → Int) (n : Nat) (k : Int32) (g : Nat → Int64) (s : Option (Nat × Nat)) : Option (Int32 × Int32 × Int32 × (Nat → Int64)) := match s with | none => some (-2, k, 0, g) | some b => some (nI b.1, nI 4, 0, vp_updL (vp_updL (vp_updL (vp_updL g 0 (nI (iP n (co n b.1 b.2))).toInt64) 1 (nI (jP n (co n b.1 b.2))).toInt64) 2 (zL (oP Q n (co n b.1 b.2)))) 3 (nI (fb_ct (fun p => decide (oP Q n p < oP Q n (co n b.1 b.2))) (pts n))).toInt64)
theorem m_clears (hn : n < 17) (h : R8 n m now) (hl : VL n m) (hP : PUL P Q) (hB : BQ Q) {kd : Int32} (hk : now 1 = kd) (hE : kd = 1 → EX8 now Q n) (hr : RW l f k g) (t8 : Int32) : ∃ r l' f' k' t8' g', fX7_clears (nI n) m kd P l f = some (r, l', f') ∧ fX8_clears now k t8 g = some (r, k', t8', g') ∧ RW l' f' k' g' := by
  have h153 := pts_le n hn
  have h512 := nbs_le n hn
  unfold fX7_clears fX8_clears
  have hl1 : ald 189 1 now = some kd := by
    rw [← hk]; exact ald_in (i := 1) (by decide) (by decide)
  rw [hl1, obs]
  by_cases h1 : kd = 1
  rotate_left
  · rw [if_neg h1, if_neg h1]
    exact ⟨_, _, _, _, _, _, rfl, rfl, hr⟩
  have hE := hE h1
  rw [if_pos h1, if_pos h1]
  have hco : ∀ c q, cel n c = true → q < 3 → co n c q < pts n := fun c q hc hq => co_lt n hn c (cel_ij hc).1 hc q hq
  -- what both tell in the end
  have fin7 : ∀ s, cOK n s → (if cf1 s = -1 then some (-2, l, f) else (fX1_cornerI (nI n) (cf1 s) (cf2 s)).bind fun v2 => (fX1_cornerJ (nI n) (cf1 s) (cf2 s)).bind fun v3 => (fX4_lessOff P (nI n) (cf3 Q n s)).bind fun v4 => bd2 (fX3_tell___ l f v2.toInt64 v3.toInt64 (cf3 Q n s) v4.toInt64) fun v5 v6 => some (cf1 s, v5, v6)) = cE7 Q n l f s := fun s hs => by
    cases s with
    | none => rw [if_pos (show cf1 none = -1 from rfl)]; rfl
    | some b =>
      obtain ⟨b1, b2⟩ := hs b rfl
      have hb := (cel_ij b1).1
      rw [if_neg (show ¬ cf1 (some b) = -1 from nI_m1 (by omega))]
      show (fX1_cornerI (nI n) (nI b.1) (nI b.2)).bind _ = _
      rw [cnI7 n hn _ hb b1 _ b2, obs]
      show (fX1_cornerJ (nI n) (nI b.1) (nI b.2)).bind _ = _
      rw [cnJ7 n hn _ hb b1 _ b2, obs]
      show (fX4_lessOff P (nI n) (zL (oP Q n (co n b.1 b.2)))).bind _ = _
      rw [less7 hn hP hB (oP_lt hB hn (hco _ _ b1 b2)), obs, tell7_4]
      simp only [bd2, obs]
      rfl
  have fin8 : ∀ s, cOK n s → (if cf1 s = -1 then some (-2, k, 0, g) else lfix (fX8_clears_b119 now) (fun _ _ _ _ _ _ _ => none) FU k 0 g (cf1 s) (cf4 n s) 0 0) = cE8 Q n k g s := fun s hs => by
    cases s with
    | none => rw [if_pos (show cf1 none = -1 from rfl)]; rfl
    | some b =>
      obtain ⟨b1, b2⟩ := hs b rfl
      have hb := (cel_ij b1).1
      have hc := hco _ _ b1 b2
      have o2 := oP_lt hB hn hc
      rw [if_neg (show ¬ cf1 (some b) = -1 from nI_m1 (by omega))]
      show lfix (fX8_clears_b119 now) (fun _ _ _ _ _ _ _ => none) FU k 0 g (nI b.1) (nI (co n b.1 b.2)) 0 0 = _
      show _ = some (nI b.1, nI 4, 0, vp_updL (vp_updL (vp_updL (vp_updL g 0 (nI (iP n (co n b.1 b.2))).toInt64) 1 (nI (jP n (co n b.1 b.2))).toInt64) 2 (zL (oP Q n (co n b.1 b.2)))) 3 (nI (fb_ct (fun p => decide (oP Q n p < oP Q n (co n b.1 b.2))) (pts n))).toInt64)
      generalize co n b.1 b.2 = C at *
      refine l_acc0 (F := fX8_clears_b119 now) (fun rc c => rc k 0 g (nI b.1) (nI C) (nI (fb_ct (fun p => decide (oP Q n p < oP Q n C)) c)) (nI c)) (pts n) (by omega) _ (fun rc c hcp => ?_) (fun rc => ?_)
      · show fX8_clears_b119 now rc _ _ _ _ _ _ _ = _
        unfold fX8_clears_b119 fX8_clears_b148
        have o1 := oP_lt hB hn hcp
        rw [pts8 hn h.1, obs, if_neg (nI_ge hcp (by omega)), offAt8 hn h.1 hE hB hcp, obs, offAt8 hn h.1 hE hB hc, obs, fb_ct_succ]
        simp only [obs, nI_1]
        by_cases h9 : oP Q n c < oP Q n C
        · rw [if_neg (nI_ge h9 (by omega)), decide_eq_true h9]; rfl
        · rw [if_pos (nI_le (by omega) (by omega)), decide_eq_false h9, Int32.add_zero]; rfl
      · show fX8_clears_b119 now rc _ _ _ _ _ _ _ = _
        unfold fX8_clears_b119
        rw [pts8 hn h.1, obs, if_pos (nI_le (Nat.le_refl _) (by omega)), iof8 hn h.1 hc]
        simp only [obs, bd2, tell8_0, jof8 hn h.1 hc, tell8 (q := 1) (by decide), offAt8 hn h.1 hE hB hc, tell8 (q := 1 + 1) (by decide), tell8 (q := 1 + 1 + 1) (by decide), nI_w o2]
  have hlt : ∀ c q b, cel n c = true → q < 3 → cel n b = true → ∀ q2, q2 < 3 → oP Q n (co n c q) < 1073741824 ∧ oP Q n (co n b q2) < 1073741824 := fun c q b hc hq hb q2 hq2 => ⟨oP_lt hB hn (hco _ _ hc hq), oP_lt hB hn (hco _ _ hb hq2)⟩
  have e7 : lfix (fX7_clears_b35 (nI n) m kd P) (fun _ _ _ _ _ _ => none) FU l f (-1) 0 (0 : Int64) 0 = cE7 Q n l f (cF Q n m (2 * n * n)) := by
    refine l_acc0 (F := fX7_clears_b35 (nI n) m kd P) (fun rc c => rc l f (cf1 (cF Q n m c)) (cf2 (cF Q n m c)) (cf3 Q n (cF Q n m c)) (nI c)) (2 * n * n) (by omega) _ (fun rc c hc => ?_) (fun rc => ?_)
    · show fX7_clears_b35 (nI n) m kd P rc _ _ _ _ _ _ = _
      unfold fX7_clears_b35
      rw [nbs7 n hn, obs, if_neg (nI_ge hc (by omega)), turn7 hn hc, obs]
      have hok := cOK_F (Q := Q) (n := n) (m := m) c
      have hs : cF Q n m (c + 1) = cC Q n m c (cF Q n m c) := rfl
      rw [hs]
      generalize cF Q n m c = s at *
      unfold cC
      by_cases h0 : tn n m c = 0
      · rw [if_pos h0, show fub n m c = false by simp [fub, h0], if_neg (show ¬ false = true by decide), obs, nI_1]
      · have hf : fub n m c = true := by simp [fub, h0]
        have hcl := fub_c hf
        rw [if_neg h0, hf, if_pos rfl]
        refine l_acc0 (F := fX7_clears_b59 (nI n) m kd P rc) (z := fun _ _ _ _ _ _ _ => none) (fun r q => r l f (cf1 (itk (cK Q n c) s q)) (cf2 (itk (cK Q n c) s q)) (cf3 Q n (itk (cK Q n c) s q)) (nI c) (nI q)) 3 (by decide) _ (fun r q hq => ?_) (fun r => ?_)
        · show fX7_clears_b59 (nI n) m kd P rc r _ _ _ _ _ _ _ = _
          unfold fX7_clears_b59 fX7_clears_b107
          have hpl := pl_ij n hn _ (hco c q hcl hq)
          rw [if_neg (show ¬ (3 : Int32) ≤ nI q from nI_ge hq (by decide)), cnI7 n hn c hc hcl q hq, obs, cnJ7 n hn c hc hcl q hq, obs, off7 hn hP hB hpl.2, obs]
          simp only [obs, nI_1]
          have hok2 := cOK_Ks (Q := Q) hcl hok q (by omega)
          rw [itk]
          generalize itk (cK Q n c) s q = s2 at *
          show (if cf1 s2 = -1 then r l f (nI c) (nI q) (zL (oP Q n (co n c q))) (nI c) (nI (q + 1)) else if 0 ≤ lg_cmp (zL (oP Q n (co n c q))) (cf3 Q n s2) then r l f (cf1 s2) (cf2 s2) (cf3 Q n s2) (nI c) (nI (q + 1)) else r l f (nI c) (nI q) (zL (oP Q n (co n c q))) (nI c) (nI (q + 1))) = _
          cases s2 with
          | none => rw [if_pos (show cf1 none = -1 from rfl)]; rfl
          | some b =>
            obtain ⟨b1, b2⟩ := hok2 b rfl
            have hb := (cel_ij b1).1
            obtain ⟨q1, q2⟩ := hlt c q b.1 hcl hq b1 b.2 b2
            rw [if_neg (show ¬ cf1 (some b) = -1 from nI_m1 (by omega))]
            show (if 0 ≤ lg_cmp (zL (oP Q n (co n c q))) (zL (oP Q n (co n b.1 b.2))) then _ else _) = _
            unfold cK
            by_cases h9 : oP Q n (co n c q) < oP Q n (co n b.1 b.2)
            · rw [if_neg (fun e => by have := (zL_le (by omega) (by omega) (by omega) (by omega)).mp ((lg_cmp_ge _ _).mp e); omega)]
              simp only [if_pos h9]
              rfl
            · rw [if_pos ((lg_cmp_ge _ _).mpr ((zL_le (by omega) (by omega) (by omega) (by omega)).mpr (by omega)))]
              simp only [if_neg h9]
        · show fX7_clears_b59 (nI n) m kd P rc r _ _ _ _ _ _ _ = _
          unfold fX7_clears_b59
          rw [if_pos (show (3 : Int32) ≤ nI 3 by decide), obs, nI_1]
    · show fX7_clears_b35 (nI n) m kd P rc _ _ _ _ _ _ = _
      unfold fX7_clears_b35
      rw [nbs7 n hn, obs, if_pos (nI_le (Nat.le_refl _) (by omega))]
      exact fin7 _ (cOK_F _)
  have e8 : lfix (fX8_clears_b24 now) (fun _ _ _ _ _ _ => none) FU k 0 g (-1) (-1) 0 = cE8 Q n k g (cF Q n m (2 * n * n)) := by
    refine l_acc0 (F := fX8_clears_b24 now) (fun rc c => rc k 0 g (cf1 (cF Q n m c)) (cf4 n (cF Q n m c)) (nI c)) (2 * n * n) (by omega) _ (fun rc c hc => ?_) (fun rc => ?_)
    · show fX8_clears_b24 now rc _ _ _ _ _ _ = _
      unfold fX8_clears_b24
      rw [nbs8 hn h.1, obs, if_neg (nI_ge hc (by omega))]
      have hok := cOK_F (Q := Q) (n := n) (m := m) c
      have hs : cF Q n m (c + 1) = cC Q n m c (cF Q n m c) := rfl
      rw [hs]
      generalize cF Q n m c = s at *
      unfold cC
      cases hf : fub n m c with
      | false =>
        rw [if_neg (show ¬ false = true by decide), lf1]
        unfold fX8_clears_b35
        rw [if_neg (show ¬ (3 : Int32) ≤ 0 by decide), isc8 hn h.1 hc, obs, ifb]
        cases hcl : cel n c with
        | false => rw [if_neg (show ¬ false = true by decide), obs, nI_1]
        | true => rw [if_pos rfl, full8 hn h hl hcl, obs, ifb, hf, if_neg (show ¬ false = true by decide), obs, nI_1]
      | true =>
        have hcl := fub_c hf
        rw [if_pos rfl]
        refine l_acc0 (F := fX8_clears_b35 now rc) (z := fun _ _ _ _ _ _ _ => none) (fun r q => r k 0 g (cf1 (itk (cK Q n c) s q)) (cf4 n (itk (cK Q n c) s q)) (nI c) (nI q)) 3 (by decide) _ (fun r q hq => ?_) (fun r => ?_)
        · show fX8_clears_b35 now rc r _ _ _ _ _ _ _ = _
          unfold fX8_clears_b35 fX8_clears_b84
          rw [if_neg (show ¬ (3 : Int32) ≤ nI q from nI_ge hq (by decide)), isc8 hn h.1 hc, obs, ifb, hcl, if_pos rfl, full8 hn h hl hcl, obs, ifb, hf, if_pos rfl, co8 hn h.1 hc hq]
          simp only [obs, nI_1]
          rw [offAt8 hn h.1 hE hB (hco c q hcl hq), obs]
          have hok2 := cOK_Ks (Q := Q) hcl hok q (by omega)
          rw [itk]
          generalize itk (cK Q n c) s q = s2 at *
          cases s2 with
          | none => rw [if_pos (show cf1 none = -1 from rfl)]; rfl
          | some b =>
            obtain ⟨b1, b2⟩ := hok2 b rfl
            have hb := (cel_ij b1).1
            obtain ⟨q1, q2⟩ := hlt c q b.1 hcl hq b1 b.2 b2
            rw [if_neg (show ¬ cf1 (some b) = -1 from nI_m1 (by omega)), show cf4 n (some b) = nI (co n b.1 b.2) from rfl, offAt8 hn h.1 hE hB (hco _ _ b1 b2), obs]
            unfold cK
            by_cases h9 : oP Q n (co n c q) < oP Q n (co n b.1 b.2)
            · rw [if_pos (nI_lt h9 (by omega))]
              simp only [if_pos h9]
              rfl
            · rw [if_neg (nI_nlt (by omega) (by omega))]
              simp only [if_neg h9]
              rfl
        · show fX8_clears_b35 now rc r _ _ _ _ _ _ _ = _
          unfold fX8_clears_b35
          rw [if_pos (show (3 : Int32) ≤ nI 3 by decide), obs, nI_1]
    · show fX8_clears_b24 now rc _ _ _ _ _ _ = _
      unfold fX8_clears_b24
      rw [nbs8 hn h.1, obs, if_pos (nI_le (Nat.le_refl _) (by omega))]
      exact fin8 _ (cOK_F _)
  rw [e7, e8]
  cases cF Q n m (2 * n * n) with
  | none => exact ⟨_, _, _, _, _, _, rfl, rfl, hr⟩
  | some b => exact ⟨_, _, _, _, _, _, rfl, rfl, RW.t4 f g _ _ _ _⟩
end CLR
