/-! What holds between two calls. -/
section INVS
variable {z kd tr : Int32} {m o wd now : Nat → Int32} {P : Nat → Int64} {l k : Int32} {f g : Nat → Int64}
theorem m_excess2 (h : SR z kd tr m o wd P now) (hr : RW l f k g) (t8 x y : Int32) : ∃ r l' f' k' t8' g', fX7_excess z kd P l f x y = some (r, l', f') ∧ fX8_excess now k t8 g x y = some (r, k', t8', g') ∧ RW l' f' k' g' := by
  obtain ⟨n, hn1, hn, rfl, hR, hS, hU⟩ := h
  by_cases hk : kd = 1
  · obtain ⟨Q, hP, hB, hE, -⟩ := rul_lab hU (by rw [hk]; decide)
    exact m_excess hn hR.1 hP hB hU.1 (fun e => hE e now n hn (fun q _ _ => rfl) hR.1) hr t8 x y
  · unfold fX7_excess fX8_excess
    rcases point_cases hn hR.1 x y with ⟨i, j, hij, rfl, rfl, e7, e8⟩ | ⟨e7, e8⟩
    · rw [e7, e8, obs, obs, if_neg n10, if_neg n10, ald1 hU, obs, if_neg hk, if_neg hk]
      exact ⟨_, _, _, _, _, _, rfl, rfl, hr⟩
    · rw [e7, e8, obs, obs, if_pos rfl, if_pos rfl]
      exact ⟨_, _, _, _, _, _, rfl, rfl, hr⟩
theorem m_best2 (h : SR z kd tr m o wd P now) (hr : RW l f k g) (t8 : Int32) : ∃ r l' f' k' t8' g', fX7_best z kd P l f = some (r, l', f') ∧ fX8_best now k t8 g = some (r, k', t8', g') ∧ RW l' f' k' g' := by
  obtain ⟨n, hn1, hn, rfl, hR, hS, hU⟩ := h
  by_cases hk : kd = 1
  · obtain ⟨Q, hP, hB, hE, -⟩ := rul_lab hU (by rw [hk]; decide)
    exact m_best hn hR.1 hP hB hU.1 (fun e => hE e now n hn (fun q _ _ => rfl) hR.1) hr t8
  · unfold fX7_best fX8_best
    rw [ald1 hU, obs, if_neg hk, if_neg hk]
    exact ⟨_, _, _, _, _, _, rfl, rfl, hr⟩
theorem m_clears2 (h : SR z kd tr m o wd P now) (hr : RW l f k g) (t8 : Int32) : ∃ r l' f' k' t8' g', fX7_clears z m kd P l f = some (r, l', f') ∧ fX8_clears now k t8 g = some (r, k', t8', g') ∧ RW l' f' k' g' := by
  obtain ⟨n, hn1, hn, rfl, hR, hS, hU⟩ := h
  by_cases hk : kd = 1
  · obtain ⟨Q, hP, hB, hE, -⟩ := rul_lab hU (by rw [hk]; decide)
    exact m_clears hn hR hS.vl hP hB hU.1 (fun e => hE e now n hn (fun q _ _ => rfl) hR.1) hr t8
  · unfold fX7_clears fX8_clears
    rw [ald1 hU, obs, if_neg hk, if_neg hk]
    exact ⟨_, _, _, _, _, _, rfl, rfl, hr⟩
theorem m_sells2 (h : SR z kd tr m o wd P now) (hr : RW l f k g) (t8 x y v : Int32) : ∃ r l' f' k' t8' g', fX7_sells z kd tr o wd l f x y v = some (r, l', f') ∧ fX8_sells now k t8 g x y v = some (r, k', t8', g') ∧ RW l' f' k' g' := by
  obtain ⟨n, hn1, hn, rfl, hR, hS, hU⟩ := h
  obtain ⟨h1, hc⟩ := hU
  rcases hc with hc | ⟨hc, T, a, w, q1, q2, q3, q4, q5, q6⟩ | ⟨hc, -⟩
  · exact m_sells (T := 0) (a := fun _ => 0) (w := fun _ => 0) hn hR.1 h1 (fun e => absurd (hc.symm.trans e) (by decide)) hr t8 x y v
  · exact m_sells (T := T) (a := a) (w := w) hn hR.1 h1 (fun _ => ⟨q1, q2, q3, q4, q5⟩) hr t8 x y v
  · exact m_sells (T := 0) (a := fun _ => 0) (w := fun _ => 0) hn hR.1 h1 (fun e => absurd (hc.symm.trans e) (by decide)) hr t8 x y v
def INV (hnx hsz z : Int32) (m : Nat → Int32) (kd tr : Int32) (o : Nat → Int32) (P : Nat → Int64) (wd : Nat → Int32) (rl : Int32) (rn : Nat → Int64) (tl : Int32) (ts : Nat → Int32) (rM ty uM : Int32) (iK K now : Nat → Int32) (row : Nat → Int64) (text U : Nat → Int32) (hd : Nat → Option SD) : Prop :=
  ∃ nx sz L B, hnx = nI nx ∧ hsz = nI sz ∧ uM = nI sz ∧ tl = nI L ∧ ty = nI L ∧ SR z kd tr m o wd P now ∧ HR nx sz hd U ∧ KR hd iK K ∧ TX L B ts text ∧ RW rl rn rM row
theorem ald0J (F : Nat → Int64) : ald 1 (0 : Int32) F = some (F 0) := ald_in (i := 0) (by decide) (by decide)
theorem lgc_self (x : Int64) : lg_cmp x x = 0 := (lg_cmp_eq x x).mpr rfl
end INVS
