/-! A day done. -/
section DYR
variable {L : Nat} {B : Nat → Nat} {sg tx : Nat → Int32} {z kd tr : Int32} {m o wd now : Nat → Int32} {P : Nat → Int64} {nx sz : Nat} {hd : Nat → Option SD} {U iK K : Nat → Int32} {l k8 : Int32} {f g : Nat → Int64}
theorem upds {F : Nat → Int32} {k q : Nat} {x : Int32} (h : q = k) : upd F k x q = x := if_pos h
theorem fs_pre {p : Nat → Bool} {n k : Nat} (h : fs p n = none) (hk : k ≤ n) : fs p k = none := fs_none (fun q hq => by
  rcases fs_cases p n with ⟨j, -, -, -, x⟩ | ⟨x, -⟩
  · rw [h] at x; cases x
  · exact x q (by omega))
theorem gd_dig (hT : TX L B sg tx) {k r : Nat} (hg : gdA L B k) (hr : r < ndA (B (psA B k))) (x : Int32) (hx : x = nI (psA B k + 1 + r)) : fX6_digit (nI L) sg x = some (v1D L B (psA B k) r) := by
  have hL := hT.1
  obtain ⟨h1, h2, h3⟩ := hg
  have hnd := nd_le (B (psA B k))
  rw [hx, digit7 hT (by omega)]
  unfold v1D
  rw [fs_pre h3 (by omega)]
  have : dB L B (psA B k) r = false := by
    rcases fs_cases (dB L B (psA B k)) (ndA (B (psA B k))) with ⟨j, -, -, -, x⟩ | ⟨x, -⟩
    · rw [h3] at x; cases x
    · exact x r hr
  unfold dB at this
  cases hd : dgt L B (psA B k + 1 + r) with
  | none => rw [hd] at this; cases this
  | some d => rfl
theorem gd_two (hT : TX L B sg tx) {k r : Nat} (hg : gdA L B k) (hr : r + 1 < ndA (B (psA B k))) (x : Int32) (hx : x = nI (psA B k + 1 + r)) : fX6_twoDigits (nI L) sg x = some (v2D L B (psA B k) r) := by
  unfold fX6_twoDigits
  rw [gd_dig hT hg (show r < ndA (B (psA B k)) by omega) x hx, obs, gd_dig hT hg hr (x + 1) (by rw [hx, nI_1]; rfl), obs]; rfl
theorem act_step (hT : TX L B sg tx) (h : SR z kd tr m o wd P now) {k : Nat} (hk : 5 * k + 4 < 720) (hg : gdA L B k) {rd : Nat → Int32} (hrd : ∃ rd0, ∀ q, q < 5 → rd (5 * k + q) = raD L B (psA B k) (5 * k) rd0 (5 * k + q)) (a b c e : Int32) :
    (∃ r, r < 0 ∧ fX7_doAct tr wd (nI L) sg a b c z e m kd o P (nI (psA B k)) = some (r, a, b, c, z, e, m, kd, o, P) ∧ fX8_act rd now (nI (5 * k)) = some (0, now)) ∨
    (∃ r a' b' c' z' e' m' kd' o' P' now', ¬ r < 0 ∧ fX7_doAct tr wd (nI L) sg a b c z e m kd o P (nI (psA B k)) = some (r, a', b', c', z', e', m', kd', o', P') ∧ fX8_act rd now (nI (5 * k)) = some (1, now') ∧ SR z' kd' tr m' o' wd P' now') := by
  have hL := hT.1
  obtain ⟨rd0, hrd⟩ := hrd
  have h1 := hg.1
  have hB := (hT.2 _ h1).1
  have hch : chT L B (psA B k) = nI (B (psA B k)) := if_pos h1
  have hnd := nd_le (B (psA B k))
  generalize hp : psA B k = p at *
  have hg' := hg
  unfold fX7_doAct fX8_act
  have r0 := hrd 0 (by decide)
  have r1 := hrd 1 (by decide)
  have r2 := hrd 2 (by decide)
  have r3 := hrd 3 (by decide)
  have r4 := hrd 4 (by decide)
  rw [Nat.add_zero] at r0
  rw [at7 hT (by omega), hch, obs, show nI (5 * k) + 1 = nI (5 * k + 1) from nI_1 _, show nI (5 * k) + 2 = nI (5 * k + 2) from nI_add _ 2, show nI (5 * k) + 3 = nI (5 * k + 3) from nI_add _ 3, show nI (5 * k) + 4 = nI (5 * k + 4) from nI_add _ 4, ald_in (show 5 * k + 1 < 720 by omega) (by decide), obs, ald_in (show 5 * k + 2 < 720 by omega) (by decide), obs, ald_in (show 5 * k + 3 < 720 by omega) (by decide), obs, ald_in (show 5 * k + 4 < 720 by omega) (by decide), obs, ald_in (show 5 * k < 720 by omega) (by decide), obs, r0, r1, r2, r3, r4]
  have q1 : nI p + 1 = nI (p + 1 + 0) := nI_1 p
  have q2 : nI p + 2 = nI (p + 1 + 1) := nI_add p 2
  have q3 : nI p + 3 = nI (p + 1 + 2) := nI_add p 3
  have q5 : nI p + 5 = nI (p + 1 + 4) := nI_add p 5
  have q7 : nI p + 7 = nI (p + 1 + 6) := nI_add p 7
  have hcs : B p = 97 ∨ B p = 103 ∨ B p = 108 ∨ B p = 115 := by
    have h2 := hg.2.1
    rw [hp] at h2
    unfold ndA at h2
    by_cases h3 : B p = 97
    · exact Or.inl h3
    · rw [if_neg h3] at h2
      by_cases h4 : B p = 103
      · exact Or.inr (Or.inl h4)
      · rw [if_neg h4] at h2
        by_cases h5 : B p = 108
        · exact Or.inr (Or.inr (Or.inl h5))
        · rw [if_neg h5] at h2
          by_cases h6 : B p = 115
          · exact Or.inr (Or.inr (Or.inr h6))
          · rw [if_neg h6] at h2; exact absurd rfl h2
  have dg := fun r hr x hx => gd_dig (r := r) hT hg hr x hx
  have tw := fun r hr x hx => gd_two (r := r) hT hg hr x hx
  rw [hp] at dg tw
  have le0 : (0 : Int32) ≤ 0 := by decide
  rcases hcs with hc | hc | hc | hc
  · have hnd : ndA (B p) = 3 := by rw [hc]; rfl
    unfold raD
    simp only [if_pos hc]
    generalize hX : upd (upd (upd (upd rd0 (5 * k) (nI 97)) (5 * k + 1) (v1D L B p 0)) (5 * k + 2) (v1D L B p 1)) (5 * k + 3) (v1D L B p 2) = X
    have x0 : X (5 * k) = nI 97 := by rw [← hX, updn (by omega), updn (by omega), updn (by omega)]; exact upds rfl
    have x1 : X (5 * k + 1) = v1D L B p 0 := by rw [← hX, updn (by omega), updn (by omega)]; exact upds rfl
    have x2 : X (5 * k + 2) = v1D L B p 1 := by rw [← hX, updn (by omega)]; exact upds rfl
    have x3 : X (5 * k + 3) = v1D L B p 2 := by rw [← hX]; exact upds rfl
    rw [x0, x1, x2, x3]
    rw [hc, if_pos (show nI 97 = 97 by decide), if_neg (show ¬ nI 97 = 103 by decide), if_neg (show ¬ nI 97 = 108 by decide), if_neg (show ¬ nI 97 = 115 by decide), dg 0 (by omega) _ q1, obs, dg 1 (by omega) _ q2, obs, dg 2 (by omega) _ q3, obs]
    rcases c_amount h (v1D L B p 0) (v1D L B p 1) (v1D L B p 2) with ⟨r, e1, e2, e3⟩ | ⟨r, m', o', P', now', e1, e2, e3, e4, e5, e6⟩
    · left
      rw [e2, e3, obs, if_neg (nle0 e1)]
      simp only [bd4, obs]
      exact ⟨r, e1, rfl, trivial⟩
    · right
      rw [e2, e3, obs, if_pos le0, e5, obs]
      simp only [bd4, obs]
      exact ⟨_, _, _, _, _, _, _, _, _, _, _, e1, rfl, rfl, e6⟩
  · have hnd : ndA (B p) = 2 := by rw [hc]; rfl
    unfold raD
    simp only [if_neg (show ¬ B p = 97 by omega), if_pos hc]
    generalize hX : upd (upd rd0 (5 * k) (nI 103)) (5 * k + 1) (v2D L B p 0) = X
    have x0 : X (5 * k) = nI 103 := by rw [← hX, updn (by omega)]; exact upds rfl
    have x1 : X (5 * k + 1) = v2D L B p 0 := by rw [← hX]; exact upds rfl
    rw [x0, x1]
    rw [hc, if_neg (show ¬ nI 103 = 97 by decide), if_pos (show nI 103 = 103 by decide), if_pos (show nI 103 = 103 by decide), tw 0 (by omega) _ q1, obs]
    rcases c_grid h a b c e (v2D L B p 0) with ⟨r, e1, e2, e3⟩ | ⟨r, a', b', c', e', m', now', e1, e2, e3, e4, e5, e6⟩
    · left
      rw [e2, e3, obs, if_neg (nle0 e1)]
      simp only [bd7, obs]
      exact ⟨r, e1, rfl, trivial⟩
    · right
      rw [e2, e3, obs, if_pos le0, e4, obs]
      simp only [bd7, obs]
      exact ⟨_, _, _, _, _, _, _, _, _, _, _, e1, rfl, rfl, e6⟩
  · have hnd : ndA (B p) = 5 := by rw [hc]; rfl
    unfold raD
    simp only [if_neg (show ¬ B p = 97 by omega), if_neg (show ¬ B p = 103 by omega), if_pos hc]
    generalize hX : upd (upd (upd (upd rd0 (5 * k) (nI 108)) (5 * k + 1) (v2D L B p 0)) (5 * k + 2) (v2D L B p 2)) (5 * k + 3) (v1D L B p 4) = X
    have x0 : X (5 * k) = nI 108 := by rw [← hX, updn (by omega), updn (by omega), updn (by omega)]; exact upds rfl
    have x1 : X (5 * k + 1) = v2D L B p 0 := by rw [← hX, updn (by omega), updn (by omega)]; exact upds rfl
    have x2 : X (5 * k + 2) = v2D L B p 2 := by rw [← hX, updn (by omega)]; exact upds rfl
    have x3 : X (5 * k + 3) = v1D L B p 4 := by rw [← hX]; exact upds rfl
    rw [x0, x1, x2, x3]
    rw [hc, if_neg (show ¬ nI 108 = 97 by decide), if_neg (show ¬ nI 108 = 103 by decide), if_pos (show nI 108 = 108 by decide), if_neg (show ¬ nI 108 = 103 by decide), if_pos (show nI 108 = 108 by decide), tw 0 (by omega) _ q1, obs, tw 2 (by omega) _ q3, obs, dg 4 (by omega) _ q5, obs]
    rcases c_lay h (v2D L B p 0) (v2D L B p 2) (v1D L B p 4) with ⟨r, e1, e2, e3⟩ | ⟨pp, r, m', now', e1, e2, e3, e4, e5, e6, e7⟩
    · left
      rw [e2, e3, obs, if_neg (nle0 e1)]
      simp only [bd3, obs]
      exact ⟨r, e1, rfl, trivial⟩
    · right
      rw [e2, e3, obs, if_pos le0, e6, obs]
      simp only [bd3, obs]
      exact ⟨_, _, _, _, _, _, _, _, _, _, _, e1, rfl, rfl, e7⟩
  · have hnd : ndA (B p) = 8 := by rw [hc]; rfl
    unfold raD
    simp only [if_neg (show ¬ B p = 97 by omega), if_neg (show ¬ B p = 103 by omega), if_neg (show ¬ B p = 108 by omega)]
    generalize hX : upd (upd (upd (upd (upd rd0 (5 * k) (nI 115)) (5 * k + 1) (v2D L B p 0)) (5 * k + 2) (v2D L B p 2)) (5 * k + 3) (v2D L B p 4)) (5 * k + 4) (v2D L B p 6) = X
    have x0 : X (5 * k) = nI 115 := by rw [← hX, updn (by omega), updn (by omega), updn (by omega), updn (by omega)]; exact upds rfl
    have x1 : X (5 * k + 1) = v2D L B p 0 := by rw [← hX, updn (by omega), updn (by omega), updn (by omega)]; exact upds rfl
    have x2 : X (5 * k + 2) = v2D L B p 2 := by rw [← hX, updn (by omega), updn (by omega)]; exact upds rfl
    have x3 : X (5 * k + 3) = v2D L B p 4 := by rw [← hX, updn (by omega)]; exact upds rfl
    have x4 : X (5 * k + 4) = v2D L B p 6 := by rw [← hX]; exact upds rfl
    rw [x0, x1, x2, x3, x4, hc, if_neg (show ¬ nI 115 = 97 by decide), if_neg (show ¬ nI 115 = 103 by decide), if_neg (show ¬ nI 115 = 108 by decide), if_pos (show nI 115 = 115 by decide), if_neg (show ¬ nI 115 = 103 by decide), if_neg (show ¬ nI 115 = 108 by decide), if_pos (show nI 115 = 115 by decide), tw 0 (by omega) _ q1, obs, tw 2 (by omega) _ q3, obs, tw 4 (by omega) _ q5, obs, tw 6 (by omega) _ q7, obs]
    rcases c_swap h a b c e (v2D L B p 0) (v2D L B p 2) (v2D L B p 4) (v2D L B p 6) with ⟨r, e1, e2, e3⟩ | ⟨r, a', b', c', e', m', now', e1, e2, e3, e4, e5, e6⟩
    · left
      rw [e2, e3, obs, if_neg (nle0 e1)]
      simp only [bd7, obs]
      exact ⟨r, e1, rfl, trivial⟩
    · right
      rw [e2, e3, obs, if_pos le0, e4, obs]
      simp only [bd7, obs]
      exact ⟨_, _, _, _, _, _, _, _, _, _, _, e1, rfl, rfl, e6⟩
end DYR
