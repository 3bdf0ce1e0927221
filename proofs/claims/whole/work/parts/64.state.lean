/-! States of class and reference, kept ones. -/
section STA
/-- a state of the class is that of the reference -/
def SR (z kd tr : Int32) (m o wd : Nat → Int32) (P : Nat → Int64) (now : Nat → Int32) : Prop := ∃ n, 1 ≤ n ∧ n < 17 ∧ z = nI n ∧ R8 n m now ∧ SPR n m ∧ RUL kd tr o wd P now
theorem SR_cong {z kd tr : Int32} {m o wd m' o' wd' now now' : Nat → Int32} {P P' : Nat → Int64} (h : SR z kd tr m o wd P now) (hm : ∀ q, q < 153 → m' q = m q) (ho : ∀ q, q < 12 → o' q = o q) (hw : ∀ q, q < 12 → wd' q = wd q) (hP : ∀ q, q < 9 → P' q = P q) (hN : ∀ q, q < 189 → now' q = now q) : SR z kd tr m' o' wd' P' now' := by
  obtain ⟨n, h1, h2, h3, h4, h5, h6⟩ := h
  have h153 := pts_le n h2
  refine ⟨n, h1, h2, h3, ⟨by rw [hN 0 (by decide)]; exact h4.1, fun p hp => by rw [hN _ (by omega), hm p (by omega)]; exact h4.2 p hp⟩, fun p hp => by rw [hm p (by omega)]; exact h5 p hp, ?_⟩
  obtain ⟨g1, g2⟩ := RUL_ag (now' := now') h6 (fun q _ hq => hN q (by omega))
  refine ⟨g1, ?_⟩
  rcases g2 with g2 | ⟨g2, T, a, w, q1, q2, q3, q4, q5, q6⟩ | ⟨g2, M, S, q1, q2, q3⟩
  · exact Or.inl g2
  · have hT := q1.1
    exact Or.inr (Or.inl ⟨g2, T, a, w, q1, q2, q3, fun q hq => by rw [ho q (by omega)]; exact q4 q hq, fun q hq => by rw [hw q (by omega)]; exact q5 q hq, fun q hq h hh => by rw [hP _ (by omega)]; exact q6 q hq h hh⟩)
  · exact Or.inr (Or.inr ⟨g2, M, S, q1, q2, fun q hq h hh => by rw [hP _ (by omega)]; exact q3 q hq h hh⟩)
def SRd (d : SD) (now : Nat → Int32) : Prop := SR d.1 d.2.2.2.2.2.2.1 d.2.2.2.2.2.2.2.1 d.2.2.2.2.2.1 d.2.2.2.2.2.2.2.2.1 d.2.2.2.2.2.2.2.2.2.2 d.2.2.2.2.2.2.2.2.2.1 now
theorem SRd_cong {d : SD} {now now' : Nat → Int32} (h : SRd d now) (hN : ∀ q, q < 189 → now' q = now q) : SRd d now' := SR_cong h (fun _ _ => rfl) (fun _ _ => rfl) (fun _ _ => rfl) (fun _ _ => rfl) hN
theorem copy7 (a1 : Int32) (a2 : Nat → Int32) (a3 a4 : Int32) (a5 : Nat → Int32) (a6 : Nat → Int64) (a7 : Nat → Int32) (b1 : Int32) (b2 : Nat → Int32) (b3 b4 : Int32) (b5 : Nat → Int32) (b6 : Nat → Int64) (b7 : Nat → Int32) : fX5_copy a1 a2 a3 a4 a5 a6 a7 b1 b2 b3 b4 b5 b6 b7 = some (a1, va_cpy a2 b2 0 0 153, a3, a4, va_cpy a5 b5 0 0 12, va_cpy a6 b6 0 0 9, va_cpy a7 b7 0 0 12) := by
  unfold fX5_copy fX1_copy fX4_copy
  simp only [obs, bd2, bd5]
theorem cpyI {f g : Nat → Int32} {n q : Nat} (h : q < n) : va_cpy f g 0 0 n q = f q := by
  rw [pk_cpy_in (by omega) (by omega)]; simp
theorem cpyL {f g : Nat → Int64} {n q : Nat} (h : q < n) : va_cpy f g 0 0 n q = f q := by
  rw [pk_cpy_in (by omega) (by omega)]; simp
theorem SR_copy {z kd tr : Int32} {m o wd m' o' wd' now now' : Nat → Int32} {P P' : Nat → Int64} (h : SR z kd tr m o wd P now) (hN : ∀ q, q < 189 → now' q = now q) : SR z kd tr (va_cpy m m' 0 0 153) (va_cpy o o' 0 0 12) (va_cpy wd wd' 0 0 12) (va_cpy P P' 0 0 9) now' :=
  SR_cong h (fun _ hq => cpyI hq) (fun _ hq => cpyI hq) (fun _ hq => cpyI hq) (fun _ hq => cpyL hq) hN
variable {z kd tr : Int32} {m o wd now : Nat → Int32} {P : Nat → Int64}
theorem cpS7 (h : SR z kd tr m o wd P now) (d : SD) : ∃ d', cpS d z m kd tr o P wd = some d' ∧ SRd d' now := by
  unfold cpS
  rw [copy7]
  simp only [bd7, obs]
  exact ⟨_, rfl, SR_copy h (fun _ _ => rfl)⟩
theorem note7 (h : SR z kd tr m o wd P now) {nx : Nat} (hx : nx < 9) (hd : Nat → Option SD) : ∃ hd', fX2_note z m kd tr o P wd (nI nx) hd = some hd' ∧ (∀ i, ¬ i = nx → hd' i = hd i) ∧ ∃ d, hd' nx = some d ∧ SRd d now := by
  unfold fX2_note
  obtain ⟨d', e, hs⟩ := cpS7 h ((hd nx).getD stNew)
  rw [if_neg (nI_pos (by omega)), if_pos (show nI nx < 9 from nI_lt (b := 9) hx (by decide)), nI_clamp (by omega), e, obs]
  exact ⟨_, rfl, fun i hi => va_up_ne hd _ hi, d', va_up_self hd nx _, hs⟩
/-- the ring of the class against the rows of the reference -/
def HR (nx sz : Nat) (hd : Nat → Option SD) (U : Nat → Int32) : Prop := nx < 9 ∧ sz ≤ 8 ∧ ∀ j, j < sz → ∃ d, hd ((nx + 9 - sz + j) % 9) = some d ∧ SRd d (fun q => U (189 * j + q))
theorem HR_noted {nx sz : Nat} {hd hd' : Nat → Option SD} {U : Nat → Int32} (h : HR nx sz hd U) (hi : ∀ i, ¬ i = nx → hd' i = hd i) : HR nx sz hd' U := by
  obtain ⟨h1, h2, h3⟩ := h
  refine ⟨h1, h2, fun j hj => ?_⟩
  rw [hi _ (by omega)]
  exact h3 j hj
def unS (sz : Nat) : Nat := if sz = 8 then 8 else sz + 1
def unU (U W : Nat → Int32) (sz : Nat) : Nat → Int32 := if sz = 8 then fb_put (fb_put U (fun k => U (k + 189)) 0 1323) W 1323 189 else fb_put U W (189 * sz) 189
theorem HR_hold {nx sz : Nat} {hd hd' : Nat → Option SD} {U W : Nat → Int32} (h : HR nx sz hd U) (hi : ∀ i, ¬ i = nx → hd' i = hd i) {d : SD} (hn : hd' nx = some d) (hs : SRd d now) (hW : ∀ q, q < 189 → W q = now q) : HR ((nx + 1) % 9) (unS sz) hd' (unU U W sz) := by
  obtain ⟨h1, h2, h3⟩ := h
  unfold unS unU
  by_cases h8 : sz = 8
  · rw [if_pos h8, if_pos h8]
    subst h8
    refine ⟨by omega, by omega, fun j hj => ?_⟩
    by_cases hj7 : j = 7
    · subst hj7
      refine ⟨d, ?_, SRd_cong hs (fun q hq => ?_)⟩
      · rw [show ((nx + 1) % 9 + 9 - 8 + 7) % 9 = nx by omega]; exact hn
      · rw [fb_put_in (by omega) (by omega), show 189 * 7 + q - 1323 = q by omega, hW q hq]
    · obtain ⟨d', e1, e2⟩ := h3 (j + 1) (by omega)
      refine ⟨d', ?_, SRd_cong e2 (fun q hq => ?_)⟩
      · rw [show ((nx + 1) % 9 + 9 - 8 + j) % 9 = (nx + 9 - 8 + (j + 1)) % 9 by omega, hi _ (by omega)]; exact e1
      · rw [fb_put_out (Or.inl (by omega)), fb_put_in (by omega) (by omega)]
        simp only [Nat.sub_zero]
        congr 1
        omega
  · rw [if_neg h8, if_neg h8]
    refine ⟨by omega, by omega, fun j hj => ?_⟩
    by_cases hjs : j = sz
    · subst hjs
      refine ⟨d, ?_, SRd_cong hs (fun q hq => ?_)⟩
      · rw [show ((nx + 1) % 9 + 9 - (j + 1) + j) % 9 = nx by omega]; exact hn
      · rw [fb_put_in (by omega) (by omega), show 189 * j + q - 189 * j = q by omega, hW q hq]
    · obtain ⟨d', e1, e2⟩ := h3 j (by omega)
      refine ⟨d', ?_, SRd_cong e2 (fun q hq => ?_)⟩
      · rw [show ((nx + 1) % 9 + 9 - (sz + 1) + j) % 9 = (nx + 9 - sz + j) % 9 by omega, hi _ (by omega)]; exact e1
      · rw [fb_put_out (Or.inl (by omega))]
theorem hold7 {nx sz : Nat} (h1 : nx < 9) (h2 : sz ≤ 8) : fX2_hold (nI nx) (nI sz) = some (nI ((nx + 1) % 9), nI (unS sz)) := by
  unfold fX2_hold
  rw [obs, obs, nI_1, nI_1, show (9 : Int32) = nI 9 from rfl, pk_rem (by omega) (by decide) (by decide)]
  unfold mnI unS
  by_cases h8 : sz = 8
  · rw [if_pos (show (8 : Int32) < nI (sz + 1) from nI_lt (a := 8) (by omega) (by omega)), if_pos h8]; rfl
  · rw [if_neg (show ¬ (8 : Int32) < nI (sz + 1) from nI_nlt (a := 8) (by omega) (by decide)), if_neg h8]
theorem held7 {nx sz : Nat} (h1 : nx < 9) (h2 : sz ≤ 8) {x : Int32} (hx : ¬ x < 0) : fX7_held (nI nx) (nI sz) x = some (x, nI ((nx + 1) % 9), nI (unS sz)) := by
  unfold fX7_held
  rw [if_neg hx, hold7 h1 h2]
  simp only [bd2, obs]
theorem held7n (a b : Int32) {x : Int32} (hx : x < 0) : fX7_held a b x = some (x, a, b) := by
  unfold fX7_held
  rw [if_pos hx]
theorem lay8 (W : Nat → Int32) : fX8_lay now W = some (fa_fill now W 189) := by
  unfold fX8_lay
  have key := l_acc0 (F := fX8_lay_b2 now) (z := fun _ _ => none) (fun rc c => rc (fa_fill now W c) (nI c)) 189 (by decide) (some (fa_fill now W 189)) (fun rc c hc => ?_) (fun rc => rfl)
  · rw [fa_fill_0] at key
    exact key
  · show fX8_lay_b2 now rc _ _ = _
    unfold fX8_lay_b2
    rw [if_neg (show ¬ (189 : Int32) ≤ nI c from nI_ge hc (by decide)), ald_in hc (by decide), obs, ast_in hc (by decide), obs, obs, nI_1, fa_fill_succ]
theorem ix189 (a c : Nat) : (189 : Int32) * nI a + nI c = nI (189 * a + c) := by
  rw [show (189 : Int32) = nI 189 from rfl, pk_mul, nI_add]
theorem note8b (W U : Nat → Int32) {s : Nat} (hs : s < 8) : lfix (fX8_note_b52 W) (fun _ _ _ => none) FU (nI s) U 0 = some (nI (s + 1), fb_put U W (189 * s) 189) := by
  have key := l_acc0 (F := fX8_note_b52 W) (z := fun _ _ _ => none) (fun rc c => rc (nI s) (fb_put U W (189 * s) c) (nI c)) 189 (by decide) (some (nI (s + 1), fb_put U W (189 * s) 189)) (fun rc c hc => ?_) (fun rc => ?_)
  · rw [fb_put_0] at key
    exact key
  · show fX8_note_b52 W rc _ _ _ = _
    unfold fX8_note_b52
    rw [if_neg (show ¬ (189 : Int32) ≤ nI c from nI_ge hc (by decide)), ald_in hc (by decide), obs, ix189, ast_in (by omega) (by decide), obs, obs, nI_1, fb_put_succ]
  · show fX8_note_b52 W rc _ _ _ = _
    unfold fX8_note_b52
    rw [if_pos (show (189 : Int32) ≤ nI 189 by decide), obs, nI_1]
theorem note8 (W U : Nat → Int32) {s : Nat} (hs : s ≤ 8) : fX8_note W (nI s) U = some (nI (unS s), unU U W s) := by
  unfold fX8_note unS unU
  by_cases h8 : s = 8
  · subst h8
    rw [if_pos (show nI 8 = (8 : Int32) from rfl), if_pos rfl, if_pos rfl]
    have key := l_acc0 (F := fX8_note_b11 W) (z := fun _ _ _ => none) (fun rc c => rc (nI 8) (fb_put U (fun k => U (k + 189)) 0 c) (nI c)) 1323 (by decide) (some (nI 8, fb_put (fb_put U (fun k => U (k + 189)) 0 1323) W 1323 189)) (fun rc c hc => ?_) (fun rc => ?_)
    · rw [fb_put_0] at key
      exact key
    · show fX8_note_b11 W rc _ _ _ = _
      unfold fX8_note_b11
      have e := fb_put_succ U (fun k => U (k + 189)) 0 c
      rw [Nat.zero_add] at e
      rw [if_neg (show ¬ (1323 : Int32) ≤ nI c from nI_ge hc (by decide)), show nI c + (189 : Int32) = nI (c + 189) from nI_add c 189, ald_in (by omega) (by decide), obs, ast_in (by omega) (by decide), obs, obs, nI_1, fb_put_out (Or.inr (by omega)), e]
    · show fX8_note_b11 W rc _ _ _ = _
      unfold fX8_note_b11
      rw [if_pos (show (1323 : Int32) ≤ nI 1323 by decide), obs, show nI 8 - 1 = nI 7 from nI_pred 7, note8b W _ (s := 7) (by decide)]
  · rw [if_neg (show ¬ nI s = (8 : Int32) from fun e => h8 ((nI_eq (b := 8) (by omega) (by decide)).mp e)), if_neg h8, if_neg h8, note8b W U (by omega)]
theorem change8 (U W : Nat → Int32) {s : Nat} (hs : s ≤ 8) : fX8_change now (nI s) U W = some (nI (unS s), unU U (fa_fill now W 189) s, fa_fill now W 189) := by
  unfold fX8_change
  rw [lay8, obs, note8 _ _ hs]
  simp only [bd2, obs]
/-- undo -/
theorem m_undo (h : SR z kd tr m o wd P now) {nx sz : Nat} {hd : Nat → Option SD} {U : Nat → Int32} (hH : HR nx sz hd U) (t8 : Int32) :
    ∃ r nx' sz' z' m' kd' tr' o' P' wd' t8' now', fX7_undo hd (nI nx) (nI sz) z m kd tr o P wd = some (r, nI nx', nI sz', z', m', kd', tr', o', P', wd') ∧ fX8_undo U t8 (nI sz) now = some (r, t8', nI sz', now') ∧ SR z' kd' tr' m' o' wd' P' now' ∧ HR nx' sz' hd U := by
  obtain ⟨h1, h2, h3⟩ := hH
  unfold fX7_undo fX8_undo fX2_back
  by_cases h0 : sz = 0
  · subst h0
    rw [if_neg (show ¬ (1 : Int32) ≤ nI 0 by decide), if_pos (show nI 0 = (0 : Int32) from rfl)]
    simp only [bd10, obs, if_true]
    exact ⟨_, nx, 0, _, _, _, _, _, _, _, _, _, rfl, rfl, h, h1, h2, h3⟩
  · obtain ⟨d, e1, e2⟩ := h3 (sz - 1) (by omega)
    rw [show (nx + 9 - sz + (sz - 1)) % 9 = (nx + 8) % 9 by omega] at e1
    have hz2 : nI nx + 8 - (nI nx + 8) / 9 * 9 = nI ((nx + 8) % 9) := by
      rw [show nI nx + (8 : Int32) = nI (nx + 8) from nI_add nx 8, show (9 : Int32) = nI 9 from rfl, pk_rem (by omega) (by decide) (by decide)]
    have hs1 : nI sz - 1 = nI (sz - 1) := by rw [show (1 : Int32) = nI 1 from rfl, pk_sub (by omega)]
    rw [if_pos (show (1 : Int32) ≤ nI sz from nI_le (a := 1) (by omega) (by omega)), if_neg (nI_n0 (by omega) (by omega)), obs, obs, hz2, hs1, if_neg (nI_pos (by omega)), if_neg (show ¬ (9 : Int32) ≤ nI ((nx + 8) % 9) from nI_ge (show (nx + 8) % 9 < 9 by omega) (by decide)), nI_clamp (by omega), e1]
    simp only [copy7, bd7, bd10, obs, if_neg n10]
    have e8 : lfix (fX8_undo_b26 U) (fun _ _ _ _ => none) FU 0 (nI (sz - 1)) now 0 = some (nI (sz - 1), 0, nI (sz - 1), fa_fill (fun q => U (189 * (sz - 1) + q)) now 189) := by
      have key := l_acc0 (F := fX8_undo_b26 U) (z := fun _ _ _ _ => none) (fun rc c => rc 0 (nI (sz - 1)) (fa_fill (fun q => U (189 * (sz - 1) + q)) now c) (nI c)) 189 (by decide) (some (nI (sz - 1), 0, nI (sz - 1), fa_fill (fun q => U (189 * (sz - 1) + q)) now 189)) (fun rc c hc => ?_) (fun rc => rfl)
      · rw [fa_fill_0] at key
        exact key
      · show fX8_undo_b26 U rc _ _ _ _ = _
        unfold fX8_undo_b26
        have e := fa_fill_succ (fun q => U (189 * (sz - 1) + q)) now c
        rw [if_neg (show ¬ (189 : Int32) ≤ nI c from nI_ge hc (by decide)), ix189, ald_in (by omega) (by decide), obs, ast_in hc (by decide), obs, obs, nI_1, e]
    rw [e8]
    refine ⟨_, (nx + 8) % 9, sz - 1, _, _, _, _, _, _, _, _, _, rfl, rfl, SR_copy e2 (fun q hq => fa_fill_in hq), by omega, by omega, fun j hj => ?_⟩
    obtain ⟨d', g1, g2⟩ := h3 j (by omega)
    refine ⟨d', ?_, g2⟩
    rw [show ((nx + 8) % 9 + 9 - (sz - 1) + j) % 9 = (nx + 9 - sz + j) % 9 by omega]; exact g1
/-- what is kept -/
def KR (hd : Nat → Option SD) (iK K : Nat → Int32) : Prop := ∀ i, i < 2 → (iK i = 0 ∧ hd (9 + i) = none) ∨ (iK i = 1 ∧ ∃ d, hd (9 + i) = some d ∧ SRd d (fun q => K (189 * i + q)))
theorem two_cases (x : Int32) : (∃ i, i < 2 ∧ x = nI i ∧ fX8_in x 0 1 = some 1 ∧ ¬ x < 0 ∧ x < 2 ∧ ¬ (2 : Int32) ≤ x) ∨ (fX8_in x 0 1 = some 0 ∧ (x < 0 ∨ (¬ x < 0 ∧ ¬ x < 2 ∧ (2 : Int32) ≤ x))) := by
  unfold fX8_in
  by_cases h0 : x < 0
  · exact Or.inr ⟨by rw [if_pos h0], Or.inl h0⟩
  · obtain ⟨i, hi, rfl⟩ := nI_of h0
    by_cases h2 : i < 2
    · left
      refine ⟨i, h2, rfl, ?_, h0, nI_lt (b := 2) h2 (by decide), nI_ge (b := 2) h2 (by decide)⟩
      rw [if_neg h0, if_neg (show ¬ (1 : Int32) < nI i from nI_nlt (a := 1) (by omega) (by decide))]
    · right
      refine ⟨?_, Or.inr ⟨h0, nI_nlt (b := 2) (by omega) hi, nI_le (a := 2) (by omega) hi⟩⟩
      rw [if_neg h0, if_pos (show (1 : Int32) < nI i from nI_lt (a := 1) (by omega) hi)]
theorem m_keep (h : SR z kd tr m o wd P now) {nx sz : Nat} {hd : Nat → Option SD} {U iK K : Nat → Int32} (hH : HR nx sz hd U) (hK : KR hd iK K) (t8 x : Int32) :
    ∃ r hd' t8' iK' K', fX7_keep z m kd tr o P wd hd x = some (r, hd') ∧ fX8_keep now t8 iK K x = some (r, t8', iK', K') ∧ HR nx sz hd' U ∧ KR hd' iK' K' := by
  unfold fX7_keep fX8_keep
  rcases two_cases x with ⟨i, hi, rfl, e1, e2, e3, -⟩ | ⟨e1, e2⟩
  rotate_left
  · rw [e1, obs, if_pos rfl]
    rcases e2 with e2 | ⟨e2, e3, -⟩
    · rw [if_pos e2]; exact ⟨_, _, _, _, _, rfl, rfl, hH, hK⟩
    · rw [if_neg e2, if_neg e3]; exact ⟨_, _, _, _, _, rfl, rfl, hH, hK⟩
  obtain ⟨d', g1, g2⟩ := cpS7 h ((hd (9 + i)).getD stNew)
  have ez : astZ 2 (nI i) iK 1 = some (upd iK i 1) := astZ_in (b := true) hi (by decide)
  rw [if_neg e2, if_pos e3, nI_clamp (by omega), g1, obs, e1, obs, if_neg n10, ez, obs]
  have e8 : lfix (fX8_keep_b25 now) (fun _ _ _ _ _ => none) FU 0 (upd iK i 1) K (nI i) 0 = some (1, 0, upd iK i 1, fb_put K now (189 * i) 189) := by
    have key := l_acc0 (F := fX8_keep_b25 now) (z := fun _ _ _ _ _ => none) (fun rc c => rc 0 (upd iK i 1) (fb_put K now (189 * i) c) (nI i) (nI c)) 189 (by decide) (some (1, 0, upd iK i 1, fb_put K now (189 * i) 189)) (fun rc c hc => ?_) (fun rc => rfl)
    · rw [fb_put_0] at key
      exact key
    · show fX8_keep_b25 now rc _ _ _ _ _ = _
      unfold fX8_keep_b25
      rw [if_neg (show ¬ (189 : Int32) ≤ nI c from nI_ge hc (by decide)), ald_in hc (by decide), obs, ix189, ast_in (by omega) (by decide), obs, obs, nI_1, fb_put_succ]
  rw [e8]
  refine ⟨_, _, _, _, _, rfl, rfl, ?_, fun j hj => ?_⟩
  · obtain ⟨h1, h2, h3⟩ := hH
    refine ⟨h1, h2, fun j hj => ?_⟩
    rw [va_up_ne hd _ (by omega)]
    exact h3 j hj
  · by_cases hji : j = i
    · subst hji
      refine Or.inr ⟨if_pos rfl, d', va_up_self hd _ _, SRd_cong g2 (fun q hq => ?_)⟩
      rw [fb_put_in (by omega) (by omega), show 189 * j + q - 189 * j = q by omega]
    · rw [va_up_ne hd _ (by omega), show upd iK i 1 j = iK j from if_neg hji]
      rcases hK j hj with ⟨k1, k2⟩ | ⟨k1, d, k2, k3⟩
      · exact Or.inl ⟨k1, k2⟩
      · exact Or.inr ⟨k1, d, k2, SRd_cong k3 (fun q hq => by rw [fb_put_out (by omega)])⟩
theorem m_again (h : SR z kd tr m o wd P now) {nx sz : Nat} {hd : Nat → Option SD} {U iK K : Nat → Int32} (hH : HR nx sz hd U) (hK : KR hd iK K) (t8 x : Int32) :
    ∃ r sz' z' m' kd' tr' o' P' wd' t8' now', fX7_again hd (nI sz) z m kd tr o P wd x = some (r, nI sz', z', m', kd', tr', o', P', wd') ∧ fX8_again iK K t8 (nI sz) now x = some (r, t8', nI sz', now') ∧ SR z' kd' tr' m' o' wd' P' now' ∧ HR nx sz' hd U := by
  unfold fX7_again fX8_again
  rcases two_cases x with ⟨i, hi, rfl, e1, e2, -, e3⟩ | ⟨e1, e2⟩
  rotate_left
  · rw [e1, obs, if_pos rfl]
    rcases e2 with e2 | ⟨e2, -, e3⟩
    · rw [if_pos e2]; exact ⟨_, sz, _, _, _, _, _, _, _, _, _, rfl, rfl, h, hH⟩
    · rw [if_neg e2, if_pos e3]; exact ⟨_, sz, _, _, _, _, _, _, _, _, _, rfl, rfl, h, hH⟩
  rw [if_neg e2, if_neg e3, nI_clamp (by omega), e1, obs, if_neg n10, ald_in hi (by decide), obs]
  rcases hK i hi with ⟨k1, k2⟩ | ⟨k1, d, k2, k3⟩
  · rw [k1, k2, if_pos rfl]
    exact ⟨_, sz, _, _, _, _, _, _, _, _, _, rfl, rfl, h, hH⟩
  · rw [k1, k2, if_neg n10]
    simp only [copy7, bd7, obs]
    have e8 : lfix (fX8_again_b27 iK K) (fun _ _ _ _ _ => none) FU 0 (nI sz) now (nI i) 0 = some (1, 0, 0, fa_fill (fun q => K (189 * i + q)) now 189) := by
      have key := l_acc0 (F := fX8_again_b27 iK K) (z := fun _ _ _ _ _ => none) (fun rc c => rc 0 (nI sz) (fa_fill (fun q => K (189 * i + q)) now c) (nI i) (nI c)) 189 (by decide) (some (1, 0, 0, fa_fill (fun q => K (189 * i + q)) now 189)) (fun rc c hc => ?_) (fun rc => rfl)
      · rw [fa_fill_0] at key
        exact key
      · show fX8_again_b27 iK K rc _ _ _ _ _ = _
        unfold fX8_again_b27
        have e := fa_fill_succ (fun q => K (189 * i + q)) now c
        rw [if_neg (show ¬ (189 : Int32) ≤ nI c from nI_ge hc (by decide)), ix189, ald_in (by omega) (by decide), obs, ast_in hc (by decide), obs, obs, nI_1, e]
    rw [e8]
    refine ⟨_, 0, _, _, _, _, _, _, _, _, _, rfl, rfl, SR_copy k3 (fun q hq => fa_fill_in hq), hH.1, by omega, fun j hj => by omega⟩
end STA
