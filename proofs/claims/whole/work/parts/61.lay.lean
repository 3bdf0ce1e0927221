/-! Labels by the rule over a whole grid. -/
section LAY
def AG35 (now now' : Nat → Int32) : Prop := ∀ q, 1 ≤ q → q < 36 → now' q = now q
/-- the rule of the class and that of the reference -/
def RUL (kd tr : Int32) (o wd : Nat → Int32) (P : Nat → Int64) (now : Nat → Int32) : Prop :=
  now 1 = kd ∧ (kd = 0 ∨ (kd = 1 ∧ ∃ T a w, DG T a w ∧ RX T a w now ∧ tr = nI T ∧ RO T a o ∧ RO T w wd ∧ PUL P (qX T a w)) ∨ (kd = 2 ∧ ∃ M S, MX M S ∧ RMp M now ∧ PUL P (qM M S)))
variable {n : Nat} {m now : Nat → Int32} {kd tr : Int32} {o wd : Nat → Int32} {P : Nat → Int64} {Q : Nat → Nat → Int}
theorem RX_ag {T : Nat} {a w : Nat → Nat} {now' : Nat → Int32} (hD : DG T a w) (h : RX T a w now) (ha : AG35 now now') : RX T a w now' := by
  have hT := hD.1
  refine ⟨by rw [ha 2 (by decide) (by decide)]; exact h.1, fun q hq => ?_⟩
  rw [ha (3 + q) (by omega) (by omega), ha (15 + q) (by omega) (by omega)]
  exact h.2 q hq
theorem RM_ag {M : Nat → Nat} {now' : Nat → Int32} (h : RMp M now) (ha : AG35 now now') : RMp M now' := fun q hq => by
  rw [ha (27 + q) (by omega) (by omega)]; exact h q hq
theorem RUL_ag {now' : Nat → Int32} (h : RUL kd tr o wd P now) (ha : AG35 now now') : RUL kd tr o wd P now' := by
  obtain ⟨h1, h2⟩ := h
  refine ⟨by rw [ha 1 (by decide) (by decide)]; exact h1, ?_⟩
  rcases h2 with h2 | ⟨h2, T, a, w, q1, q2, q3⟩ | ⟨h2, M, S, q1, q2, q3⟩
  · exact Or.inl h2
  · exact Or.inr (Or.inl ⟨h2, T, a, w, q1, RX_ag q1 q2 ha, q3⟩)
  · exact Or.inr (Or.inr ⟨h2, M, S, q1, RM_ag q2 ha, q3⟩)
theorem rul_lab (h : RUL kd tr o wd P now) (hk : ¬ kd = 0) : ∃ Q, PUL P Q ∧ BQ Q ∧ (kd = 1 → ∀ now' n, n < 17 → AG35 now now' → now' 0 = nI n → EX8 now' Q n) ∧ (∀ n i j, n < 17 → 1 ≤ n → i + j ≤ n → lbN kd Q n i j < 3 ∧ 0 < prc n i j (lbN kd Q n i j) ∧ fX4_labelFor kd P (nI n) (nI i) (nI j) = some (nI (lbN kd Q n i j)) ∧ ∀ now', AG35 now now' → now' 0 = nI n → (if kd = 1 then fX8_byExchange now' (nI i) (nI j) else fX8_byMap now' (nI i) (nI j)) = some (nI (lbN kd Q n i j))) := by
  obtain ⟨h1, h2⟩ := h
  rcases h2 with h2 | ⟨h2, T, a, w, hD, hX, q3, q4, q5, q6⟩ | ⟨h2, M, S, hX, hM, hP⟩
  · exact absurd h2 hk
  · subst h2
    refine ⟨qX T a w, q6, qX_bd hD, fun _ now' n hn ha h0 => ex8 hn h0 hD (RX_ag hD hX ha), fun n i j hn hn1 hij => ?_⟩
    obtain ⟨b, hb, hb3, hbp⟩ := bg_some (Q := qX T a w) hn1 hij
    have e : lbN 1 (qX T a w) n i j = b := by
      unfold lbN
      rw [if_neg (by decide), hb]; rfl
    refine ⟨by rw [e]; exact hb3, by rw [e]; exact hbp, lab7 hn hn1 q6 (qX_bd hD) hij (fun e => absurd e (by decide)), fun now' ha h0 => ?_⟩
    rw [if_pos rfl]
    exact byEx8 hn hn1 h0 (ex8 hn h0 hD (RX_ag hD hX ha)) (qX_bd hD) hij
  · subst h2
    refine ⟨qM M S, hP, qM_bd hX, fun e => absurd e (by decide), fun n i j hn hn1 hij => ?_⟩
    obtain ⟨b, hb, hb3, hbp⟩ := fg_some hX hn hn1 hij
    have e : lbN 2 (qM M S) n i j = b := by
      unfold lbN
      rw [if_pos rfl, hb]; rfl
    refine ⟨by rw [e]; exact hb3, by rw [e]; exact hbp, lab7 hn hn1 hP (qM_bd hX) hij (fun _ => ⟨b, hb⟩), fun now' ha h0 => ?_⟩
    rw [if_neg (by decide)]
    exact byMap8 hn hn1 h0 hX (RM_ag hM ha) hij
def lbP (kd : Int32) (Q : Nat → Nat → Int) (n p : Nat) : Nat := lbN kd Q n (iP n p) (jP n p)
theorem lbP_pl (hn : n < 17) {i j : Nat} (hij : i + j ≤ n) : lbP kd Q n (pl n i j) = lbN kd Q n i j := by
  unfold lbP
  rw [iP_pl n hn i (by omega) j (by omega), jP_pl n hn i (by omega) j (by omega)]
theorem layOn7 (hn : n < 17) (hlab : ∀ i j, i + j ≤ n → fX4_labelFor kd P (nI n) (nI i) (nI j) = some (nI (lbN kd Q n i j))) : fX4_layOn kd P (nI n) m = some (fa_fill (fun p => nI (lbP kd Q n p)) m (pts n)) := by
  unfold fX4_layOn
  have key := l_tri (F1 := fX4_layOn_b2 kd P (nI n)) (z1 := fun _ _ => none) (G := fX4_layOn_b12 kd P (nI n)) (z2 := fun _ _ _ => none) hn (fun rc i => rc (fa_fill (fun p => nI (lbP kd Q n p)) m (pl n i 0)) (nI i)) (fun rc i j => rc (fa_fill (fun p => nI (lbP kd Q n p)) m (pl n i j)) (nI i) (nI j)) (fun rc i hi => ?_) (fun rc r i j hi hj => ?_) (fun rc r i hi => ?_) (some (fa_fill (fun p => nI (lbP kd Q n p)) m (pts n))) (fun rc => ?_)
  · rw [pl00, fa_fill_0] at key
    exact key
  · show fX4_layOn_b2 kd P (nI n) rc _ _ = _
    unfold fX4_layOn_b2
    rw [if_neg (nI_nlt hi (by omega))]; rfl
  · show fX4_layOn_b12 kd P (nI n) rc r _ _ _ = _
    unfold fX4_layOn_b12
    rw [pk_sub hi, if_neg (nI_nlt hj (by omega)), hlab i j (by omega), obs, put7 hn (by omega), obs, obs, nI_1, ← lbP_pl hn (show i + j ≤ n by omega)]
    have e := fa_fill_succ (fun p => nI (lbP kd Q n p)) m (pl n i j)
    rw [e]; rfl
  · show fX4_layOn_b12 kd P (nI n) rc r _ _ _ = _
    unfold fX4_layOn_b12
    rw [pk_sub hi, if_pos (nI_lt (by omega) (by omega)), obs, nI_1, pl_next n hn i (by omega) hi]
  · show fX4_layOn_b2 kd P (nI n) rc _ _ = _
    unfold fX4_layOn_b2
    rw [if_pos (nI_lt (by omega) (by omega)), pl_end n hn]
theorem put_ag (G : Nat → Int32) (c : Nat) : AG35 now (fb_put now G 36 c) := fun q h1 h2 => fb_put_out (Or.inl h2)
theorem layRule8 (hn : n < 17) (h0 : now 0 = nI n) (hk : now 1 = kd) (hlab : ∀ i j, i + j ≤ n → ∀ now', AG35 now now' → now' 0 = nI n → (if kd = 1 then fX8_byExchange now' (nI i) (nI j) else fX8_byMap now' (nI i) (nI j)) = some (nI (lbN kd Q n i j))) : fX8_layRule now = some (fb_put now (fun p => nI (lbP kd Q n p)) 36 (pts n)) := by
  have h153 := pts_le n hn
  unfold fX8_layRule
  have hz : ∀ c, fb_put now (fun p => nI (lbP kd Q n p)) 36 c 0 = nI n := fun c => by rw [fb_put_out (Or.inl (by decide)), h0]
  have hz1 : ∀ c, ald 189 1 (fb_put now (fun p => nI (lbP kd Q n p)) 36 c) = some kd := fun c => by
    have : ald 189 1 (fb_put now (fun p => nI (lbP kd Q n p)) 36 c) = some (fb_put now (fun p => nI (lbP kd Q n p)) 36 c 1) := ald_in (i := 1) (by decide) (by decide)
    rw [this, fb_put_out (Or.inl (by decide)), hk]
  have key := l_tri (F1 := fX8_layRule_b2) (z1 := fun _ _ => none) (G := fX8_layRule_b12) (z2 := fun _ _ _ => none) hn (fun rc i => rc (fb_put now (fun p => nI (lbP kd Q n p)) 36 (pl n i 0)) (nI i)) (fun rc i j => rc (fb_put now (fun p => nI (lbP kd Q n p)) 36 (pl n i j)) (nI i) (nI j)) (fun rc i hi => ?_) (fun rc r i j hi hj => ?_) (fun rc r i hi => ?_) (some (fb_put now (fun p => nI (lbP kd Q n p)) 36 (pts n))) (fun rc => ?_)
  · rw [pl00, fb_put_0] at key
    exact key
  · show fX8_layRule_b2 rc _ _ = _
    unfold fX8_layRule_b2
    rw [n8 (hz _), obs, if_neg (nI_nlt hi (by omega))]; rfl
  · show fX8_layRule_b12 rc r _ _ _ = _
    unfold fX8_layRule_b12 fX8_layRule_b60
    have hp := pts_pl n hn i (by omega) hi j (by omega) hj
    have hl := hlab i j (by omega) (fb_put now (fun p => nI (lbP kd Q n p)) 36 (pl n i j)) (put_ag _ _) (hz _)
    rw [n8 (hz _), obs, pk_sub hi, if_neg (nI_nlt hj (by omega)), pl8 hn (hz _) (by omega) (by omega), obs, hz1, obs]
    have e := fb_put_succ now (fun p => nI (lbP kd Q n p)) 36 (pl n i j)
    have e1 : ast 189 ((36 : Int32) + nI (pl n i j)) (fb_put now (fun p => nI (lbP kd Q n p)) 36 (pl n i j)) (nI (lbN kd Q n i j)) = some (fb_put now (fun p => nI (lbP kd Q n p)) 36 (pl n i j + 1)) := by
      rw [ast36 (by omega), ← lbP_pl hn (show i + j ≤ n by omega), e]
    by_cases h1 : kd = 1
    · rw [if_pos h1] at hl ⊢
      rw [hl, obs, e1, obs, obs, nI_1]; rfl
    · rw [if_neg h1] at hl ⊢
      rw [hl, obs, e1, obs, obs, nI_1]; rfl
  · show fX8_layRule_b12 rc r _ _ _ = _
    unfold fX8_layRule_b12
    rw [n8 (hz _), obs, pk_sub hi, if_pos (nI_lt (by omega) (by omega)), obs, nI_1, pl_next n hn i (by omega) hi]
  · show fX8_layRule_b2 rc _ _ = _
    unfold fX8_layRule_b2
    rw [n8 (hz _), obs, if_pos (nI_lt (by omega) (by omega)), pl_end n hn]
/-- laying anew on a grid, in the reference -/
theorem goGrid8 (hn : n < 17) (hk : now 1 = kd) (hlab : ∀ i j, i + j ≤ n → ∀ now', AG35 now now' → now' 0 = nI n → (if kd = 1 then fX8_byExchange now' (nI i) (nI j) else fX8_byMap now' (nI i) (nI j)) = some (nI (lbN kd Q n i j))) : ∃ now', fX8_goGrid now (nI n) = some now' ∧ now' 0 = nI n ∧ AG35 now now' ∧ (∀ p, p < pts n → now' (36 + p) = nI (lbP kd Q n p)) ∧ ∀ q, 189 ≤ q → now' q = now q := by
  have h153 := pts_le n hn
  let N1 : Nat → Int32 := upd (fb_put now (fun _ => 0) 36 153) 0 (nI n)
  have a1 : AG35 now N1 := fun q h1 h2 => by
    show upd (fb_put now (fun _ => 0) 36 153) 0 (nI n) q = _
    unfold upd
    rw [if_neg (by omega), fb_put_out (Or.inl h2)]
  have z1 : N1 0 = nI n := if_pos rfl
  have hr := layRule8 (Q := Q) hn z1 (show N1 1 = kd by rw [a1 1 (by decide) (by decide), hk]) (fun i j hij now' ha h0 => hlab i j hij now' (fun q h1 h2 => by rw [ha q h1 h2, a1 q h1 h2]) h0)
  refine ⟨fb_put N1 (fun p => nI (lbP kd Q n p)) 36 (pts n), ?_, ?_, ?_, ?_, ?_⟩
  · unfold fX8_goGrid
    have key := l_acc0 (F := fX8_goGrid_b2) (z := fun _ _ _ => none) (fun rc c => rc (fb_put now (fun _ => 0) 36 c) (nI n) (nI c)) 153 (by decide) (some (fb_put N1 (fun p => nI (lbP kd Q n p)) 36 (pts n))) (fun rc c hc => ?_) (fun rc => ?_)
    · rw [fb_put_0] at key
      exact key
    · show fX8_goGrid_b2 rc _ _ _ = _
      unfold fX8_goGrid_b2
      have e := fb_put_succ now (fun _ => 0) 36 c
      rw [if_neg (show ¬ (153 : Int32) ≤ nI c from nI_ge hc (by decide)), ast36 hc, obs, obs, nI_1, e]
    · show fX8_goGrid_b2 rc _ _ _ = _
      unfold fX8_goGrid_b2
      have e : ast 189 0 (fb_put now (fun _ => 0) 36 153) (nI n) = some N1 := ast_in (i := 0) (by decide) (by decide)
      rw [if_pos (show (153 : Int32) ≤ nI 153 by decide), e, obs, hr, obs]
  · rw [fb_put_out (Or.inl (by decide)), z1]
  · intro q h1 h2
    rw [fb_put_out (Or.inl h2), a1 q h1 h2]
  · intro p hp
    rw [fb_put_in (by omega) (by omega), Nat.add_sub_cancel_left]
  · intro q hq
    rw [fb_put_out (Or.inr (by omega))]
    show upd (fb_put now (fun _ => 0) 36 153) 0 (nI n) q = _
    unfold upd
    rw [if_neg (by omega), fb_put_out (Or.inr (by omega))]
theorem aside8 (A : Nat → Int32) : fX8_layAside now A = some (fa_fill now A 189) := by
  unfold fX8_layAside
  have key := l_acc0 (F := fX8_layAside_b2 now) (z := fun _ _ => none) (fun rc c => rc (fa_fill now A c) (nI c)) 189 (by decide) (some (fa_fill now A 189)) (fun rc c hc => ?_) (fun rc => rfl)
  · rw [fa_fill_0] at key
    exact key
  · show fX8_layAside_b2 now rc _ _ = _
    unfold fX8_layAside_b2
    rw [if_neg (show ¬ (189 : Int32) ≤ nI c from nI_ge hc (by decide)), ald_in hc (by decide), obs, ast_in hc (by decide), obs, obs, nI_1, fa_fill_succ]
theorem back8 {now' : Nat → Int32} (A : Nat → Int32) (h : ∀ q, 189 ≤ q → now' q = now q) : fX8_comesBack (fa_fill now A 189) now' = some now := by
  unfold fX8_comesBack
  have e : fa_fill (fa_fill now A 189) now' 189 = now := by
    funext q
    by_cases h1 : q < 189
    · rw [fa_fill_in h1, fa_fill_in h1]
    · rw [fa_fill_out (by omega), h q (by omega)]
  have key := l_acc0 (F := fX8_comesBack_b2 (fa_fill now A 189)) (z := fun _ _ => none) (fun rc c => rc (fa_fill (fa_fill now A 189) now' c) (nI c)) 189 (by decide) (some now) (fun rc c hc => ?_) (fun rc => ?_)
  · rw [fa_fill_0] at key
    exact key
  · show fX8_comesBack_b2 (fa_fill now A 189) rc _ _ = _
    unfold fX8_comesBack_b2
    rw [if_neg (show ¬ (189 : Int32) ≤ nI c from nI_ge hc (by decide)), ald_in hc (by decide), obs, ast_in hc (by decide), obs, obs, nI_1, fa_fill_succ]
  · show some (fa_fill (fa_fill now A 189) now' 189) = _
    rw [e]
end LAY
