/-! walk, step, from. -/
section WLM
set_option maxRecDepth 100000 in
theorem sdp7 : ∀ n, n < 17 → ∀ v, v < 3 → ∀ c, c < 2 * n * n → fX1_sidePlace (nI n) (nI v) (nI c) = some (nI (stp n v c)) := by decide +kernel
variable {n : Nat} {m now : Nat → Int32} {v : Nat} {l k : Int32} {f g : Nat → Int64}
/-- which ints are numbers of outer doors -/
theorem plo_cases (hn : n < 17) (x : Int32) : (∃ t, t < n ∧ ob n m v t = true ∧ x = nI (fb_ct (ob n m v) t) ∧ fb_ct (ob n m v) t < fb_ct (ob n m v) n ∧ plo n m v x = some t ∧ fX8_in x 0 (nI (fb_ct (ob n m v) n) - 1) = some 1) ∨ (plo n m v x = none ∧ fX8_in x 0 (nI (fb_ct (ob n m v) n) - 1) = some 0) := by
  have hcn := fb_ct_le (ob n m v) n
  rcases fs_cases (fun t => ob n m v t && decide (nI (fb_ct (ob n m v) t) = x)) n with ⟨t, h1, h2, h3, h4⟩ | ⟨h1, h2⟩
  · have h5 : ob n m v t = true ∧ nI (fb_ct (ob n m v) t) = x := by simpa using h2
    have hlt : fb_ct (ob n m v) t < fb_ct (ob n m v) n := by
      have e1 : fb_ct (ob n m v) (t + 1) = fb_ct (ob n m v) t + 1 := by rw [fb_ct_succ, h5.1]; rfl
      have := fb_ct_mono (ob n m v) (show t + 1 ≤ n from h1)
      omega
    refine Or.inl ⟨t, h1, h5.1, h5.2.symm, hlt, h4, ?_⟩
    rw [← h5.2]
    unfold fX8_in
    rw [if_neg (nI_pos (by omega)), show (1 : Int32) = nI 1 from rfl, pk_sub (by omega), if_neg (nI_nlt (by omega) (by omega))]
  · refine Or.inr ⟨h2, ?_⟩
    unfold fX8_in
    by_cases hx : x < 0
    · rw [if_pos hx]
    · rw [if_neg hx]
      obtain ⟨j, hj, rfl⟩ := nI_of hx
      rw [if_pos]
      rw [fa_lt, nI_toInt hj, show (1 : Int32) = nI 1 from rfl, pk_sub_toInt (by omega) (by omega)]
      apply Classical.byContradiction
      intro h3
      obtain ⟨t, q1, q2, q3⟩ := fb_ct_kth (p := ob n m v) (k := j) (n := n) (by omega)
      have := h1 t q1
      simp [q2, q3] at this
def ws0 (n v t : Nat) : Nat × Nat := (sc n v t, (v + 1) % 3)
theorem ws0_sv (hn : n < 17) (hv : v < 3) {t : Nat} (ht : t < n) (ho : ob n m v t = true) : SV n m v (ws0 n v t) := ⟨(sc_ok n hn v hv t ht).1, Nat.mod_lt _ (by decide), ho⟩
theorem ws0_L (hn : n < 17) (hl : VL n m) (hv : v < 3) {t : Nat} (ht : t < n) (ho : ob n m v t = true) : ∃ L, WL n m v (ws0 n v t) L :=
  wk_end hn hl hv (ws0_sv hn hv ht ho) (fun u hu h => by
    obtain ⟨-, -, -, h2, -⟩ := wst_some hn hu h
    have := (sc_ok n hn v hv t ht).2.2
    rw [ws0] at h2
    rw [h2] at this; cases this)
theorem last7 {s : Nat × Nat} {L : Nat} (hL : WL n m v s L) (w : Nat → Int32) : fX0_last (nI L) (wy n m v s w L) = some (nI (wc n m v s (L - 1)).1) := by
  have h1 := hL.1
  have h2 := hL.2.1
  unfold fX0_last fX0_cellOfWay
  rw [show (1 : Int32) = nI 1 from rfl, pk_sub h1, if_neg (nI_pos (by omega)), if_neg (nI_ge (show L - 1 < L by omega) (by omega)), if_neg (show ¬ (512 : Int32) ≤ nI (L - 1) from nI_ge (show L - 1 < 512 by omega) (by decide)), ald_in (show L - 1 < 512 by omega) (by decide), obs, obs]
  unfold wy
  rw [if_pos (by omega)]
theorem outDoor7 (hn : n < 17) (hp : SPR n m) (hv : v < 3) {s : Nat × Nat} {L : Nat} (hs : SV n m v s) (hL : WL n m v s L) (w : Nat → Int32) : fX0_outDoor (bI (wo n m v s L)) (nI L) (wy n m v s w L) (nI n) m (nI v) = some (wx n m v s L) := by
  have h1 := hL.1
  unfold fX0_outDoor wx
  rw [ifb]
  have sv := hL.sv hn hs (show L - 1 < L by omega)
  cases h9 : wo n m v s L with
  | false => rfl
  | true =>
    rw [if_pos rfl, if_pos rfl, last7 hL, obs, sdp7 n hn v hv _ (cel_ij sv.1).1, obs]
    have h3 : stp n v (wc n m v s (L - 1)).1 < n := by
      unfold wo at h9
      rcases hL.last with h4 | ⟨e, h4, h5⟩
      · rw [h4] at h9; cases h9
      · obtain ⟨q1, -, q3⟩ := nd_some h4
        exact (rim_door hn hp hv sv.1 q1 h5 q3).2.2.1
    rw [before7 hn hv (by omega), obs]
theorem ald_wy {s : Nat × Nat} {L i : Nat} (hL : L ≤ 512) (hi : i < L) (w : Nat → Int32) : ald 512 (nI i) (wy n m v s w L) = some (nI (wc n m v s i).1) := by
  rw [ald_in (show i < 512 by omega) (by decide)]
  unfold wy
  rw [if_pos hi]
theorem ald_last {s : Nat × Nat} {L : Nat} (hL : WL n m v s L) (w : Nat → Int32) : ald 512 (nI L - 1) (wy n m v s w L) = some (nI (wc n m v s (L - 1)).1) := by
  have h1 := hL.1
  have h2 := hL.2.1
  rw [show (1 : Int32) = nI 1 from rfl, pk_sub h1]
  exact ald_wy h2 (by omega) w
/-- entering by an outer door -/
theorem enter7 (hn : n < 17) (hv : v < 3) {t L : Nat} (ht : t < n) (ho : ob n m v t = true) (hL : WL n m v (ws0 n v t) L) (a b : Int32) (w : Nat → Int32) : fX0_enter (nI n) m a b w (nI v) (nI t) = some (bI (wo n m v (ws0 n v t) L), nI L, wy n m v (ws0 n v t) w L) := by
  unfold fX0_enter
  rw [sdc7 n hn v hv t ht, obs, sde7 hv, obs]
  have := follow7 hn (ws0_sv hn hv ht ho) hL a b w
  rw [ws0] at this ⊢
  rw [this]
  simp only [bd3, obs]
theorem goWalk8 (hn : n < 17) (h : R8 n m now) (hp : SPR n m) (hv : v < 3) (a b c : Int32) (oc od w : Nat → Int32) (x : Int32) :
    (∃ t L, t < n ∧ ob n m v t = true ∧ plo n m v x = some t ∧ WL n m v (ws0 n v t) L ∧ fX8_goWalk now a b c oc od w (nI v) x = some (1, wx n m v (ws0 n v t) L, nI (fb_ct (ob n m v) n), nI L, gth (fun t => nI (sc n v t)) (ob n m v) oc n, gth (fun _ => nI ((v + 1) % 3)) (ob n m v) od n, wy n m v (ws0 n v t) w L)) ∨
    (plo n m v x = none ∧ fX8_goWalk now a b c oc od w (nI v) x = some (0, a, nI (fb_ct (ob n m v) n), c, gth (fun t => nI (sc n v t)) (ob n m v) oc n, gth (fun _ => nI ((v + 1) % 3)) (ob n m v) od n, w)) := by
  have hk : fX8_isKind (nI v) = some 1 := by
    have h3 : v = 0 ∨ v = 1 ∨ v = 2 := by omega
    rcases h3 with rfl | rfl | rfl <;> rfl
  have hcn := fb_ct_le (ob n m v) n
  unfold fX8_goWalk
  rw [hk, obs, if_neg (by decide), layOuter8 hn h hv]
  simp only [bd3, obs]
  rcases plo_cases (m := m) (v := v) hn x with ⟨t, h1, h2, h3, h4, h5, h6⟩ | ⟨h1, h2⟩
  · obtain ⟨L, hL⟩ := ws0_L hn hp.vl hv h1 h2
    refine Or.inl ⟨t, L, h1, h2, h5, hL, ?_⟩
    rw [h6, obs, if_neg (by decide), h3, ald_in (by omega) (by decide), ald_in (by omega) (by decide), obs, obs, gth_at _ _ oc h2 h1, gth_at _ _ od h2 h1]
    have e := goIn8 hn h hp hv (ws0_sv hn hv h1 h2) hL oc od a c w
    rw [ws0] at e ⊢
    rw [e]
    simp only [obs]
  · refine Or.inr ⟨h1, ?_⟩
    rw [h2, obs, if_pos rfl]
theorem m_walk (hn : n < 17) (h : R8 n m now) (hp : SPR n m) (hr : RW l f k g) (a b : Int32) (w : Nat → Int32) (a8 b8 t8 c8 : Int32) (oc od w8 : Nat → Int32) (x y : Int32) :
    ∃ r a' b' w' l' f' a8' b8' k' t8' c8' oc' od' g' w8', fX7_walk (nI n) m a b w l f x y = some (r, a', b', w', l', f') ∧ fX8_walk now a8 b8 k t8 c8 oc od g w8 x y = some (r, a8', b8', k', t8', c8', oc', od', g', w8') ∧ RW l' f' k' g' := by
  unfold fX7_walk fX8_walk
  rcases good_cases x with ⟨v, hv, rfl, e1, -, e2⟩ | ⟨e1, -, e2⟩
  rotate_left
  · unfold fX8_goWalk
    rw [e1, e2, obs, obs, if_pos rfl, if_pos rfl]
    unfold fX7_walk_b27
    rw [if_pos rfl]
    simp only [bd7, obs, if_true]
    exact ⟨_, _, _, _, _, _, _, _, _, _, _, _, _, _, _, rfl, rfl, hr⟩
  rw [e1, obs, if_neg (by decide), placeOf7 hn hv, obs]
  unfold fX7_walk_b27
  rcases goWalk8 hn h hp hv a8 b8 c8 oc od w8 y with ⟨t, L, h1, h2, h3, hL, h4⟩ | ⟨h3, h4⟩
  · have hs := ws0_sv hn hv h1 h2
    have hL1 := hL.1
    have sv := hL.sv hn hs (show L - 1 < L by omega)
    rw [h3, if_neg (oI_e (by omega)), show oI (some t) = nI t from rfl, enter7 hn hv h1 h2 hL, h4]
    simp only [bd3, bd7, obs, if_neg (show ¬ (1 : Int32) = 0 by decide), last7 hL, turn7 hn (cel_ij sv.1).1, ald_last hL, tell8_0, full8 hn h hp.vl sv.1, fX7_walk_b87, fX8_walk_b61, outDoor7 hn hp hv hs hL, bd2, tell7_3, ifb, tell8 (q := 1) (by decide), tell8 (q := 1 + 1) (by decide)]
    have hf : fub n m (wc n m v (ws0 n v t) (L - 1)).1 = decide (¬ tn n m (wc n m v (ws0 n v t) (L - 1)).1 = 0) := rfl
    by_cases h0 : tn n m (wc n m v (ws0 n v t) (L - 1)).1 = 0
    · rw [if_pos h0, hf, if_neg (by simp [h0])]
      exact ⟨_, _, _, _, _, _, _, _, _, _, _, _, _, _, _, rfl, rfl, RW.t3 f g _ _ _⟩
    · rw [if_neg h0, hf, if_pos (by simp [h0])]
      exact ⟨_, _, _, _, _, _, _, _, _, _, _, _, _, _, _, rfl, rfl, RW.t3 f g _ _ _⟩
  · rw [h3, if_pos oIn, h4]
    simp only [bd7, obs, if_true]
    exact ⟨_, _, _, _, _, _, _, _, _, _, _, _, _, _, _, rfl, rfl, hr⟩
theorem m_step (hn : n < 17) (h : R8 n m now) (hp : SPR n m) (a b : Int32) (w : Nat → Int32) (a8 b8 t8 c8 : Int32) (oc od w8 : Nat → Int32) (x y z : Int32) :
    ∃ t' r r' a' b' w' a8' b8' c8' oc' od' w8', fX7_step (nI n) m a b w x y z = some (t', r, a', b', w') ∧ fX8_step now a8 b8 t8 c8 oc od w8 x y z = some (r', a8', b8', t', c8', oc', od', w8') ∧ (t' = 0 → r = r') ∧ (t' = 0 ∨ t' = 1) := by
  unfold fX7_step fX8_step
  rcases good_cases x with ⟨v, hv, rfl, e1, -, e2⟩ | ⟨e1, -, e2⟩
  rotate_left
  · unfold fX8_goWalk
    rw [e1, e2, obs, obs, if_pos rfl, if_pos rfl]
    unfold fX7_step_b27
    rw [if_pos rfl]
    simp only [bd7, obs, if_true]
    unfold fX8_step_b37 fX8_lost
    simp only [bd2, obs]
    exact ⟨_, _, _, _, _, _, _, _, _, _, _, _, rfl, rfl, fun e => absurd e (by decide), Or.inr rfl⟩
  rw [e1, obs, if_neg (by decide), placeOf7 hn hv, obs]
  unfold fX7_step_b27
  rcases goWalk8 hn h hp hv a8 b8 c8 oc od w8 y with ⟨t, L, h1, h2, h3, hL, h4⟩ | ⟨h3, h4⟩
  · have hs := ws0_sv hn hv h1 h2
    have hL1 := hL.1
    have hL2 := hL.2.1
    rw [h3, if_neg (oI_e (by omega)), show oI (some t) = nI t from rfl, enter7 hn hv h1 h2 hL, h4]
    simp only [bd3, bd7, obs, if_neg (show ¬ (1 : Int32) = 0 by decide)]
    unfold fX8_in fX8_step_b37 fX8_lost
    by_cases hz : z < 0
    · rw [if_pos hz, if_pos hz, obs, if_pos rfl]
      simp only [bd2, obs]
      exact ⟨_, _, _, _, _, _, _, _, _, _, _, _, rfl, rfl, fun e => absurd e (by decide), Or.inr rfl⟩
    · obtain ⟨j, hj, rfl⟩ := nI_of hz
      rw [if_neg hz, if_neg hz]
      by_cases h5 : j < L
      · rw [if_pos (nI_lt h5 (by omega)), show (1 : Int32) = nI 1 from rfl, pk_sub hL1, if_neg (nI_nlt (show j ≤ L - 1 by omega) (by omega)), obs, if_neg (by decide)]
        unfold fX0_cellOfWay
        rw [if_neg hz, if_neg (nI_ge h5 (by omega)), if_neg (show ¬ (512 : Int32) ≤ nI j from nI_ge (show j < 512 by omega) (by decide)), ald_wy hL2 h5, obs, obs, ald_wy hL2 h5, obs]
        exact ⟨_, _, _, _, _, _, _, _, _, _, _, _, rfl, rfl, fun _ => rfl, Or.inl rfl⟩
      · rw [if_neg (nI_nlt (by omega) (by omega)), show (1 : Int32) = nI 1 from rfl, pk_sub hL1, if_pos (nI_lt (show L - 1 < j by omega) hj), obs, if_pos rfl]
        simp only [bd2, obs]
        exact ⟨_, _, _, _, _, _, _, _, _, _, _, _, rfl, rfl, fun e => absurd e (by decide), Or.inr rfl⟩
  · rw [h3, if_pos oIn, h4]
    simp only [bd7, obs, if_true]
    unfold fX8_step_b37 fX8_lost
    simp only [bd2, obs]
    exact ⟨_, _, _, _, _, _, _, _, _, _, _, _, rfl, rfl, fun e => absurd e (by decide), Or.inr rfl⟩
end WLM
