/-! longest, crossed. -/
section LGS
theorem tk_ok {p : Nat → Bool} {n k : Nat} (h : k < fb_ct p n) : tk p n k < n ∧ p (tk p n k) = true ∧ fb_ct p (tk p n k) = k := by
  obtain ⟨u, h1, h2, h3⟩ := fb_ct_kth h
  have e := tk_ct h1 h2
  rw [h3] at e
  rw [e]
  exact ⟨h1, h2, h3⟩
variable {n : Nat} {m now : Nat → Int32} {v : Nat} {l k : Int32} {f g : Nat → Int64}
/-- what one more walk leaves in the reference: came out, length, way, the best so far -/
def lg8 (n : Nat) (m : Nat → Int32) (v t : Nat) (s : Int32 × Int32 × (Nat → Int32) × (Nat × Int32)) : Int32 × Int32 × (Nat → Int32) × (Nat × Int32) :=
  (wx n m v (ws0 n v t) (wL n m v (ws0 n v t)), nI (wL n m v (ws0 n v t)), wy n m v (ws0 n v t) s.2.2.1 (wL n m v (ws0 n v t)), bst n m v t s.2.2.2)
theorem lg8_b (F : Nat → Nat) (s : Int32 × Int32 × (Nat → Int32) × (Nat × Int32)) : ∀ j, (itk (fun k => lg8 n m v (F k)) s j).2.2.2 = itk (fun k => bst n m v (F k)) s.2.2.2 j := by
  intro j
  induction j with
  | zero => rfl
  | succ j ih => rw [itk, itk, ← ih]; simp only [lg8]
theorem BL_k : BL n m v = itk (fun k => bst n m v (tk (ob n m v) n k)) (0, -1) (fb_ct (ob n m v) n) := itt_itk (ob n m v) (bst n m v) (0, -1) n n (Nat.le_refl n)
theorem bst_le (F : Nat → Nat) : ∀ j, (itk (fun k => bst n m v (F k)) (0, -1) j).1 ≤ 512 := by
  intro j
  induction j with
  | zero => exact Nat.zero_le _
  | succ j ih =>
    rw [itk]
    have := wL_le n m v (ws0 n v (F j))
    generalize itk (fun k => bst n m v (F k)) (0, -1) j = s at *
    unfold bst
    generalize wL n m v (ws0 n v (F j)) = L at *
    split
    · exact ih
    · exact this
theorem nI_m1 {q : Nat} (h : q < 2 ^ 31) : ¬ nI q = -1 := oI_e h
theorem BL_no (hn : n < 17) (hl : VL n m) (hv : v < 3) : (BL n m v).2 = -1 ↔ fb_ct (ob n m v) n = 0 := by
  have key : ∀ t, t ≤ n → (fb_ct (ob n m v) t = 0 → itt (ob n m v) (bst n m v) (0, -1) t = (0, -1)) ∧ (¬ fb_ct (ob n m v) t = 0 → ¬ (itt (ob n m v) (bst n m v) (0, -1) t).2 = -1) := by
    intro t
    induction t with
    | zero => intro _; exact ⟨fun _ => rfl, fun h => absurd rfl h⟩
    | succ t ih =>
      intro ht
      have h1 := ih (by omega)
      rw [itt, fb_ct_succ]
      cases ho : ob n m v t with
      | false => exact h1
      | true =>
        rw [if_pos rfl, if_pos rfl]
        refine ⟨fun h => by omega, fun _ => ?_⟩
        have hL := wL_ok hn hl hv (show t < n by omega) ho
        have hL1 := hL.1
        have hc := fb_ct_le (ob n m v) t
        generalize itt (ob n m v) (bst n m v) (0, -1) t = s at *
        unfold bst
        generalize wL n m v (ws0 n v t) = L at *
        by_cases h2 : fb_ct (ob n m v) t = 0
        · rw [h1.1 h2, if_neg (show ¬ L ≤ 0 by omega)]
          exact nI_m1 (by omega)
        · split
          · exact h1.2 h2
          · exact nI_m1 (by omega)
  have k := key n (Nat.le_refl n)
  refine ⟨fun h => Classical.byContradiction fun h2 => k.2 h2 h, fun h => ?_⟩
  unfold BL
  rw [k.1 h]
theorem lg_end8 (hn : n < 17) (h : R8 n m now) (T8 oc od w8 : Nat → Int32) (a8 b8 t8 c8 x y : Int32) : lfix (fX8_longest_b99 now) (fun _ _ _ _ _ _ _ _ _ _ _ _ _ _ => none) FU a8 b8 k t8 c8 T8 oc od g w8 x y 0 0 = some (x, a8, b8, nI 2, t8, c8, T8, oc, od, vp_updL (vp_updL g 0 y.toInt64) 1 (nI (fb_ct (fun q => cel n q && decide (T8 q = 0)) (2 * n * n))).toInt64, w8) := by
  have h512 := nbs_le n hn
  refine l_acc0 (F := fX8_longest_b99 now) (fun rc i => rc a8 b8 k t8 c8 T8 oc od g w8 x y (nI (fb_ct (fun q => cel n q && decide (T8 q = 0)) i)) (nI i)) (2 * n * n) (by omega) _ (fun rc i hi => ?_) (fun rc => ?_)
  · show fX8_longest_b99 now rc _ _ _ _ _ _ _ _ _ _ _ _ _ _ = _
    unfold fX8_longest_b99 fX8_longest_b133 fX8_longest_b134
    rw [nbs8 hn h.1, obs, if_neg (nI_ge hi (by omega)), isc8 hn h.1 hi, obs, ifb, ald_in (by omega) (by decide), obs, fb_ct_succ]
    simp only [obs, nI_1]
    cases hcl : cel n i with
    | false => rw [if_neg (by decide), Int32.add_zero]; rfl
    | true =>
      rw [if_pos rfl]
      by_cases h4 : T8 i = 0
      · rw [if_pos h4, decide_eq_true h4]; rfl
      · rw [if_neg h4, decide_eq_false h4, Int32.add_zero]; rfl
  · show fX8_longest_b99 now rc _ _ _ _ _ _ _ _ _ _ _ _ _ _ = _
    unfold fX8_longest_b99
    rw [nbs8 hn h.1, obs, if_pos (nI_le (Nat.le_refl _) (by omega)), tell8_0]
    simp only [bd2, obs, tell8 (q := 1) (by decide)]
theorem lg_end7 (hn : n < 17) (T w : Nat → Int32) (a b c x : Int32) : lfix (fX7_longest_b45 (nI n) m) (fun _ _ _ _ _ _ _ _ _ _ => none) FU a b c T w l f x 0 0 = some (x, a, b, c, T, w, nI 2, vp_updL (vp_updL f 0 c.toInt64) 1 (nI (fb_ct (fun q => cel n q && decide (T q = 0)) (2 * n * n))).toInt64) := by
  have h512 := nbs_le n hn
  refine l_acc0 (F := fX7_longest_b45 (nI n) m) (fun rc i => rc a b c T w l f x (nI (fb_ct (fun q => cel n q && decide (T q = 0)) i)) (nI i)) (2 * n * n) (by omega) _ (fun rc i hi => ?_) (fun rc => ?_)
  · show fX7_longest_b45 (nI n) m rc _ _ _ _ _ _ _ _ _ _ = _
    unfold fX7_longest_b45 fX7_longest_b92 fX7_longest_b93
    rw [nbs7 n hn, obs, if_neg (nI_ge hi (by omega)), isc7 n hn i hi, obs, ifb, seenBy7 (by omega), obs, fb_ct_succ]
    simp only [obs, nI_1]
    cases hcl : cel n i with
    | false => rw [if_neg (by decide), Int32.add_zero]; rfl
    | true =>
      rw [if_pos rfl]
      by_cases h4 : T i = 0
      · rw [if_pos h4, decide_eq_true h4]; rfl
      · rw [if_neg h4, decide_eq_false h4, Int32.add_zero]; rfl
  · show fX7_longest_b45 (nI n) m rc _ _ _ _ _ _ _ _ _ _ = _
    unfold fX7_longest_b45
    rw [nbs7 n hn, obs, if_pos (nI_le (Nat.le_refl _) (by omega)), tell7_2]
    simp only [bd2, obs]
theorem lg_go8 (hn : n < 17) (h : R8 n m now) (hp : SPR n m) (hv : v < 3) (T8 oc od w8 : Nat → Int32) (a8 t8 c8 : Int32) :
    ∃ a8' c8' w8', lfix (fX8_longest_b40 now) (fun _ _ _ _ _ _ _ _ _ _ _ _ _ _ => none) FU a8 (nI (fb_ct (ob n m v) n)) k t8 c8 T8 (gth (fun t => nI (sc n v t)) (ob n m v) oc n) (gth (fun _ => nI ((v + 1) % 3)) (ob n m v) od n) g w8 (nI v) (-1) 0 0 = some ((BL n m v).2, a8', nI (fb_ct (ob n m v) n), nI 2, t8, c8', T8, gth (fun t => nI (sc n v t)) (ob n m v) oc n, gth (fun _ => nI ((v + 1) % 3)) (ob n m v) od n, vp_updL (vp_updL g 0 (nI (BL n m v).1).toInt64) 1 (nI (fb_ct (fun q => cel n q && decide (T8 q = 0)) (2 * n * n))).toInt64, w8') := by
  have h512 := nbs_le n hn
  have hcn := fb_ct_le (ob n m v) n
  refine ⟨(itk (fun k => lg8 n m v (tk (ob n m v) n k)) (a8, c8, w8, (0, -1)) (fb_ct (ob n m v) n)).1, (itk (fun k => lg8 n m v (tk (ob n m v) n k)) (a8, c8, w8, (0, -1)) (fb_ct (ob n m v) n)).2.1, (itk (fun k => lg8 n m v (tk (ob n m v) n k)) (a8, c8, w8, (0, -1)) (fb_ct (ob n m v) n)).2.2.1, ?_⟩
  have hgo := fun s L hs hL a b w => goIn8 (m := m) (v := v) (s := s) (L := L) hn h hp hv hs hL oc od a b w
  have hk : ∀ j, j < fb_ct (ob n m v) n → tk (ob n m v) n j < n ∧ ob n m v (tk (ob n m v) n j) = true ∧ fb_ct (ob n m v) (tk (ob n m v) n j) = j ∧ gth (fun t => nI (sc n v t)) (ob n m v) oc n j = nI (sc n v (tk (ob n m v) n j)) ∧ gth (fun _ => nI ((v + 1) % 3)) (ob n m v) od n j = nI ((v + 1) % 3) := fun j hj => by
    obtain ⟨h1, h2, h3⟩ := tk_ok hj
    refine ⟨h1, h2, h3, ?_, ?_⟩
    · have := gth_at (fun t => nI (sc n v t)) (ob n m v) oc h2 h1
      rw [h3] at this; exact this
    · have := gth_at (fun _ => nI ((v + 1) % 3)) (ob n m v) od h2 h1
      rw [h3] at this; exact this
  generalize gth (fun t => nI (sc n v t)) (ob n m v) oc n = oc' at *
  generalize gth (fun _ => nI ((v + 1) % 3)) (ob n m v) od n = od' at *
  have hb := fun j => lg8_b (n := n) (m := m) (v := v) (tk (ob n m v) n) (a8, c8, w8, (0, -1)) j
  rw [BL_k]
  refine l_acc0 (F := fX8_longest_b40 now) (fun rc i => rc (itk (fun k => lg8 n m v (tk (ob n m v) n k)) (a8, c8, w8, (0, -1)) i).1 (nI (fb_ct (ob n m v) n)) k t8 (itk (fun k => lg8 n m v (tk (ob n m v) n k)) (a8, c8, w8, (0, -1)) i).2.1 T8 oc' od' g (itk (fun k => lg8 n m v (tk (ob n m v) n k)) (a8, c8, w8, (0, -1)) i).2.2.1 (nI v) (itk (fun k => lg8 n m v (tk (ob n m v) n k)) (a8, c8, w8, (0, -1)) i).2.2.2.2 (nI (itk (fun k => lg8 n m v (tk (ob n m v) n k)) (a8, c8, w8, (0, -1)) i).2.2.2.1) (nI i)) (fb_ct (ob n m v) n) (by omega) _ (fun rc i hi => ?_) (fun rc => ?_)
  · show fX8_longest_b40 now rc _ _ _ _ _ _ _ _ _ _ _ _ _ _ = _
    obtain ⟨q1, q2, q3, q4, q5⟩ := hk i hi
    have hs := ws0_sv (m := m) hn hv q1 q2
    have hL := wL_ok hn hp.vl hv q1 q2
    have hL2 := hL.2.1
    unfold fX8_longest_b40
    have e := hgo _ _ hs hL (itk (fun k => lg8 n m v (tk (ob n m v) n k)) (a8, c8, w8, (0, -1)) i).1 (itk (fun k => lg8 n m v (tk (ob n m v) n k)) (a8, c8, w8, (0, -1)) i).2.1 (itk (fun k => lg8 n m v (tk (ob n m v) n k)) (a8, c8, w8, (0, -1)) i).2.2.1
    have hle : (itk (fun k => lg8 n m v (tk (ob n m v) n k)) (a8, c8, w8, (0, -1)) i).2.2.2.1 ≤ 512 := by rw [hb i]; exact bst_le _ i
    rw [if_neg (nI_ge hi (by omega)), ald_in (by omega) (by decide), ald_in (by omega) (by decide), obs, obs, q4, q5]
    rw [show nI (ws0 n v (tk (ob n m v) n i)).1 = nI (sc n v (tk (ob n m v) n i)) from rfl, show nI (ws0 n v (tk (ob n m v) n i)).2 = nI ((v + 1) % 3) from rfl] at e
    rw [e]
    simp only [bd3, obs, nI_1]
    rw [itk]
    generalize itk (fun k => lg8 n m v (tk (ob n m v) n k)) (a8, c8, w8, (0, -1)) i = σ at *
    unfold lg8 bst
    simp only
    by_cases h9 : wL n m v (ws0 n v (tk (ob n m v) n i)) ≤ σ.2.2.2.1
    · rw [if_neg (nI_nlt h9 (by omega)), if_pos h9]
    · rw [if_pos (nI_lt (show σ.2.2.2.1 < wL n m v (ws0 n v (tk (ob n m v) n i)) by omega) (by omega)), if_neg h9, q3]
  · show fX8_longest_b40 now rc _ _ _ _ _ _ _ _ _ _ _ _ _ _ = _
    unfold fX8_longest_b40
    rw [if_pos (nI_le (Nat.le_refl _) (by omega)), lg_end8 hn h, hb]
theorem m_longest (hn : n < 17) (h : R8 n m now) (hp : SPR n m) (hr : RW l f k g) (a b c : Int32) (S w : Nat → Int32) (a8 b8 t8 c8 : Int32) (S8 oc od w8 : Nat → Int32) (x : Int32) :
    ∃ r a' b' c' S' w' l' f' a8' b8' k' t8' c8' S8' oc' od' g' w8', fX7_longest (nI n) m a b c S w l f x = some (r, a', b', c', S', w', l', f') ∧ fX8_longest now a8 b8 k t8 c8 S8 oc od g w8 x = some (r, a8', b8', k', t8', c8', S8', oc', od', g', w8') ∧ RW l' f' k' g' := by
  have h512 := nbs_le n hn
  unfold fX7_longest fX8_longest
  rcases good_cases x with ⟨v, hv, rfl, e1, -, e2⟩ | ⟨e1, -, e2⟩
  rotate_left
  · rw [e1, e2, obs, obs, if_pos rfl, if_pos rfl]
    exact ⟨_, _, _, _, _, _, _, _, _, _, _, _, _, _, _, _, _, _, rfl, rfl, hr⟩
  rw [e1, e2, obs, obs, if_neg (by decide), if_neg (by decide), clear7, clear8, obs, obs]
  obtain ⟨a', b', w', e3⟩ := seeW7 hn hp hv a b c (clr S 512) w
  obtain ⟨a8', c8', w8', e4⟩ := layW8 hn h hp hv a8 b8 c8 (clr S8 512) oc od w8
  rw [e3, e4]
  simp only [bd6, bd7, obs]
  have hno := BL_no hn hp.vl hv
  have hcn := fb_ct_le (ob n m v) n
  by_cases h0 : fb_ct (ob n m v) n = 0
  · rw [if_pos (hno.mpr h0), h0, if_pos (show nI 0 = 0 from rfl)]
    exact ⟨_, _, _, _, _, _, _, _, _, _, _, _, _, _, _, _, _, _, rfl, rfl, hr⟩
  · have h1 : ¬ nI (fb_ct (ob n m v) n) = 0 := fun e => h0 ((nI_eq (a := fb_ct (ob n m v) n) (b := 0) (by omega) (by decide)).mp e)
    rw [if_neg (fun e => h0 (hno.mp e)), if_neg h1, lg_end7 hn]
    obtain ⟨a9, c9, w9, e5⟩ := lg_go8 (k := k) (g := g) hn h hp hv (SN n m v (clr S8 512)) oc od w8' a8' 0 c8'
    rw [e5]
    have hag : AG (SN n m v (clr S 512)) (SN n m v (clr S8 512)) := AG_SN (AG_clr S S8)
    have ec : fb_ct (fun q => cel n q && decide (SN n m v (clr S8 512) q = 0)) (2 * n * n) = fb_ct (fun q => cel n q && decide (SN n m v (clr S 512) q = 0)) (2 * n * n) := fb_ct_cong (fun q hq => by rw [hag q (by omega)])
    rw [ec]
    exact ⟨_, _, _, _, _, _, _, _, _, _, _, _, _, _, _, _, _, _, rfl, rfl, RW.t2 f g _ _⟩
theorem m_crossed (hn : n < 17) (h : R8 n m now) (hp : SPR n m) (a b c : Int32) (S w : Nat → Int32) (a8 b8 t8 c8 : Int32) (S8 oc od w8 : Nat → Int32) :
    ∃ r a' b' c' S' w' l' f' a8' b8' k' t8' c8' S8' oc' od' g' w8', fX7_crossed (nI n) m a b c S w l f = some (r, a', b', c', S', w', l', f') ∧ fX8_crossed now a8 b8 k t8 c8 S8 oc od g w8 = some (r, a8', b8', k', t8', c8', S8', oc', od', g', w8') ∧ RW l' f' k' g' := by
  have h512 := nbs_le n hn
  unfold fX7_crossed fX8_crossed
  rw [clear7, clear8, obs, obs, lf4, lf4]
  obtain ⟨a1, b1, w1, e1⟩ := seeW7 hn hp (v := 0) (by decide) a b c (clr S 512) w
  obtain ⟨a2, b2, w2, e2⟩ := seeW7 hn hp (v := 1) (by decide) a1 b1 (nI (BL n m 0).1) (SN n m 0 (clr S 512)) w1
  obtain ⟨a3, b3, w3, e3⟩ := seeW7 hn hp (v := 2) (by decide) a2 b2 (nI (BL n m 1).1) (SN n m 1 (SN n m 0 (clr S 512))) w2
  obtain ⟨p1, r1, u1, g1⟩ := layW8 hn h hp (v := 0) (by decide) a8 b8 c8 (clr S8 512) oc od w8
  have e1 : fX0_seeWalks (nI n) m a b c (clr S 512) w 0 = _ := e1
  have e2 : fX0_seeWalks (nI n) m a1 b1 (nI (BL n m 0).1) (SN n m 0 (clr S 512)) w1 1 = _ := e2
  have e3 : fX0_seeWalks (nI n) m a2 b2 (nI (BL n m 1).1) (SN n m 1 (SN n m 0 (clr S 512))) w2 2 = _ := e3
  have g1 : fX8_layWalks now a8 b8 c8 (clr S8 512) oc od w8 0 = _ := g1
  generalize hOC1 : gth (fun t => nI (sc n 0 t)) (ob n m 0) oc n = oc1 at g1
  generalize hOD1 : gth (fun _ => nI ((0 + 1) % 3)) (ob n m 0) od n = od1 at g1
  obtain ⟨p2, r2, u2, g2⟩ := layW8 hn h hp (v := 1) (by decide) p1 (nI (fb_ct (ob n m 0) n)) r1 (SN n m 0 (clr S8 512)) oc1 od1 u1
  have g2 : fX8_layWalks now p1 (nI (fb_ct (ob n m 0) n)) r1 (SN n m 0 (clr S8 512)) oc1 od1 u1 1 = _ := g2
  generalize hOC2 : gth (fun t => nI (sc n 1 t)) (ob n m 1) oc1 n = oc2 at g2
  generalize hOD2 : gth (fun _ => nI ((1 + 1) % 3)) (ob n m 1) od1 n = od2 at g2
  obtain ⟨p3, r3, u3, g3⟩ := layW8 hn h hp (v := 2) (by decide) p2 (nI (fb_ct (ob n m 1) n)) r2 (SN n m 1 (SN n m 0 (clr S8 512))) oc2 od2 u2
  have g3 : fX8_layWalks now p2 (nI (fb_ct (ob n m 1) n)) r2 (SN n m 1 (SN n m 0 (clr S8 512))) oc2 od2 u2 2 = _ := g3
  generalize hOC3 : gth (fun t => nI (sc n 2 t)) (ob n m 2) oc2 n = oc3 at g3
  generalize hOD3 : gth (fun _ => nI ((2 + 1) % 3)) (ob n m 2) od2 n = od3 at g3
  have hag : AG (SN n m 2 (SN n m 1 (SN n m 0 (clr S 512)))) (SN n m 2 (SN n m 1 (SN n m 0 (clr S8 512)))) := AG_SN (AG_SN (AG_SN (AG_clr S S8)))
  have hnz : NZ n (SN n m 2 (SN n m 1 (SN n m 0 (clr S 512)))) := NZ_SN hn hp.vl (by decide) (NZ_SN hn hp.vl (by decide) (NZ_SN hn hp.vl (by decide) (NZ_clr n S)))
  unfold fX7_crossed_b9 fX8_crossed_b11
  simp only [if_neg (show ¬ (3 : Int32) ≤ 0 by decide), e1, bd6, obs, show (0 : Int32) + 1 = 1 by decide, if_neg (show ¬ (3 : Int32) ≤ 1 by decide), e2, show (1 : Int32) + 1 = 2 by decide, if_neg (show ¬ (3 : Int32) ≤ 2 by decide), e3, show (2 : Int32) + 1 = 3 by decide, if_pos (show (3 : Int32) ≤ 3 by decide), g1, g2, g3, bd7]
  generalize SN n m 2 (SN n m 1 (SN n m 0 (clr S 512))) = T at *
  generalize SN n m 2 (SN n m 1 (SN n m 0 (clr S8 512))) = T8 at *
  have e7 : lfix (fX7_crossed_b42 (nI n) m) (fun _ _ _ _ _ _ _ _ _ _ => none) FU a3 b3 (nI (BL n m 2).1) T w3 l f 0 0 0 = some (nI (fb_ct (fun q => decide (T q = 7)) (2 * n * n)), a3, b3, nI (BL n m 2).1, T, w3, nI 1, vp_updL f 0 (nI (fb_ct (fun q => decide (T q = 7) && fub n m q) (2 * n * n))).toInt64) := by
    refine l_acc0 (F := fX7_crossed_b42 (nI n) m) (fun rc i => rc a3 b3 (nI (BL n m 2).1) T w3 l f (nI (fb_ct (fun q => decide (T q = 7)) i)) (nI (fb_ct (fun q => decide (T q = 7) && fub n m q) i)) (nI i)) (2 * n * n) (by omega) _ (fun rc i hi => ?_) (fun rc => ?_)
    · show fX7_crossed_b42 (nI n) m rc _ _ _ _ _ _ _ _ _ _ = _
      unfold fX7_crossed_b42 fX7_crossed_b92
      rw [nbs7 n hn, obs, if_neg (nI_ge hi (by omega)), seenBy7 (by omega), obs, turn7 hn hi]
      simp only [obs, nI_1]
      rw [fb_ct_succ, fb_ct_succ]
      by_cases h4 : T i = 7
      · rw [if_pos h4, decide_eq_true h4]
        by_cases h5 : tn n m i = 0
        · rw [if_pos h5, show fub n m i = false by simp [fub, h5], Int32.add_zero]; rfl
        · rw [if_neg h5, show fub n m i = true by simp [fub, h5]]; rfl
      · rw [if_neg h4, decide_eq_false h4]; rfl
    · show fX7_crossed_b42 (nI n) m rc _ _ _ _ _ _ _ _ _ _ = _
      unfold fX7_crossed_b42
      rw [nbs7 n hn, obs, if_pos (nI_le (Nat.le_refl _) (by omega)), tell7]
      simp only [bd2, obs]
  have e8 : lfix (fX8_crossed_b33 now) (fun _ _ _ _ _ _ _ _ _ _ _ _ _ => none) FU p3 (nI (fb_ct (ob n m 2) n)) k 0 r3 T8 oc3 od3 g u3 0 0 0 = some (nI (fb_ct (fun q => decide (T q = 7)) (2 * n * n)), p3, nI (fb_ct (ob n m 2) n), nI 1, 0, r3, T8, oc3, od3, vp_updL g 0 (nI (fb_ct (fun q => decide (T q = 7) && fub n m q) (2 * n * n))).toInt64, u3) := by
    refine l_acc0 (F := fX8_crossed_b33 now) (fun rc i => rc p3 (nI (fb_ct (ob n m 2) n)) k 0 r3 T8 oc3 od3 g u3 (nI (fb_ct (fun q => decide (T q = 7)) i)) (nI (fb_ct (fun q => decide (T q = 7) && fub n m q) i)) (nI i)) (2 * n * n) (by omega) _ (fun rc i hi => ?_) (fun rc => ?_)
    · show fX8_crossed_b33 now rc _ _ _ _ _ _ _ _ _ _ _ _ _ = _
      unfold fX8_crossed_b33 fX8_crossed_b80
      rw [nbs8 hn h.1, obs, if_neg (nI_ge hi (by omega)), isc8 hn h.1 hi, obs, ifb, ald_in (by omega) (by decide), obs, ← hag i (by omega)]
      simp only [obs, nI_1]
      rw [fb_ct_succ, fb_ct_succ]
      cases hcl : cel n i with
      | false =>
        have h4 : ¬ T i = 7 := by rw [hnz i (by omega) hcl]; decide
        rw [if_neg (by decide), decide_eq_false h4]; rfl
      | true =>
        rw [if_pos rfl, full8 hn h hp.vl hcl, obs, ifb]
        by_cases h4 : T i = 7
        · rw [if_pos h4, decide_eq_true h4]
          cases fub n m i with
          | false => rw [if_neg (by decide), Int32.add_zero]; rfl
          | true => rw [if_pos rfl]; rfl
        · rw [if_neg h4, decide_eq_false h4]; rfl
    · show fX8_crossed_b33 now rc _ _ _ _ _ _ _ _ _ _ _ _ _ = _
      unfold fX8_crossed_b33
      rw [nbs8 hn h.1, obs, if_pos (nI_le (Nat.le_refl _) (by omega)), tell8_0]
      simp only [bd2, obs]
  rw [e7, e8]
  exact ⟨_, _, _, _, _, _, _, _, _, _, _, _, _, _, _, _, _, _, rfl, rfl, RW.t1 f g _⟩
end LGS
