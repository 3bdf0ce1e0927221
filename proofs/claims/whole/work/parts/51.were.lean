/-! were. -/
section WRE
variable {n : Nat} {m now : Nat → Int32} {l k : Int32} {f g : Nat → Int64}
set_option maxRecDepth 100000 in
theorem iof8c : ∀ n, n < 17 → ∀ p, p < pts n → fX8_iOf (nc n) (nI p) = some (nI (iP n p)) := by decide +kernel
theorem iof8 (hn : n < 17) (h : now 0 = nI n) {p : Nat} (hp : p < pts n) : fX8_iOf now (nI p) = some (nI (iP n p)) := by
  have e : fX8_iOf_b2 now = fX8_iOf_b2 (nc n) := by
    funext rc a b
    simp only [fX8_iOf_b2, fX8_place, n8 h, n8c]
  rw [show fX8_iOf now (nI p) = fX8_iOf (nc n) (nI p) by unfold fX8_iOf; rw [e]]
  exact iof8c n hn p hp
theorem pl_i0 (hn : n < 17) {p : Nat} (hp : p < pts n) : pl n (iP n p) 0 ≤ p ∧ jP n p = p - pl n (iP n p) 0 := by
  refine ⟨?_, rfl⟩
  have := (pl_ij n hn p hp).1
  have h2 : pl n (iP n p) (jP n p) = pl n (iP n p) 0 + jP n p := by simp [pl]
  omega
theorem jof8 (hn : n < 17) (h : now 0 = nI n) {p : Nat} (hp : p < pts n) : fX8_jOf now (nI p) = some (nI (jP n p)) := by
  have h1 := (pl_ij n hn p hp).2
  unfold fX8_jOf
  rw [iof8 hn h hp, obs, show (0 : Int32) = nI 0 from rfl, pl8 hn h (by omega) (by decide), obs, pk_sub (pl_i0 hn hp).1]; rfl
theorem tn_cong (hn : n < 17) {M M' : Nat → Int32} (h : ∀ q, q < pts n → M q = M' q) (c : Nat) : tn n M c = tn n M' c := by
  unfold tn
  cases hcl : cel n c with
  | false => rfl
  | true =>
    have hc := (cel_ij hcl).1
    unfold tr3
    rw [h _ (co_lt n hn c hc hcl 0 (by decide)), h _ (co_lt n hn c hc hcl 1 (by decide)), h _ (co_lt n hn c hc hcl 2 (by decide))]
theorem fub_cong (hn : n < 17) {M M' : Nat → Int32} (h : ∀ q, q < pts n → M q = M' q) : fub n M = fub n M' := by
  funext c
  unfold fub
  rw [tn_cong hn h]
theorem fmn_cong (hn : n < 17) {M M' : Nat → Int32} (h : ∀ q, q < pts n → M q = M' q) : fmn n M = fmn n M' := by
  unfold fmn
  rw [fub_cong hn h]
theorem tsm_cong (hn : n < 17) {M M' : Nat → Int32} (h : ∀ q, q < pts n → M q = M' q) : tsm n M = tsm n M' := by
  unfold tsm
  exact sI_cong (fun c _ => tn_cong hn h c)
theorem R8.put (h : R8 n m now) {p : Nat} (hp : p < pts n) (x : Int32) : R8 n (upd m p x) (upd now (36 + p) x) := by
  refine ⟨?_, fun q hq => ?_⟩
  · unfold upd
    rw [if_neg (by omega)]; exact h.1
  · unfold upd
    by_cases h1 : q = p
    · rw [if_pos h1, if_pos (by omega)]
    · rw [if_neg h1, if_neg (by omega)]; exact h.2 q hq
theorem VL.put (h : VL n m) (p : Nat) {x : Int32} (hx : x = 0 ∨ x = 1 ∨ x = 2) : VL n (upd m p x) := fun q hq => by
  unfold upd
  by_cases h1 : q = p
  · rw [if_pos h1]; exact hx
  · rw [if_neg h1]; exact h q hq
theorem SPR.put (h : SPR n m) {p v : Nat} (hv : v < 3) (hc : 0 < prc n (iP n p) (jP n p) v) : SPR n (upd m p (nI v)) := fun q hq => by
  unfold upd
  by_cases h1 : q = p
  · rw [if_pos h1, h1]; exact ⟨v, hv, rfl, hc⟩
  · rw [if_neg h1]; exact h q hq
theorem lab_of {v : Nat} (hv : v < 3) : nI v = 0 ∨ nI v = 1 ∨ nI v = 2 := by
  have h3 : v = 0 ∨ v = 1 ∨ v = 2 := by omega
  rcases h3 with rfl | rfl | rfl
  · exact Or.inl rfl
  · exact Or.inr (Or.inl rfl)
  · exact Or.inr (Or.inr rfl)
theorem ast36 {p : Nat} (hp : p < 153) (x : Int32) : ast 189 ((36 : Int32) + nI p) now x = some (upd now (36 + p) x) := by
  rw [show (36 : Int32) = nI 36 from rfl, nI_add, ast_in (by omega) (by decide)]
theorem cpy_in {M T : Nat → Int32} {q : Nat} (h : q < 153) : va_cpy M T 0 0 153 q = M q := sb_cpy0 h
theorem narb (b : Bool) : vp_nar .boolean (bI b) = bI b := by cases b <;> rfl
theorem astZ_in {N i : Nat} {F : Nat → Int32} {b : Bool} (h : i < N) (hN : N < 2 ^ 31) : astZ N (nI i) F (bI b) = some (upd F i (bI b)) := by
  unfold astZ
  rw [narb, ast_in h hN]
theorem m_were (hn : n < 17) (h : R8 n m now) (hl : VL n m) (hr : RW l f k g) (a b c d s : Int32) (T : Nat → Int32) (t8 : Int32) (W : Nat → Int32) (x y z : Int32) :
    ∃ r l' f' a' b' c' s' d' T' k' t8' g' W', fX7_were (nI n) m l f a b c s d T x y z = some (r, l', f', a', b', c', s', d', T') ∧ fX8_were k t8 now g W x y z = some (r, k', t8', now, g', W') ∧ RW l' f' k' g' := by
  have h512 := nbs_le n hn
  have h153 := pts_le n hn
  unfold fX7_were fX8_were
  rcases point_cases hn h.1 x y with ⟨i, j, hij, rfl, rfl, e7, e8⟩ | ⟨e7, e8⟩
  rotate_left
  · rw [e7, e8, obs, obs, if_pos rfl, if_pos rfl]
    exact ⟨_, _, _, _, _, _, _, _, _, _, _, _, _, rfl, rfl, hr⟩
  rw [e7, e8, obs, obs, if_neg (by decide), if_neg (by decide)]
  rcases good_cases z with ⟨v, hv, rfl, e1, e2, -⟩ | ⟨e1, e2, -⟩
  rotate_left
  · rw [e1, e2, obs, obs, if_pos rfl, if_pos rfl]
    exact ⟨_, _, _, _, _, _, _, _, _, _, _, _, _, rfl, rfl, hr⟩
  rw [e1, e2, obs, obs, if_neg (by decide), if_neg (by decide), can7 n hn i (by omega) j (by omega) v hv, can8 hn h.1 hij hv, obs, obs, ifb, ifb]
  by_cases hc : 0 < prc n i j v
  rotate_left
  · rw [decide_eq_false hc, if_neg (by decide), if_neg (by decide)]
    exact ⟨_, _, _, _, _, _, _, _, _, _, _, _, _, rfl, rfl, hr⟩
  rw [decide_eq_true hc, if_pos rfl, if_pos rfl]
  have hp := pts_pl n hn i (by omega) (by omega) j (by omega) (by omega)
  unfold fX1_copy
  simp only [obs, bd2]
  rw [put7 hn hij, obs]
  generalize hMT : upd (va_cpy m T 0 0 153) (pl n i j) (nI v) = MT
  have hMc : ∀ q, q < pts n → MT q = upd m (pl n i j) (nI v) q := fun q hq => by
    rw [← hMT]
    unfold upd
    by_cases h1 : q = pl n i j
    · rw [if_pos h1, if_pos h1]
    · rw [if_neg h1, if_neg h1]; exact cpy_in (by omega)
  have e7 : lfix (fX7_were_b67 (nI n) m) (fun _ _ _ _ _ _ _ _ _ _ _ _ => none) FU l f a b c (nI n) d MT (nI i) (nI j) 0 0 = some (nI (fmn n MT), nI 2, vp_updL (vp_updL f 0 (tsm n MT).toInt64) 1 (nI (fb_ct (rcG n i j (fun c => fub n MT c && !fub n m c)) 6)).toInt64, oI (fs (fub n MT) (2 * n * n)), nI (fmn n MT), oI (ls (fub n MT) (2 * n * n)), nI n, tsm n MT, MT) := by
    refine l_acc0 (F := fX7_were_b67 (nI n) m) (fun rc q => rc l f a b c (nI n) d MT (nI i) (nI j) (nI (fb_ct (rcG n i j (fun c => fub n MT c && !fub n m c)) q)) (nI q)) 6 (by decide) _ (fun rc q hq => ?_) (fun rc => ?_)
    · show fX7_were_b67 (nI n) m rc _ _ _ _ _ _ _ _ _ _ _ _ = _
      unfold fX7_were_b67 fX7_were_b106 fX7_were_b107
      rw [if_neg (show ¬ (6 : Int32) ≤ nI q from nI_ge hq (by decide)), turnR7 hn hij hq, turnR7 hn hij hq, obs, obs, fb_ct_succ]
      simp only [obs, nI_1]
      have e : rcG n i j (fun c => fub n MT c && !fub n m c) q = (match rcN n i j q with | none => false | some c => fub n MT c && !fub n m c) := rfl
      rw [e]
      cases hrc : rcN n i j q with
      | none => simp
      | some c' =>
        by_cases h1 : tn n MT c' = 0
        · have hf : fub n MT c' = false := by simp [fub, h1]
          simp [h1, hf]
        · have hf : fub n MT c' = true := by simp [fub, h1]
          by_cases h2 : tn n m c' = 0
          · have hf2 : fub n m c' = false := by simp [fub, h2]
            simp [h1, hf, h2, hf2]
          · have hf2 : fub n m c' = true := by simp [fub, h2]
            simp [h1, hf, h2, hf2]
    · show fX7_were_b67 (nI n) m rc _ _ _ _ _ _ _ _ _ _ _ _ = _
      unfold fX7_were_b67
      rw [if_pos (show (6 : Int32) ≤ nI 6 by decide), survey7 hn]
      simp only [bd4, tell7_2, bd2, obs]
  have hR2 := h.put hp (nI v)
  have hl2 : VL n (upd m (pl n i j) (nI v)) := hl.put _ (lab_of hv)
  generalize hM2 : upd m (pl n i j) (nI v) = M2 at *
  generalize hN2 : upd now (36 + pl n i j) (nI v) = N2 at *
  have e9 : lfix (fX8_were_b125) (fun _ _ _ _ _ _ _ _ _ _ => none) FU k 0 N2 g (fa_fill (fun q => bI (fub n m q)) W (2 * n * n)) (nI (pl n i j)) (m (pl n i j)) (nI (fmn n M2)) 0 0 = some (nI (fmn n M2), nI 2, 0, now, vp_updL (vp_updL g 0 (tsm n M2).toInt64) 1 (nI (fb_ct (fun c => fub n M2 c && !fub n m c) (2 * n * n))).toInt64, fa_fill (fun q => bI (fub n m q)) W (2 * n * n)) := by
    refine l_acc0 (F := fX8_were_b125) (fun rc q => rc k 0 N2 g (fa_fill (fun q => bI (fub n m q)) W (2 * n * n)) (nI (pl n i j)) (m (pl n i j)) (nI (fmn n M2)) (nI (fb_ct (fun c => fub n M2 c && !fub n m c) q)) (nI q)) (2 * n * n) (by omega) _ (fun rc q hq => ?_) (fun rc => ?_)
    · show fX8_were_b125 rc _ _ _ _ _ _ _ _ _ _ = _
      unfold fX8_were_b125 fX8_were_b168 fX8_were_b169
      rw [nbs8 hn hR2.1, obs, if_neg (nI_ge hq (by omega)), isc8 hn hR2.1 hq, obs, ifb, ald_in (show q < 512 by omega) (by decide), obs, fa_fill_in hq, fb_ct_succ]
      simp only [obs, nI_1]
      cases hcl : cel n q with
      | false => rw [if_neg (by decide), fub_cel hcl, Int32.add_zero]; rfl
      | true =>
        rw [if_pos rfl, full8 hn hR2 hl2 hcl, obs, ifb, ifb]
        cases fub n M2 q with
        | false => rw [if_neg (by decide), Int32.add_zero]; rfl
        | true =>
          rw [if_pos rfl]
          cases fub n m q with
          | false => rw [if_neg (by decide)]; rfl
          | true => rw [if_pos rfl, Int32.add_zero]; rfl
    · show fX8_were_b125 rc _ _ _ _ _ _ _ _ _ _ = _
      unfold fX8_were_b125
      rw [nbs8 hn hR2.1, obs, if_pos (nI_le (Nat.le_refl _) (by omega)), turns8 hn hR2 hl2, obs, tell8_0]
      simp only [bd2, obs, tell8 (q := 1) (by decide), ast36 (show pl n i j < 153 by omega)]
      have : upd N2 (36 + pl n i j) (m (pl n i j)) = now := by
        rw [← hN2, ← h.2 _ hp, upd_back]
      rw [this]
  have e8 : lfix (fX8_were_b41) (fun _ _ _ _ _ _ _ _ _ => none) FU k 0 now g W (nI i) (nI j) (nI v) 0 = some (nI (fmn n M2), nI 2, 0, now, vp_updL (vp_updL g 0 (tsm n M2).toInt64) 1 (nI (fb_ct (fun c => fub n M2 c && !fub n m c) (2 * n * n))).toInt64, fa_fill (fun q => bI (fub n m q)) W (2 * n * n)) := by
    have key := l_acc0 (F := fX8_were_b41) (z := fun _ _ _ _ _ _ _ _ _ => none) (fun rc q => rc k 0 now g (fa_fill (fun q => bI (fub n m q)) W q) (nI i) (nI j) (nI v) (nI q)) (2 * n * n) (by omega) (some (nI (fmn n M2), nI 2, 0, now, vp_updL (vp_updL g 0 (tsm n M2).toInt64) 1 (nI (fb_ct (fun c => fub n M2 c && !fub n m c) (2 * n * n))).toInt64, fa_fill (fun q => bI (fub n m q)) W (2 * n * n))) (fun rc q hq => ?_) (fun rc => ?_)
    · rw [fa_fill_0] at key
      exact key
    · show fX8_were_b41 rc _ _ _ _ _ _ _ _ _ = _
      unfold fX8_were_b41 fX8_were_b78 fX8_were_b79
      have hz : ∀ bb, bb = fub n m q → (astZ 512 (nI q) (fa_fill (fun q => bI (fub n m q)) W q) (bI bb)) = some (fa_fill (fun q => bI (fub n m q)) W (q + 1)) := fun bb hb => by
        rw [astZ_in (show q < 512 by omega) (by decide), hb, fa_fill_succ]
      have hz0 : false = fub n m q → (astZ 512 (nI q) (fa_fill (fun q => bI (fub n m q)) W q) 0) = some (fa_fill (fun q => bI (fub n m q)) W (q + 1)) := hz false
      have hz1 : true = fub n m q → (astZ 512 (nI q) (fa_fill (fun q => bI (fub n m q)) W q) 1) = some (fa_fill (fun q => bI (fub n m q)) W (q + 1)) := hz true
      rw [nbs8 hn h.1, obs, if_neg (nI_ge hq (by omega)), isc8 hn h.1 hq, obs, ifb]
      cases hcl : cel n q with
      | false =>
        rw [if_neg (by decide), hz0 (fub_cel hcl).symm, obs, obs, nI_1]
      | true =>
        rw [if_pos rfl, full8 hn h hl hcl, obs, ifb]
        cases hf : fub n m q with
        | false => rw [if_neg (by decide), hz0 hf.symm, obs, obs, nI_1]
        | true => rw [if_pos rfl, hz1 hf.symm, obs, obs, nI_1]
    · show fX8_were_b41 rc _ _ _ _ _ _ _ _ _ = _
      unfold fX8_were_b41
      rw [nbs8 hn h.1, obs, if_pos (nI_le (Nat.le_refl _) (by omega)), pl8 hn h.1 (by omega) (by omega), obs, lab8 (by omega), obs, h.2 _ hp, ast36 (by omega), obs, hN2, fullMany8 hn hR2 hl2, obs]
      exact e9
  rw [e7, e8]
  have q1 : fmn n MT = fmn n M2 := fmn_cong hn hMc
  have q2 : tsm n MT = tsm n M2 := tsm_cong hn hMc
  have q3 : fb_ct (fun c => fub n M2 c && !fub n m c) (2 * n * n) = fb_ct (rcG n i j (fun c => fub n MT c && !fub n m c)) 6 := by
    rw [fub_cong hn hMc, ← hM2, fresh_ct hn hij]
  rw [q1, q2, q3]
  exact ⟨_, _, _, _, _, _, _, _, _, _, _, _, _, rfl, rfl, RW.t2 f g _ _⟩
end WRE
