/-! inner. -/
section INR
variable {n : Nat} {m now : Nat → Int32} {kd tr : Int32} {o wd : Nat → Int32} {P : Nat → Int64} {l k : Int32} {f g : Nat → Int64}
def rmC (n c : Nat) : Bool := (fs (fun q => rmb n (co n c q)) 3).isSome
theorem apart7 (hn : n < 17) {c : Nat} (hcl : cel n c = true) : fX1_isApart (nI n) (nI c) = some (bI (!rmC n c)) := by
  have hc := (cel_ij hcl).1
  unfold fX1_isApart rmC
  have step : ∀ q, q < 3 → fX1_onRim (nI n) (nI (iP n (co n c q))) (nI (jP n (co n c q))) = some (bI (rmb n (co n c q))) := fun q hq => by
    obtain ⟨h1, h2⟩ := pl_ij n hn _ (co_lt n hn c hc hcl q hq)
    have := rim7 n hn (iP n (co n c q)) (by omega) (jP n (co n c q)) (by omega)
    rw [h1] at this; exact this
  have key := l_fs (F := fX1_isApart_b2 (nI n)) (z := fun _ _ => none) (fun rc q => rc (nI c) (nI q)) (fun _ => some 0) (fun q => rmb n (co n c q)) 3 (by decide) (fun rc q hq hp => ?_) (fun rc q hq hp => ?_) (some 1) (fun rc => rfl)
  · refine key.trans ?_
    cases fs (fun q => rmb n (co n c q)) 3 <;> rfl
  · show fX1_isApart_b2 (nI n) rc _ _ = _
    unfold fX1_isApart_b2
    rw [if_neg (show ¬ (3 : Int32) ≤ nI q from nI_ge hq (by decide)), cnI7 n hn c hc hcl q hq, obs, cnJ7 n hn c hc hcl q hq, obs, step q hq, obs, ifb, hp, if_neg (by decide), obs, nI_1]
  · show fX1_isApart_b2 (nI n) rc _ _ = _
    unfold fX1_isApart_b2
    rw [if_neg (show ¬ (3 : Int32) ≤ nI q from nI_ge hq (by decide)), cnI7 n hn c hc hcl q hq, obs, cnJ7 n hn c hc hcl q hq, obs, step q hq, obs, ifb, hp, if_pos rfl]
theorem touch8 (hn : n < 17) (h : now 0 = nI n) {c : Nat} (hcl : cel n c = true) : fX8_touchesRim now (nI c) = some (bI (rmC n c)) := by
  have hc := (cel_ij hcl).1
  unfold fX8_touchesRim rmC
  have step : ∀ q, q < 3 → fX8_isRim now (nI (iP n (co n c q))) (nI (jP n (co n c q))) = some (bI (rmb n (co n c q))) := fun q hq => by
    obtain ⟨h1, h2⟩ := pl_ij n hn _ (co_lt n hn c hc hcl q hq)
    have := rim8 hn h h2
    rw [h1] at this; exact this
  have key := l_fs (F := fX8_touchesRim_b2 now) (z := fun _ _ => none) (fun rc q => rc (nI c) (nI q)) (fun _ => some 1) (fun q => rmb n (co n c q)) 3 (by decide) (fun rc q hq hp => ?_) (fun rc q hq hp => ?_) (some 0) (fun rc => rfl)
  · refine key.trans ?_
    cases fs (fun q => rmb n (co n c q)) 3 <;> rfl
  · show fX8_touchesRim_b2 now rc _ _ = _
    unfold fX8_touchesRim_b2
    have hl := co_lt n hn c hc hcl q hq
    rw [if_neg (show ¬ (3 : Int32) ≤ nI q from nI_ge hq (by decide)), co8 hn h hc hq, obs, iof8 hn h hl, obs, obs, jof8 hn h hl, obs, step q hq, obs, ifb, hp, if_neg (by decide), obs, nI_1]
  · show fX8_touchesRim_b2 now rc _ _ = _
    unfold fX8_touchesRim_b2
    have hl := co_lt n hn c hc hcl q hq
    rw [if_neg (show ¬ (3 : Int32) ≤ nI q from nI_ge hq (by decide)), co8 hn h hc hq, obs, iof8 hn h hl, obs, obs, jof8 hn h hl, obs, step q hq, obs, ifb, hp, if_pos rfl]
theorem lfs {τ : Type} (F : τ → τ) (z : τ) (q : Nat) : lfix F z (q + 1) = F (lfix F z q) := rfl
theorem inner_ind (sz : Int32) (now0 A : Nat → Int32) (hk : ¬ kd = 0) (hr : RW l f k g) : ∀ (d s fuel : Nat), s + d = 17 → 1 ≤ s → d + 1 < fuel → ∀ (a b c z e : Int32) (T now : Nat → Int32) (y : Int32), RUL kd tr o wd P now → (∀ q, 189 ≤ q → now q = now0 q) →
    ∃ r l' f' a' b' c' z' e' T' k' t8' g', lfix (fX7_inner_b27 sz kd P) (fun _ _ _ _ _ _ _ _ _ => none) fuel l f a b c z e T (nI s) = some (r, l', f', a', b', c', z', e', T') ∧ lfix (fX8_inner_b30) (fun _ _ _ _ _ _ _ _ => none) fuel k 0 (fa_fill now0 A 189) now g (nI s) (-1) y = some (r, k', t8', fa_fill now0 A 189, now0, g') ∧ RW l' f' k' g' := by
  intro d
  induction d with
  | zero =>
    intro s fuel hs hs1 hf a b c z e T now y h h189
    obtain ⟨q, rfl⟩ : ∃ q, fuel = q + 1 := ⟨fuel - 1, by omega⟩
    have : s = 17 := by omega
    subst this
    rw [lfix, lfix]
    generalize lfix (fX7_inner_b27 sz kd P) _ q = R7
    generalize lfix (fX8_inner_b30) _ q = R8
    unfold fX7_inner_b27 fX8_inner_b30 fX8_inner_b73
    rw [if_pos (show (16 : Int32) < nI 17 by decide), if_pos (show (16 : Int32) < nI 17 by decide), back8 A h189, obs, if_pos rfl]
    exact ⟨_, _, _, _, _, _, _, _, _, _, _, _, rfl, rfl, hr⟩
  | succ d ih =>
    intro s fuel hs hs1 hf a b c z e T now y h h189
    obtain ⟨q, rfl⟩ : ∃ q, fuel = q + 1 + 1 := ⟨fuel - 2, by omega⟩
    have hn : s < 17 := by omega
    have h512 := nbs_le s hn
    obtain ⟨m', now', h1, h2, h3, h4, h5, h6⟩ := laid h hk hn hs1 T
    have h7 := RUL_ag h h5
    have h8 : ∀ q, 189 ≤ q → now' q = now0 q := fun q hq => by rw [h6 q hq, h189 q hq]
    have IH := fun a b c z e T y => ih (s + 1) (q + 1) (by omega) (by omega) (by omega) a b c z e T now' y h7 h8
    rw [lfs (fX7_inner_b27 sz kd P) _ (q + 1), lfs (fX8_inner_b30) _ (q + 1)]
    generalize hR7 : lfix (fX7_inner_b27 sz kd P) (fun _ _ _ _ _ _ _ _ _ => none) (q + 1) = R7 at *
    generalize hR8 : lfix (fX8_inner_b30) (fun _ _ _ _ _ _ _ _ => none) (q + 1) = R8' at *
    unfold fX7_inner_b27 fX8_inner_b30 fX7_layTrial
    rw [if_neg (show ¬ (16 : Int32) < nI s from nI_nlt (a := 16) (by omega) (by decide)), if_neg (show ¬ (16 : Int32) < nI s from nI_nlt (a := 16) (by omega) (by decide)), if_pos rfl, h1, h2]
    simp only [obs, bd2]
    rw [survey7 hn, nth8 hn h3 h4.vl, nth0 hn]
    simp only [obs, bd4, nI_1]
    cases hF : fs (fub s m') (2 * s * s) with
    | none =>
      rw [if_pos oIn, if_pos oIn]
      exact IH _ _ _ _ _ _ _
    | some c0 =>
      obtain ⟨f1, f2, -⟩ := fs_lt hF
      have hcl := fub_c f2
      rw [if_neg (oI_e (by omega)), if_neg (oI_e (by omega)), show oI (some c0) = nI c0 from rfl, apart7 hn hcl, touch8 hn h3.1 hcl]
      simp only [obs, ifb]
      cases hrm : rmC s c0 with
      | true =>
        rw [if_neg (show ¬ (!true) = true by decide), if_pos rfl]
        exact IH _ _ _ _ _ _ _
      | false =>
        rw [if_pos (show (!false) = true by decide), if_neg (show ¬ false = true by decide), tell7, ← hR8, lfs]
        simp only [obs]
        generalize lfix (fX8_inner_b30) _ q = R9
        have hb : fX8_inner_b73 k 0 (fa_fill now0 A 189) now' g (nI s) (nI c0) = some (nI s, nI 1, 0, fa_fill now0 A 189, now0, vp_updL g 0 (nI c0).toInt64) := by
          unfold fX8_inner_b73
          rw [back8 A h8, obs, if_neg (nI_m1 (by omega)), tell8_0]
          simp only [bd2, obs]
        have e9 : fX8_inner_b30 R9 k 0 (fa_fill now0 A 189) now' g (nI (s + 1)) (nI s) (nI c0) = some (nI s, nI 1, 0, fa_fill now0 A 189, now0, vp_updL g 0 (nI c0).toInt64) := by
          unfold fX8_inner_b30
          split
          · exact hb
          · rw [if_neg (nI_m1 (by omega))]; exact hb
        rw [e9]
        exact ⟨_, _, _, _, _, _, _, _, _, _, _, _, rfl, rfl, RW.t1 f g _⟩
theorem m_inner (hn : n < 17) (hn1 : 1 ≤ n) (h0 : now 0 = nI n) (h : RUL kd tr o wd P now) (hr : RW l f k g) (a b c s d : Int32) (T : Nat → Int32) (t8 : Int32) (A : Nat → Int32) :
    ∃ r l' f' a' b' c' s' d' T' k' t8' A' g', fX7_inner (nI n) kd P l f a b c s d T = some (r, l', f', a', b', c', s', d', T') ∧ fX8_inner k t8 A now g = some (r, k', t8', A', now, g') ∧ RW l' f' k' g' := by
  unfold fX7_inner fX8_inner
  rw [ald1 h, obs]
  by_cases hk : kd = 0
  · rw [if_pos hk, if_pos hk]
    exact ⟨_, _, _, _, _, _, _, _, _, _, _, _, _, rfl, rfl, hr⟩
  rw [if_neg hk, if_neg hk, aside8, obs, n8 h0, obs]
  obtain ⟨r, l', f', a', b', c', z', e', T', k', t8', g', e1, e2, e3⟩ := inner_ind (nI n) now A hk hr (17 - n) n FU (by omega) hn1 (fu_lt (by omega)) a b c s d T now (-1) h (fun q _ => rfl)
  exact ⟨r, l', f', a', b', c', z', e', T', k', t8', _, g', e1, e2, e3⟩
end INR
