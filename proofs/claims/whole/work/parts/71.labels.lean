/-! labels. -/
section LBL
theorem l_runF {τ ρ : Type} {F : τ → τ} {z : τ} (ap : τ → Nat → ρ) (out : Nat → ρ) (p : Nat → Prop) (N : Nat)
    (hs : ∀ rc i, i < N → ¬ p i → ap (F rc) i = ap rc (i + 1)) (hp : ∀ f i, i < N → p i → ap (F (lfix F z (f + 1))) i = out i) (fin : ρ) (he : ∀ rc, ap (F rc) N = fin) :
    ∀ (k i fuel : Nat), i + k = N → k + 1 < fuel → (∃ j, i ≤ j ∧ j < N ∧ p j ∧ (∀ q, i ≤ q → q < j → ¬ p q) ∧ ap (lfix F z fuel) i = out j) ∨ ((∀ q, i ≤ q → q < N → ¬ p q) ∧ ap (lfix F z fuel) i = fin) := by
  intro k
  induction k with
  | zero =>
    intro i fuel h1 h2
    obtain ⟨f, rfl⟩ : ∃ f, fuel = f + 1 := ⟨fuel - 1, by omega⟩
    have : i = N := by omega
    subst this
    exact Or.inr ⟨fun q h3 h4 => by omega, he _⟩
  | succ k ih =>
    intro i fuel h1 h2
    obtain ⟨f, rfl⟩ : ∃ f, fuel = f + 1 + 1 := ⟨fuel - 2, by omega⟩
    by_cases hq : p i
    · exact Or.inl ⟨i, Nat.le_refl i, by omega, hq, fun q h3 h4 => by omega, hp f i (by omega) hq⟩
    · have e : ap (lfix F z (f + 1 + 1)) i = ap (lfix F z (f + 1)) (i + 1) := hs _ i (by omega) hq
      rcases ih (i + 1) (f + 1) (by omega) (by omega) with ⟨j, a1, a2, a3, a4, a5⟩ | ⟨a1, a2⟩
      · refine Or.inl ⟨j, by omega, a2, a3, fun q h3 h4 => ?_, e.trans a5⟩
        by_cases h5 : q = i
        · subst h5; exact hq
        · exact a4 q (by omega) h4
      · refine Or.inr ⟨fun q h3 h4 => ?_, e.trans a2⟩
        by_cases h5 : q = i
        · subst h5; exact hq
        · exact a1 q (by omega) h4
/-- over all points, ending early, where the end still goes through the loops -/
theorem l_trF {τ1 τ2 ρ : Type} {F1 : τ1 → τ1} {G : τ1 → τ2 → τ2} {z1 : τ1} {z2 : τ2} {n : Nat} (hn : n < 17) (ap1 : τ1 → Nat → ρ) (ap2 : τ2 → Nat → Nat → ρ) (P : Nat → Bool) (out : Nat → ρ)
    (ho : ∀ rc i, i ≤ n → ap1 (F1 rc) i = ap2 (lfix (G rc) z2 FU) i 0)
    (hi : ∀ rc r i j, i ≤ n → j ≤ n - i → P (pl n i j) = false → ap2 (G rc r) i j = ap2 r i (j + 1))
    (hp : ∀ f f' i j, i ≤ n → j ≤ n - i → P (pl n i j) = true → ap2 (G (lfix F1 z1 (f + 1)) (lfix (G (lfix F1 z1 (f + 1))) z2 (f' + 1))) i j = out (pl n i j))
    (hx : ∀ rc r i, i ≤ n → ap2 (G rc r) i (n - i + 1) = ap1 rc (i + 1)) (fin : ρ) (he : ∀ rc, ap1 (F1 rc) (n + 1) = fin) : ap1 (lfix F1 z1 FU) 0 = match fs P (pts n) with | some p => out p | none => fin := by
  have key : ∀ (k i fuel : Nat), i + k = n + 1 → k + 1 < fuel → ((∃ p, pl n i 0 ≤ p ∧ p < pts n ∧ P p = true ∧ (∀ q, pl n i 0 ≤ q → q < p → P q = false) ∧ ap1 (lfix F1 z1 fuel) i = out p) ∨ ((∀ q, pl n i 0 ≤ q → q < pts n → P q = false) ∧ ap1 (lfix F1 z1 fuel) i = fin)) := by
    intro k
    induction k with
    | zero =>
      intro i fuel h1 h2
      obtain ⟨f, rfl⟩ : ∃ f, fuel = f + 1 := ⟨fuel - 1, by omega⟩
      have : i = n + 1 := by omega
      subst this
      refine Or.inr ⟨fun q h3 h4 => ?_, he _⟩
      rw [pl_end n hn] at h3; omega
    | succ k ih =>
      intro i fuel h1 h2
      obtain ⟨f, rfl⟩ : ∃ f, fuel = f + 1 + 1 := ⟨fuel - 2, by omega⟩
      have hin : i ≤ n := by omega
      have e1 : ap1 (lfix F1 z1 (f + 1 + 1)) i = ap2 (lfix (G (lfix F1 z1 (f + 1))) z2 FU) i 0 := ho _ i hin
      have hpl : ∀ j, pl n i j = pl n i 0 + j := fun j => by simp [pl]
      have hnx := pl_next n hn i (by omega) hin
      rcases l_runF (F := G (lfix F1 z1 (f + 1))) (z := z2) (fun r j => ap2 r i j) (fun j => out (pl n i j)) (fun j => P (pl n i j) = true) (n - i + 1) (fun r j hj h3 => hi _ r i j hin (by omega) (by simpa using h3)) (fun f' j hj h3 => hp f f' i j hin (by omega) h3) _ (fun r => hx _ r i hin) (n - i + 1) 0 FU (by omega) (fu_lt (by omega)) with ⟨j, -, a1, a2, a3, a4⟩ | ⟨a1, a2⟩
      · refine Or.inl ⟨pl n i j, by rw [hpl j]; omega, pts_pl n hn i (by omega) hin j (by omega) (by omega), a2, fun q h3 h4 => ?_, e1.trans a4⟩
        have h5 := a3 (q - pl n i 0) (by omega) (by rw [hpl j] at h4; omega)
        rw [hpl (q - pl n i 0), show pl n i 0 + (q - pl n i 0) = q by omega] at h5
        simpa using h5
      · have hrow : ∀ q, pl n i 0 ≤ q → q < pl n (i + 1) 0 → P q = false := fun q h3 h4 => by
          rw [← hnx, hpl (n - i + 1)] at h4
          have h5 := a1 (q - pl n i 0) (by omega) (by omega)
          rw [hpl (q - pl n i 0), show pl n i 0 + (q - pl n i 0) = q by omega] at h5
          simpa using h5
        have hle : pl n i 0 ≤ pl n (i + 1) 0 := by rw [← hnx, hpl (n - i + 1)]; omega
        rcases ih (i + 1) (f + 1) (by omega) (by omega) with ⟨p, b1, b2, b3, b4, b5⟩ | ⟨b1, b2⟩
        · refine Or.inl ⟨p, by omega, b2, b3, fun q h3 h4 => ?_, (e1.trans a2).trans b5⟩
          by_cases h6 : q < pl n (i + 1) 0
          · exact hrow q h3 h6
          · exact b4 q (by omega) h4
        · refine Or.inr ⟨fun q h3 h4 => ?_, (e1.trans a2).trans b2⟩
          by_cases h6 : q < pl n (i + 1) 0
          · exact hrow q h3 h6
          · exact b1 q (by omega) h4
  have h0 : pl n 0 0 = 0 := by simp [pl]
  rcases key (n + 1) 0 FU (by omega) (fu_lt (by omega)) with ⟨p, b1, b2, b3, b4, b5⟩ | ⟨b1, b2⟩
  · rw [b5, fs_some b3 (fun q hq => b4 q (by omega) hq) b2]
  · rw [b2, fs_none (fun q hq => b1 q (by omega) hq)]
variable {L : Nat} {B : Nat → Nat} {sg tx : Nat → Int32} {z kd tr : Int32} {m o wd now : Nat → Int32} {P : Nat → Int64} {nx sz : Nat} {hd : Nat → Option SD} {U iK K : Nat → Int32}
/-- the label told for a point -/
def lvT (L : Nat) (B : Nat → Nat) (c : Nat) : Int32 := oI (dgt L B (2 + c))
def bdT (L : Nat) (B : Nat → Nat) (N c : Nat) : Bool := !okV N c (lvT L B c)
def d3T (L : Nat) (B : Nat → Nat) (c : Nat) : Option Nat := if 2 + c < L ∧ 48 ≤ B (2 + c) ∧ B (2 + c) < 51 then some (B (2 + c) - 48) else none
def v3T (L : Nat) (B : Nat → Nat) (c : Nat) : Int32 := match d3T L B c with | some d => nI d | none => 0
def a3T (L : Nat) (B : Nat → Nat) (c : Nat) : Int32 := match d3T L B c with | some _ => nI (2 + c + 1) | none => nI (2 + c)
theorem d3_some {c d : Nat} (h : d3T L B c = some d) : d < 3 ∧ lvT L B c = nI d := by
  unfold d3T at h
  by_cases h1 : 2 + c < L ∧ 48 ≤ B (2 + c) ∧ B (2 + c) < 51
  · rw [if_pos h1] at h
    cases h
    refine ⟨by omega, ?_⟩
    unfold lvT dgt
    rw [if_pos (by omega)]; rfl
  · rw [if_neg h1] at h; cases h
theorem d3_none {N c : Nat} (h : d3T L B c = none) : okV N c (lvT L B c) = false := by
  cases e : okV N c (lvT L B c) with
  | false => rfl
  | true =>
    obtain ⟨q, hq, e2, -⟩ := okV_some e
    unfold lvT at e2
    cases hd : dgt L B (2 + c) with
    | none => rw [hd] at e2; exact absurd e2.symm (nI_m1 (by omega))
    | some d =>
      rw [hd] at e2
      have h1 := dgt_le hd
      have h2 : d = q := (nI_eq (by omega) (by omega)).mp e2
      unfold d3T at h
      rw [if_pos (by omega)] at h; cases h
theorem labels7 (hT : TX L B sg tx) (zt : Int32) (T : Nat → Int32) : (∃ w zt' T', w < 80 ∧ fX7_readLabels (nI L) sg zt T = some (nI w, zt', T') ∧ ∀ (a8 l8 t8 w8 : Int32) (rd now U W : Nat → Int32) (uM : Int32), ∃ a8' rd', fX8_labels tx a8 l8 t8 (nI L) uM w8 now rd U W = some (-1 - nI w, a8', nI L, 0, 0, uM, nI w, now, rd', U, W)) ∨
    (∃ N, 1 ≤ N ∧ N < 17 ∧ fX7_readLabels (nI L) sg zt T = some (-1, nI N, fa_fill (lvT L B) T (pts N)) ∧ (∀ c, c < pts N → okV N c (lvT L B c) = true) ∧ ∀ (a8 l8 t8 w8 : Int32) (rd now U W : Nat → Int32) (s : Nat), s ≤ 8 → ∃ a8' rd' now', fX8_labels tx a8 l8 t8 (nI L) (nI s) w8 now rd U W = some (nI (pts N), a8', nI L, 0, 0, nI (unS s), -1, now', rd', unU U (fa_fill now W 189) s, fa_fill now W 189) ∧ now' 0 = nI N ∧ now' 1 = 0 ∧ ∀ c, c < pts N → now' (36 + c) = lvT L B c) := by
  have hL := hT.1
  -- a fault that is there already
  have bad : ∀ (w a : Nat) (size : Int32) (l8 : Int32), w < 80 → ¬ size < 0 → ∀ (at8 : Int32) (rd now U W : Nat → Int32) (uM : Int32), fX8_labels_b42 tx at8 (nI L) 0 0 uM (nI w) now rd U W size = some (-1 - nI w, at8, nI L, 0, 0, uM, nI w, now, rd, U, W) := fun w a size l8 hw hsz at8 rd now U W uM => by
    unfold fX8_labels_b42
    rw [lf1]
    generalize lfix (fX8_labels_b46 tx) _ 4095 = R
    unfold fX8_labels_b46 fX8_labels_b158
    rw [if_neg hsz, fine8w (nI_m1 (by omega)), obs, if_pos rfl, right8w (nI_m1 (by omega))]
    simp only [bd2, obs, if_true]
  have dg2 : ∀ (at8 w8 : Int32) , fX8_digits (nI L) tx 0 (-1) 2 = (match dgt L B 0 with | none => some (0, 0, 0) | some d0 => match dgt L B 1 with | none => some (nI (10 * d0), 1, 1) | some d1 => some (nI (10 * d0 + d1), 2, -1)) := fun at8 w8 => by
    unfold fX8_digits
    rw [lf4]
    generalize lfix (fX8_digits_b4 (nI L) tx) _ 4092 = R
    unfold fX8_digits_b4
    have o0 : fX8_oneOf (nI L) tx 0 (-1) 48 10 = _ := one8d hT (p := 0) (by decide)
    have o1 : fX8_oneOf (nI L) tx 1 (-1) 48 10 = _ := one8d hT (p := 1) (by decide)
    rw [if_neg (show ¬ (2 : Int32) ≤ 0 by decide), o0]
    cases h0 : dgt L B 0 with
    | none =>
      have ow : fX8_oneOf (nI L) tx (nI 0) (nI 0) 48 10 = some (0, nI 0, nI 0) := one8w (nI_m1 (by decide)) _ _ _
      simp only [bd3, obs, show (0 : Int32) + 1 = 1 by decide, if_neg (show ¬ (2 : Int32) ≤ 1 by decide), ow, show (1 : Int32) + 1 = 2 by decide, if_pos (show (2 : Int32) ≤ 2 by decide)]
      rfl
    | some d0 =>
      simp only [bd3, obs, show (0 : Int32) + 1 = 1 by decide, if_neg (show ¬ (2 : Int32) ≤ 1 by decide), show nI (0 + 1) = (1 : Int32) from rfl, o1]
      cases h1 : dgt L B 1 with
      | none =>
        simp only [obs, show (1 : Int32) + 1 = 2 by decide, if_pos (show (2 : Int32) ≤ 2 by decide)]
        rw [show (10 : Int32) * 0 + nI d0 = nI d0 by rw [show (10 : Int32) * 0 = nI 0 from rfl, nI_add, Nat.zero_add], Int32.add_zero, show (10 : Int32) = nI 10 from rfl, pk_mul]
      | some d1 =>
        simp only [obs, show (1 : Int32) + 1 = 2 by decide, if_pos (show (2 : Int32) ≤ 2 by decide)]
        rw [show (10 : Int32) * 0 + nI d0 = nI d0 by rw [show (10 : Int32) * 0 = nI 0 from rfl, nI_add, Nat.zero_add], show (10 : Int32) = nI 10 from rfl, pk_mul, nI_add]; rfl
  have i0 : fX6_digit (nI L) sg 0 = some (oI (dgt L B 0)) := digit7 hT (p := 0) (by decide)
  have i1 : fX6_digit (nI L) sg 1 = some (oI (dgt L B 1)) := digit7 hT (p := 1) (by decide)
  have i1' : fX6_digit (nI L) sg (0 + 1) = some (oI (dgt L B 1)) := i1
  unfold fX7_readLabels fX6_twoDigits
  rw [i0, i1, obs, obs, i1', obs, obs]
  cases h0 : dgt L B 0 with
  | none =>
    left
    rw [if_pos oIn]
    refine ⟨0, zt, T, by decide, rfl, fun a8 l8 t8 w8 rd now U W uM => ?_⟩
    unfold fX8_labels fX8_begin
    simp only [bd4, obs]
    rw [dg2 0 0, h0]
    simp only [bd3, obs]
    rw [fine8w (show ¬ (0 : Int32) = -1 by decide), obs, if_pos rfl]
    exact ⟨_, _, bad 0 0 0 0 (by decide) (by decide) _ _ _ _ _ _⟩
  | some d0 =>
    have hd0 := dgt_le h0
    rw [if_neg (oI_e (by omega))]
    cases h1 : dgt L B 1 with
    | none =>
      left
      rw [if_pos oIn]
      refine ⟨1, zt, T, by decide, rfl, fun a8 l8 t8 w8 rd now U W uM => ?_⟩
      unfold fX8_labels fX8_begin
      simp only [bd4, obs]
      rw [dg2 0 0, h0, h1]
      simp only [bd3, obs]
      rw [fine8w (show ¬ (1 : Int32) = -1 by decide), obs, if_pos rfl]
      exact ⟨_, _, bad 1 0 _ 0 (by decide) (nI_pos (by omega)) _ _ _ _ _ _⟩
    | some d1 =>
      have hd1 := dgt_le h1
      have e2 : (10 : Int32) * oI (some d0) + oI (some d1) = nI (10 * d0 + d1) := by
        show (10 : Int32) * nI d0 + nI d1 = _
        rw [show (10 : Int32) = nI 10 from rfl, pk_mul, nI_add]
      rw [if_neg (oI_e (by omega)), e2, obs, obs, obs]
      generalize hN : 10 * d0 + d1 = N at *
      have hin : fX8_in (nI N) 1 10 = some (if 1 ≤ N ∧ N ≤ 10 then 1 else 0) := by
        unfold fX8_in
        by_cases q1 : 1 ≤ N
        · rw [if_neg (show ¬ nI N < 1 from nI_nlt (b := 1) q1 (by omega))]
          by_cases q2 : N ≤ 10
          · rw [if_neg (show ¬ (10 : Int32) < nI N from nI_nlt (a := 10) q2 (by decide)), if_pos ⟨q1, q2⟩]
          · rw [if_pos (show (10 : Int32) < nI N from nI_lt (a := 10) (by omega) (by omega)), if_neg (by omega)]
        · rw [if_pos (show nI N < 1 from nI_lt (b := 1) (by omega) (by decide)), if_neg (by omega)]
      by_cases hNN : 1 ≤ N ∧ N ≤ 10
      rotate_left
      · left
        have hw : (if nI N < 1 then some ((1 : Int32), zt, T) else if nI N ≤ 10 then lfix (fX7_readLabels_b72 (nI L) sg) (fun _ _ _ _ => none) FU (nI N) T 2 0 else some (1, zt, T)) = some (1, zt, T) := by
          by_cases q1 : 1 ≤ N
          · rw [if_neg (show ¬ nI N < 1 from nI_nlt (b := 1) q1 (by omega)), if_neg (show ¬ nI N ≤ 10 from nI_ge (a := 10) (by omega) (by omega))]
          · rw [if_pos (show nI N < 1 from nI_lt (b := 1) (by omega) (by decide))]
        rw [hw]
        refine ⟨1, zt, T, by decide, rfl, fun a8 l8 t8 w8 rd now U W uM => ?_⟩
        unfold fX8_labels fX8_begin
        simp only [bd4, obs]
        rw [dg2 0 0, h0, h1]
        simp only [bd3, obs, hN]
        rw [fine8, obs, if_neg n10, hin, if_neg hNN, obs, if_pos rfl, fault8, obs]
        exact ⟨_, _, bad 1 0 _ 0 (by decide) (nI_pos (by omega)) _ _ _ _ _ _⟩
      have hn : N < 17 := by omega
      have h66 : pts N ≤ 66 := by
        have : ∀ q, q < 11 → pts q ≤ 66 := by decide
        exact this N (by omega)
      rw [if_neg (show ¬ nI N < 1 from nI_nlt (b := 1) hNN.1 (by omega)), if_pos (show nI N ≤ 10 from nI_le (b := 10) hNN.2 (by decide))]
      -- the class
      have e7 := l_trE (F1 := fX7_readLabels_b72 (nI L) sg) (z1 := fun _ _ _ _ => none) (G := fX7_readLabels_b85 (nI L) sg) (z2 := fun _ _ _ _ _ => none) hn (fun rc i => rc (nI N) (fa_fill (lvT L B) T (pl N i 0)) (nI (2 + pl N i 0)) (nI i)) (fun rc i j => rc (nI N) (fa_fill (lvT L B) T (pl N i j)) (nI (2 + pl N i j)) (nI i) (nI j)) (bdT L B N) (fun c => some (nI (2 + c), nI N, fa_fill (lvT L B) T c)) (fun rc i hi => ?_) (fun rc r i j hi hj hq => ?_) (fun rc r i j hi hj hq => ?_) (fun rc r i hi => ?_) (if L ≤ 2 + pts N then some (-1, nI N, fa_fill (lvT L B) T (pts N)) else some (nI (2 + pts N), nI N, fa_fill (lvT L B) T (pts N))) (fun rc => ?_)
      rotate_left
      · show fX7_readLabels_b72 (nI L) sg rc _ _ _ _ = _
        unfold fX7_readLabels_b72
        rw [if_neg (nI_nlt hi (by omega))]; rfl
      · show fX7_readLabels_b85 (nI L) sg rc r _ _ _ _ _ = _
        unfold fX7_readLabels_b85
        have hp := pts_pl N hn i (by omega) hi j (by omega) hj
        have e := fa_fill_succ (lvT L B) T (pl N i j)
        have hc := canV7 hn hp (lvT L B (pl N i j))
        rw [iP_pl N hn i (by omega) j (by omega), jP_pl N hn i (by omega) j (by omega)] at hc
        have hok : okV N (pl N i j) (lvT L B (pl N i j)) = true := by
          unfold bdT at hq
          cases h9 : okV N (pl N i j) (lvT L B (pl N i j)) with
          | true => rfl
          | false => rw [h9] at hq; cases hq
        rw [pk_sub hi, if_neg (nI_nlt hj (by omega)), digit7 hT (by omega), obs, show oI (dgt L B (2 + pl N i j)) = lvT L B (pl N i j) from rfl, hc, obs, ifb, hok, if_pos rfl, obs, put7 hn (by omega), obs, obs, obs, nI_1, nI_1, e]; rfl
      · show fX7_readLabels_b85 (nI L) sg rc r _ _ _ _ _ = _
        unfold fX7_readLabels_b85
        have hp := pts_pl N hn i (by omega) hi j (by omega) hj
        have hc := canV7 hn hp (lvT L B (pl N i j))
        rw [iP_pl N hn i (by omega) j (by omega), jP_pl N hn i (by omega) j (by omega)] at hc
        have hok : okV N (pl N i j) (lvT L B (pl N i j)) = false := by
          unfold bdT at hq
          cases h9 : okV N (pl N i j) (lvT L B (pl N i j)) with
          | false => rfl
          | true => rw [h9] at hq; cases hq
        rw [pk_sub hi, if_neg (nI_nlt hj (by omega)), digit7 hT (by omega), obs, show oI (dgt L B (2 + pl N i j)) = lvT L B (pl N i j) from rfl, hc, obs, ifb, hok, if_neg (by decide)]
      · show fX7_readLabels_b85 (nI L) sg rc r _ _ _ _ _ = _
        unfold fX7_readLabels_b85
        rw [pk_sub hi, if_pos (nI_lt (by omega) (by omega)), obs, nI_1, pl_next N hn i (by omega) hi]
      · show fX7_readLabels_b72 (nI L) sg rc _ _ _ _ = _
        unfold fX7_readLabels_b72
        rw [if_pos (nI_lt (by omega) (by omega)), pl_end N hn]
        by_cases h9 : L ≤ 2 + pts N
        · rw [if_pos (nI_le h9 (by omega)), if_pos h9]
        · rw [if_neg (nI_ge (by omega) (by omega)), if_neg h9]
      rw [pl00, fa_fill_0] at e7
      have e7 : lfix (fX7_readLabels_b72 (nI L) sg) (fun _ _ _ _ => none) FU (nI N) T 2 0 = _ := e7
      rw [e7]
      -- the reference
      have e8 : ∀ (a8 l8 t8 w8 : Int32) (rd now U W : Nat → Int32) (uM : Int32), fX8_labels tx a8 l8 t8 (nI L) uM w8 now rd U W = match fs (bdT L B N) (pts N) with | some c => some (-1 - nI (2 + c), a3T L B c, nI L, 0, 0, uM, nI (2 + c), now, fa_fill (v3T L B) rd (c + 1), U, W) | none => fX8_labels_b158 tx (nI (2 + pts N)) (nI L) 0 0 uM (-1) now (fa_fill (v3T L B) rd (pts N)) U W (nI N) (nI (pts N)) := fun a8 l8 t8 w8 rd now U W uM => by
        unfold fX8_labels fX8_begin
        simp only [bd4, obs]
        rw [dg2 0 0, h0, h1]
        simp only [bd3, obs, hN]
        rw [fine8, obs, if_neg n10, hin, if_pos hNN, obs, if_neg n10]
        unfold fX8_labels_b42
        have key := l_trF (F1 := fX8_labels_b46 tx) (z1 := fun _ _ _ _ _ _ _ _ _ _ _ _ _ => none) (G := fX8_labels_b61 tx) (z2 := fun _ _ _ _ _ _ _ _ _ _ _ _ _ _ => none) hn (fun rc i => rc (nI (2 + pl N i 0)) (nI L) 0 0 uM (-1) now (fa_fill (v3T L B) rd (pl N i 0)) U W (nI N) (nI (pl N i 0)) (nI i)) (fun rc i j => rc (nI (2 + pl N i j)) (nI L) 0 0 uM (-1) now (fa_fill (v3T L B) rd (pl N i j)) U W (nI N) (nI (pl N i j)) (nI i) (nI j)) (bdT L B N) (fun c => some (-1 - nI (2 + c), a3T L B c, nI L, 0, 0, uM, nI (2 + c), now, fa_fill (v3T L B) rd (c + 1), U, W)) (fun rc i hi => ?_) (fun rc r i j hi hj hq => ?_) (fun f f' i j hi hj hq => ?_) (fun rc r i hi => ?_) (fX8_labels_b158 tx (nI (2 + pts N)) (nI L) 0 0 uM (-1) now (fa_fill (v3T L B) rd (pts N)) U W (nI N) (nI (pts N))) (fun rc => ?_)
        · rw [pl00, fa_fill_0] at key
          exact key
        · show fX8_labels_b46 tx rc _ _ _ _ _ _ _ _ _ _ _ _ _ = _
          unfold fX8_labels_b46
          rw [if_neg (nI_nlt hi (by omega)), fine8, obs, if_neg n10]; rfl
        · show fX8_labels_b61 tx rc r _ _ _ _ _ _ _ _ _ _ _ _ _ _ = _
          have hp := pts_pl N hn i (by omega) hi j (by omega) hj
          have e := fa_fill_succ (v3T L B) rd (pl N i j)
          have hok : okV N (pl N i j) (lvT L B (pl N i j)) = true := by
            unfold bdT at hq
            cases h9 : okV N (pl N i j) (lvT L B (pl N i j)) with
            | true => rfl
            | false => rw [h9] at hq; cases hq
          cases hd : d3T L B (pl N i j) with
          | none => rw [d3_none hd] at hok; cases hok
          | some d =>
            obtain ⟨hd3, hld⟩ := d3_some hd
            rw [hld, okV_g hd3, iP_pl N hn i (by omega) j (by omega), jP_pl N hn i (by omega) j (by omega)] at hok
            have hpr : 0 < prc N i j d := of_decide_eq_true hok
            have hone : fX8_oneOf (nI L) tx (nI (2 + pl N i j)) (-1) 48 3 = some (nI d, nI (2 + pl N i j + 1), -1) := by
              have e9 := one8 hT (p := 2 + pl N i j) (a := 48) (c := 3) (by omega) (by decide) (by decide)
              have e9 : fX8_oneOf (nI L) tx (nI (2 + pl N i j)) (-1) 48 3 = _ := e9
              unfold d3T at hd
              by_cases h9 : 2 + pl N i j < L ∧ 48 ≤ B (2 + pl N i j) ∧ B (2 + pl N i j) < 51
              · rw [if_pos h9] at hd; cases hd
                rw [e9, if_pos h9]
              · rw [if_neg h9] at hd; cases hd
            have hv : v3T L B (pl N i j) = nI d := by unfold v3T; rw [hd]
            have fin : ∀ s0 : Int32, ¬ s0 = 0 → fX8_labels_b111 tx rc r (nI (2 + pl N i j + 1)) (nI L) 0 0 uM (-1) now (fa_fill (v3T L B) rd (pl N i j)) U W (nI N) (nI (pl N i j)) (nI i) (nI j) (nI d) s0 = r (nI (2 + pl N i (j + 1))) (nI L) 0 0 uM (-1) now (fa_fill (v3T L B) rd (pl N i (j + 1))) U W (nI N) (nI (pl N i (j + 1))) (nI i) (nI (j + 1)) := fun s0 hs0 => by
              unfold fX8_labels_b111 fX8_labels_b135
              rw [fine8, obs, if_neg n10, if_neg hs0, ast_in (show pl N i j < 720 by omega) (by decide), obs, obs, obs, nI_1, nI_1, ← hv, e]; rfl
            unfold fX8_labels_b61
            rw [pk_sub hi, if_neg (nI_nlt hj (by omega)), fine8, obs, if_neg n10, hone]
            simp only [bd3, obs]
            have h3 : d = 0 ∨ d = 1 ∨ d = 2 := by omega
            rcases h3 with rfl | rfl | rfl
            · rw [if_pos (show nI 0 = (0 : Int32) from rfl)]
              exact fin _ (nI_n0 (by omega) hpr)
            · rw [if_neg (show ¬ nI 1 = (0 : Int32) by decide), if_pos (show nI 1 = (1 : Int32) from rfl)]
              exact fin _ (nI_n0 (by omega) hpr)
            · rw [if_neg (show ¬ nI 2 = (0 : Int32) by decide), if_neg (show ¬ nI 2 = (1 : Int32) by decide), pk_sub hj]
              exact fin _ (nI_n0 (by omega) hpr)
        · show fX8_labels_b61 tx _ _ _ _ _ _ _ _ _ _ _ _ _ _ _ _ = _
          have hp := pts_pl N hn i (by omega) hi j (by omega) hj
          have e := fa_fill_succ (v3T L B) rd (pl N i j)
          have hok : okV N (pl N i j) (lvT L B (pl N i j)) = false := by
            unfold bdT at hq
            cases h9 : okV N (pl N i j) (lvT L B (pl N i j)) with
            | false => rfl
            | true => rw [h9] at hq; cases hq
          -- once wrong, both loops end
          have over : ∀ (at8 : Int32) (rd' : Nat → Int32) (mn : Int32), lfix (fX8_labels_b61 tx (lfix (fX8_labels_b46 tx) (fun _ _ _ _ _ _ _ _ _ _ _ _ _ => none) (f + 1))) (fun _ _ _ _ _ _ _ _ _ _ _ _ _ _ => none) (f' + 1) at8 (nI L) 0 0 uM (nI (2 + pl N i j)) now rd' U W (nI N) mn (nI i) (nI (j + 1)) = some (-1 - nI (2 + pl N i j), at8, nI L, 0, 0, uM, nI (2 + pl N i j), now, rd', U, W) := fun at8 rd' mn => by
            have hrow : ∀ i', i' ≤ 17 → lfix (fX8_labels_b46 tx) (fun _ _ _ _ _ _ _ _ _ _ _ _ _ => none) (f + 1) at8 (nI L) 0 0 uM (nI (2 + pl N i j)) now rd' U W (nI N) mn (nI i') = some (-1 - nI (2 + pl N i j), at8, nI L, 0, 0, uM, nI (2 + pl N i j), now, rd', U, W) := fun i' hi' => by
              rw [lfs]
              generalize lfix (fX8_labels_b46 tx) _ f = R
              unfold fX8_labels_b46 fX8_labels_b158
              rw [fine8w (nI_m1 (by omega)), obs, if_pos rfl, ite_self, right8w (nI_m1 (by omega))]
              simp only [bd2, obs, if_true]
            rw [lfs]
            generalize lfix (fX8_labels_b61 tx (lfix (fX8_labels_b46 tx) (fun _ _ _ _ _ _ _ _ _ _ _ _ _ => none) (f + 1))) _ f' = R
            unfold fX8_labels_b61
            rw [fine8w (nI_m1 (by omega))]
            simp only [obs, nI_1, eq_self, if_true, ite_self]
            exact hrow (i + 1) (by omega)
          generalize hR1 : lfix (fX8_labels_b61 tx (lfix (fX8_labels_b46 tx) (fun _ _ _ _ _ _ _ _ _ _ _ _ _ => none) (f + 1))) (fun _ _ _ _ _ _ _ _ _ _ _ _ _ _ => none) (f' + 1) = R1 at *
          generalize lfix (fX8_labels_b46 tx) (fun _ _ _ _ _ _ _ _ _ _ _ _ _ => none) (f + 1) = R0 at *
          have hone := one8 hT (p := 2 + pl N i j) (a := 48) (c := 3) (by omega) (by decide) (by decide)
          have hone : fX8_oneOf (nI L) tx (nI (2 + pl N i j)) (-1) 48 3 = _ := hone
          unfold fX8_labels_b61
          rw [pk_sub hi, if_neg (nI_nlt hj (by omega)), fine8, obs, if_neg n10, hone]
          cases hd : d3T L B (pl N i j) with
          | none =>
            have hv : v3T L B (pl N i j) = 0 := by unfold v3T; rw [hd]
            have ha : a3T L B (pl N i j) = nI (2 + pl N i j) := by unfold a3T; rw [hd]
            have h9 : ¬ (2 + pl N i j < L ∧ 48 ≤ B (2 + pl N i j) ∧ B (2 + pl N i j) < 48 + 3) := fun h9 => by
              unfold d3T at hd; rw [if_pos (by omega)] at hd; cases hd
            rw [if_neg h9]
            simp only [bd3, obs, if_true]
            unfold fX8_labels_b111 fX8_labels_b135
            have e0 : upd (fa_fill (v3T L B) rd (pl N i j)) (pl N i j) 0 = fa_fill (v3T L B) rd (pl N i j + 1) := by
              have e' := e
              rw [hv] at e'; exact e'
            rw [fine8w (nI_m1 (by omega)), obs, if_pos rfl, ast_in (show pl N i j < 720 by omega) (by decide), obs, obs, obs, nI_1, nI_1, e0, over, ha]
          | some d =>
            obtain ⟨hd3, hld⟩ := d3_some hd
            have hv : v3T L B (pl N i j) = nI d := by unfold v3T; rw [hd]
            have ha : a3T L B (pl N i j) = nI (2 + pl N i j + 1) := by unfold a3T; rw [hd]
            rw [hld, okV_g hd3, iP_pl N hn i (by omega) j (by omega), jP_pl N hn i (by omega) j (by omega)] at hok
            have hpr : prc N i j d = 0 := by
              have := of_decide_eq_false hok
              omega
            have h9 : 2 + pl N i j < L ∧ 48 ≤ B (2 + pl N i j) ∧ B (2 + pl N i j) < 48 + 3 ∧ B (2 + pl N i j) - 48 = d := by
              unfold d3T at hd
              by_cases h9 : 2 + pl N i j < L ∧ 48 ≤ B (2 + pl N i j) ∧ B (2 + pl N i j) < 51
              · rw [if_pos h9] at hd; cases hd; omega
              · rw [if_neg h9] at hd; cases hd
            rw [if_pos ⟨h9.1, h9.2.1, h9.2.2.1⟩, h9.2.2.2]
            have fin : ∀ s0 : Int32, s0 = 0 → fX8_labels_b111 tx R0 R1 (nI (2 + pl N i j + 1)) (nI L) 0 0 uM (-1) now (fa_fill (v3T L B) rd (pl N i j)) U W (nI N) (nI (pl N i j)) (nI i) (nI j) (nI d) s0 = some (-1 - nI (2 + pl N i j), a3T L B (pl N i j), nI L, 0, 0, uM, nI (2 + pl N i j), now, fa_fill (v3T L B) rd (pl N i j + 1), U, W) := fun s0 hs0 => by
              unfold fX8_labels_b111 fX8_labels_b135
              rw [fine8, obs, if_neg n10, if_pos hs0, fault8, obs, show nI (2 + pl N i j + 1) - 1 = nI (2 + pl N i j) from nI_pred _, ast_in (show pl N i j < 720 by omega) (by decide), obs, obs, obs, nI_1, nI_1, ← hv, e, over, ha]
            simp only [bd3, obs]
            have h3 : d = 0 ∨ d = 1 ∨ d = 2 := by omega
            rcases h3 with rfl | rfl | rfl
            · rw [if_pos (show nI 0 = (0 : Int32) from rfl)]
              exact fin _ (by rw [show i = 0 from hpr]; rfl)
            · rw [if_neg (show ¬ nI 1 = (0 : Int32) by decide), if_pos (show nI 1 = (1 : Int32) from rfl)]
              exact fin _ (by rw [show j = 0 from hpr]; rfl)
            · rw [if_neg (show ¬ nI 2 = (0 : Int32) by decide), if_neg (show ¬ nI 2 = (1 : Int32) by decide), pk_sub hj]
              exact fin _ (by rw [show N - i - j = 0 from hpr]; rfl)
        · show fX8_labels_b61 tx rc r _ _ _ _ _ _ _ _ _ _ _ _ _ _ = _
          unfold fX8_labels_b61
          rw [pk_sub hi, if_pos (nI_lt (by omega) (by omega)), obs, nI_1, pl_next N hn i (by omega) hi]
        · show fX8_labels_b46 tx rc _ _ _ _ _ _ _ _ _ _ _ _ _ = _
          unfold fX8_labels_b46
          rw [if_pos (nI_lt (by omega) (by omega)), pl_end N hn]
      cases hF : fs (bdT L B N) (pts N) with
      | some c =>
        have hc := (fs_lt hF).1
        left
        refine ⟨2 + c, _, _, by omega, rfl, fun a8 l8 t8 w8 rd now U W uM => ?_⟩
        rw [e8, hF]
        exact ⟨_, _, rfl⟩
      | none =>
        simp only
        by_cases h9 : L ≤ 2 + pts N
        rotate_left
        · left
          rw [if_neg h9]
          refine ⟨2 + pts N, _, _, by omega, rfl, fun a8 l8 t8 w8 rd now U W uM => ?_⟩
          rw [e8, hF]
          unfold fX8_labels_b158
          simp only
          rw [right8 (by omega) hL, if_neg h9]
          simp only [bd2, obs, if_true]
          exact ⟨_, _, rfl⟩
        right
        rw [if_pos h9]
        have hok : ∀ c, c < pts N → okV N c (lvT L B c) = true := fun c hc => by
          rcases fs_cases (bdT L B N) (pts N) with ⟨j, -, -, -, q⟩ | ⟨q, -⟩
          · rw [hF] at q; cases q
          · have := q c hc
            unfold bdT at this
            cases h8 : okV N c (lvT L B c) with
            | true => rfl
            | false => rw [h8] at this; cases this
        refine ⟨N, hNN.1, hn, rfl, hok, fun a8 l8 t8 w8 rd now U W s hs => ?_⟩
        rw [e8, hF]
        unfold fX8_labels_b158
        simp only
        have a0 : ast 189 0 now (nI N) = some (upd now 0 (nI N)) := ast_in (i := 0) (by decide) (by decide)
        rw [right8 (by omega) hL, if_pos h9]
        simp only [bd2, obs, if_neg n10]
        rw [change8 _ _ hs]
        simp only [bd3, obs]
        rw [a0, obs, ast1, obs]
        refine ⟨nI (2 + pts N), fa_fill (v3T L B) rd (pts N), fb_put (upd (upd now 0 (nI N)) 1 0) (fun c => if c < pts N then v3T L B c else 0) 36 153, ?_, ?_, ?_, fun c hc => ?_⟩
        · have key := l_acc0 (F := fX8_labels_b192 tx) (z := fun _ _ _ _ _ _ _ _ _ _ _ _ => none) (fun rc c => rc (nI (2 + pts N)) (nI L) 0 0 (nI (unS s)) (-1) (fb_put (upd (upd now 0 (nI N)) 1 0) (fun c => if c < pts N then v3T L B c else 0) 36 c) (fa_fill (v3T L B) rd (pts N)) (unU U (fa_fill now W 189) s) (fa_fill now W 189) (nI (pts N)) (nI c)) 153 (by decide) (some (nI (pts N), nI (2 + pts N), nI L, 0, 0, nI (unS s), -1, fb_put (upd (upd now 0 (nI N)) 1 0) (fun c => if c < pts N then v3T L B c else 0) 36 153, fa_fill (v3T L B) rd (pts N), unU U (fa_fill now W 189) s, fa_fill now W 189)) (fun rc c hc => ?_) (fun rc => rfl)
          · rw [fb_put_0] at key
            exact key
          · show fX8_labels_b192 tx rc _ _ _ _ _ _ _ _ _ _ _ _ = _
            unfold fX8_labels_b192 fX8_labels_b222
            have e := fb_put_succ (upd (upd now 0 (nI N)) 1 0) (fun c => if c < pts N then v3T L B c else 0) 36 c
            rw [if_neg (show ¬ (153 : Int32) ≤ nI c from nI_ge hc (by decide)), ald_in (show c < 720 by omega) (by decide), obs, ast36 hc, ast36 hc]
            simp only [obs, nI_1]
            by_cases h8 : c < pts N
            · rw [if_neg (nI_ge h8 (by omega)), fa_fill_in h8]
              simp only [if_pos h8] at e
              rw [e]
            · rw [if_pos (nI_le (by omega) (by omega))]
              simp only [if_neg h8] at e
              rw [e]
        · rw [fb_put_out (Or.inl (by decide))]; rfl
        · rw [fb_put_out (Or.inl (by decide))]; rfl
        · have h153 := pts_le N hn
          rw [fb_put_in (by omega) (by omega), Nat.add_sub_cancel_left, if_pos hc]
          cases hd : d3T L B c with
          | none => exact absurd (hok c hc) (by rw [d3_none hd]; decide)
          | some d =>
            unfold v3T
            rw [hd, (d3_some hd).2]
end LBL
