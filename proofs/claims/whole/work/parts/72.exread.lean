/-! labels as a call; reading an exchange. -/
section EXR
variable {L : Nat} {B : Nat → Nat} {sg tx : Nat → Int32} {z kd tr : Int32} {m o wd now : Nat → Int32} {P : Nat → Int64} {nx sz : Nat} {hd : Nat → Option SD} {U iK K : Nat → Int32}
theorem m_labels (h : SR z kd tr m o wd P now) (hH : HR nx sz hd U) (hK : KR hd iK K) (hT : TX L B sg tx) (zt : Int32) (T : Nat → Int32) (W : Nat → Int32) (a8 l8 t8 w8 : Int32) (rd : Nat → Int32) :
    ∃ r nx' sz' z' m' kd' zt' T' hd' r8 a8' l8' t8' uM' w8' now' rd' U' W', fX7_labels tr o P wd sg (nI nx) (nI sz) z m kd (nI L) zt T hd = some (r, nx', sz', z', m', kd', 0, zt', T', hd') ∧ fX8_labels tx a8 l8 t8 (nI L) (nI sz) w8 now rd U W = some (r8, a8', l8', t8', 0, uM', w8', now', rd', U', W') ∧ AF r r8 z' kd' tr nx' sz' m' o wd now' P hd' uM' U' iK K := by
  have hx := hH.1
  have hs := hH.2.1
  unfold fX7_labels
  rcases labels7 hT zt T with ⟨w, zt', T', hw, e1, e2⟩ | ⟨N, hN1, hN, e1, hok, e2⟩
  · obtain ⟨a8', rd', e3⟩ := e2 a8 l8 t8 w8 rd now U W (nI sz)
    rw [e1, e3]
    simp only [bd3, obs]
    rw [if_neg (nI_m1 (by omega))]
    exact ⟨_, _, _, _, _, _, _, _, _, _, _, _, _, _, _, _, _, _, _, rfl, rfl, rfl, h, ⟨nx, sz, rfl, rfl, rfl, hH⟩, hK⟩
  · obtain ⟨a8', rd', now', e3, n0, n1, n2⟩ := e2 a8 l8 t8 w8 rd now U W sz hs
    obtain ⟨hd', g1, g2, d, g3, g4⟩ := note7 h hx hd
    have h153 := pts_le N hN
    rw [e1, e3]
    simp only [bd3, obs, if_true]
    rw [g1, obs, hold7 hx hs]
    unfold fX1_copy
    simp only [bd2, obs, pts7 N hN]
    obtain ⟨n, hn1, hn, rfl, hR, hS, hU⟩ := h
    refine ⟨_, _, _, _, _, _, _, _, _, _, _, _, _, _, _, _, _, _, _, rfl, rfl, rfl, ⟨N, hN1, hN, rfl, ⟨n0, fun p hp => ?_⟩, fun p hp => ?_, ⟨n1, Or.inl rfl⟩⟩, ⟨_, _, rfl, rfl, rfl, HR_hold hH g2 g3 g4 (fun q hq => fa_fill_in hq)⟩, KR_noted hK hx g2⟩
    · rw [n2 p hp, cpyI (by omega), fa_fill_in hp]
    · rw [cpyI (by omega), fa_fill_in hp]
      exact okV_some (hok p hp)
/-- digit r of trader t can't stand there -/
def exB (L : Nat) (B : Nat → Nat) (t r : Nat) : Bool := match dgt L B (7 * t + r) with | none => true | some d => decide (3 ≤ r ∧ d < 1)
def RDx (L : Nat) (B : Nat → Nat) (t : Nat) (rd : Nat → Int32) : Prop := ∀ u, u < t → ∀ r, r < 6 → rd (6 * u + r) = oI (dgt L B (7 * u + r))
theorem pas8 (hT : TX L B sg tx) {p : Nat} (hp : p < 100) : fX8_passes (nI L) (-1) tx (nI p) 59 = if chT L B p = 59 then some (1, nI (p + 1)) else some (0, nI p) := by
  unfold fX8_passes
  rw [fine8, obs, if_neg n10, here8 hT (by omega), obs, obs, nI_1]
theorem pas8w {w : Int32} (hw : ¬ w = -1) (p : Int32) : fX8_passes (nI L) w tx p 59 = some (0, p) := by
  unfold fX8_passes
  rw [fine8w hw, obs, if_pos rfl]
variable (rc : Int32 → Int32 → Int32 → Int32 → Int32 → Int32 → (Nat → Int32) → (Nat → Int32) → (Nat → Int32) → (Nat → Int32) → Int32 → Int32 → Option (Int32 × Int32 × Int32 × Int32 × Int32 × Int32 × Int32 × (Nat → Int32) × (Nat → Int32) × (Nat → Int32) × (Nat → Int32)))
theorem s114w {w : Int32} (hw : ¬ w = -1) (p uM : Int32) (now rd U W : Nat → Int32) (t : Nat) : fX8_exchange_b114 tx rc p (nI L) 0 0 uM w now rd U W (nI t) = rc p (nI L) 0 0 uM w now rd U W (nI (t + 1)) 0 := by
  unfold fX8_exchange_b114
  rw [obs, nI_1, pas8w hw]
  simp only [bd2, obs]
theorem s73w {w : Int32} (hw : ¬ w = -1) (r : Int32 → Int32 → Int32 → Int32 → Int32 → Int32 → (Nat → Int32) → (Nat → Int32) → (Nat → Int32) → (Nat → Int32) → Int32 → Int32 → Option (Int32 × Int32 × Int32 × Int32 × Int32 × Int32 × Int32 × (Nat → Int32) × (Nat → Int32) × (Nat → Int32) × (Nat → Int32))) (p uM n3 : Int32) (now rd U W : Nat → Int32) (t : Nat) : fX8_exchange_b73 tx rc r p (nI L) 0 0 uM w now rd U W (nI t) n3 = rc p (nI L) 0 0 uM w now rd U W (nI (t + 1)) 0 := by
  unfold fX8_exchange_b73
  rw [s114w rc hw, fine8w hw, obs, if_pos rfl, ite_self]
theorem s34w {w : Int32} (hw : ¬ w = -1) (r : Int32 → Int32 → Int32 → Int32 → Int32 → Int32 → (Nat → Int32) → (Nat → Int32) → (Nat → Int32) → (Nat → Int32) → Int32 → Int32 → Option (Int32 × Int32 × Int32 × Int32 × Int32 × Int32 × Int32 × (Nat → Int32) × (Nat → Int32) × (Nat → Int32) × (Nat → Int32))) (p uM n3 : Int32) (now rd U W : Nat → Int32) (t : Nat) : fX8_exchange_b34 tx rc r p (nI L) 0 0 uM w now rd U W (nI t) n3 = rc p (nI L) 0 0 uM w now rd U W (nI (t + 1)) 0 := by
  unfold fX8_exchange_b34
  rw [fine8w hw, obs, if_pos rfl, ite_self, lf1, s73w rc hw]
theorem s34 (hT : TX L B sg tx) (r : Int32 → Int32 → Int32 → Int32 → Int32 → Int32 → (Nat → Int32) → (Nat → Int32) → (Nat → Int32) → (Nat → Int32) → Int32 → Int32 → Option (Int32 × Int32 × Int32 × Int32 × Int32 × Int32 × Int32 × (Nat → Int32) × (Nat → Int32) × (Nat → Int32) × (Nat → Int32))) (uM : Int32) (now rd U W : Nat → Int32) {t q p : Nat} (ht : t < 5) (hq : q < 3) (hp : p < 100) : fX8_exchange_b34 tx rc r (nI p) (nI L) 0 0 uM (-1) now rd U W (nI t) (nI q) = match dgt L B p with | some d => r (nI (p + 1)) (nI L) 0 0 uM (-1) now (upd rd (6 * t + q) (nI d)) U W (nI t) (nI (q + 1)) | none => r (nI p) (nI L) 0 0 uM (nI p) now (upd rd (6 * t + q) 0) U W (nI t) (nI (q + 1)) := by
  unfold fX8_exchange_b34
  rw [if_neg (show ¬ (3 : Int32) ≤ nI q from nI_ge hq (by decide)), fine8, obs, if_neg n10, one8d hT hp, show (6 : Int32) * nI t + nI q = nI (6 * t + q) by rw [show (6 : Int32) = nI 6 from rfl, pk_mul, nI_add]]
  cases dgt L B p with
  | none =>
    simp only [bd3, obs]
    rw [ast_in (by omega) (by decide), obs, nI_1]
  | some d =>
    simp only [bd3, obs]
    rw [ast_in (by omega) (by decide), obs, nI_1]
theorem s73 (hT : TX L B sg tx) (r : Int32 → Int32 → Int32 → Int32 → Int32 → Int32 → (Nat → Int32) → (Nat → Int32) → (Nat → Int32) → (Nat → Int32) → Int32 → Int32 → Option (Int32 × Int32 × Int32 × Int32 × Int32 × Int32 × Int32 × (Nat → Int32) × (Nat → Int32) × (Nat → Int32) × (Nat → Int32))) (uM : Int32) (now rd U W : Nat → Int32) {t q p : Nat} (ht : t < 5) (hq : q < 3) (hp : p < 100) : (∃ d, 1 ≤ d ∧ dgt L B p = some d ∧ fX8_exchange_b73 tx rc r (nI p) (nI L) 0 0 uM (-1) now rd U W (nI t) (nI q) = r (nI (p + 1)) (nI L) 0 0 uM (-1) now (upd rd (6 * t + 3 + q) (nI d)) U W (nI t) (nI (q + 1))) ∨ ((∀ d, dgt L B p = some d → d < 1) ∧ ∃ v, fX8_exchange_b73 tx rc r (nI p) (nI L) 0 0 uM (-1) now rd U W (nI t) (nI q) = r (nI p) (nI L) 0 0 uM (nI p) now (upd rd (6 * t + 3 + q) v) U W (nI t) (nI (q + 1))) := by
  unfold fX8_exchange_b73
  have e := one8 hT (p := p) (a := 49) (c := 9) hp (by decide) (by decide)
  have e : fX8_oneOf (nI L) tx (nI p) (-1) 49 9 = _ := e
  rw [if_neg (show ¬ (3 : Int32) ≤ nI q from nI_ge hq (by decide)), fine8, obs, if_neg n10, e, show (6 : Int32) * nI t + 3 + nI q = nI (6 * t + 3 + q) by rw [show (6 : Int32) = nI 6 from rfl, pk_mul, show (3 : Int32) = nI 3 from rfl, nI_add, nI_add]]
  by_cases h1 : p < L ∧ 49 ≤ B p ∧ B p < 49 + 9
  · left
    refine ⟨B p - 48, by omega, ?_, ?_⟩
    · unfold dgt; rw [if_pos (by omega)]
    · rw [if_pos h1]
      simp only [bd3, obs]
      rw [ast_in (by omega) (by decide), obs, nI_1, nI_1, show B p - 49 + 1 = B p - 48 by omega]
  · right
    refine ⟨fun d hd => ?_, ?_⟩
    · have := dgt_le hd; omega
    · rw [if_neg h1]
      simp only [bd3, obs]
      rw [ast_in (by omega) (by decide), obs, nI_1]
      exact ⟨_, rfl⟩
theorem s34e (r : Int32 → Int32 → Int32 → Int32 → Int32 → Int32 → (Nat → Int32) → (Nat → Int32) → (Nat → Int32) → (Nat → Int32) → Int32 → Int32 → Option (Int32 × Int32 × Int32 × Int32 × Int32 × Int32 × Int32 × (Nat → Int32) × (Nat → Int32) × (Nat → Int32) × (Nat → Int32))) (p uM w : Int32) (now rd U W : Nat → Int32) (t : Nat) : fX8_exchange_b34 tx rc r p (nI L) 0 0 uM w now rd U W (nI t) (nI (2 + 1)) = lfix (fX8_exchange_b73 tx rc) (fun _ _ _ _ _ _ _ _ _ _ _ _ => none) FU p (nI L) 0 0 uM w now rd U W (nI t) (nI 0) := by
  unfold fX8_exchange_b34
  rw [if_pos (show (3 : Int32) ≤ nI (2 + 1) by decide)]; rfl
/-- one trader read by the reference -/
theorem ex_body8 (hT : TX L B sg tx) (uM : Int32) (now rd U W : Nat → Int32) {t : Nat} (ht : t < 4) : (∃ q rd', q < 6 ∧ fs (exB L B t) 6 = some q ∧ fX8_exchange_b13 tx rc (nI (7 * t)) (nI L) 0 0 uM (-1) now rd U W (nI t) 1 = rc (nI (7 * t + q)) (nI L) 0 0 uM (nI (7 * t + q)) now rd' U W (nI (t + 1)) 0) ∨
    (∃ rd', fs (exB L B t) 6 = none ∧ (∀ q, q < 6 * t → rd' q = rd q) ∧ (∀ r, r < 6 → rd' (6 * t + r) = oI (dgt L B (7 * t + r))) ∧ fX8_exchange_b13 tx rc (nI (7 * t)) (nI L) 0 0 uM (-1) now rd U W (nI t) 1 = if chT L B (7 * t + 6) = 59 then rc (nI (7 * t + 7)) (nI L) 0 0 uM (-1) now rd' U W (nI (t + 1)) 1 else rc (nI (7 * t + 6)) (nI L) 0 0 uM (-1) now rd' U W (nI (t + 1)) 0) := by
  have hb : ∀ r, dgt L B (7 * t + r) = none → exB L B t r = true := fun r h => by unfold exB; rw [h]
  have hg : ∀ r d, dgt L B (7 * t + r) = some d → (r < 3 ∨ 1 ≤ d) → exB L B t r = false := fun r d h h2 => by
    unfold exB; rw [h]; exact decide_eq_false (by omega)
  have hb2 : ∀ r, 3 ≤ r → (∀ d, dgt L B (7 * t + r) = some d → d < 1) → exB L B t r = true := fun r h3 h => by
    unfold exB
    cases hd : dgt L B (7 * t + r) with
    | none => rfl
    | some d => exact decide_eq_true ⟨h3, h d hd⟩
  have first : ∀ q, q < 6 → exB L B t q = true → (∀ r, r < q → exB L B t r = false) → fs (exB L B t) 6 = some q := fun q hq h1 h2 => fs_some h1 h2 hq
  unfold fX8_exchange_b13
  rw [if_neg n10, if_neg (show ¬ nI t = 4 from fun e => by have := (nI_eq (b := 4) (by omega) (by decide)).mp e; omega), lf4]
  generalize lfix (fX8_exchange_b34 tx rc) _ 4092 = R
  rw [show (0 : Int32) = nI 0 from rfl]
  show (∃ q rd', q < 6 ∧ _ ∧ fX8_exchange_b34 tx rc (fX8_exchange_b34 tx rc (fX8_exchange_b34 tx rc (fX8_exchange_b34 tx rc R))) (nI (7 * t)) (nI L) 0 0 uM (-1) now rd U W (nI t) (nI 0) = _) ∨ (∃ rd', _ ∧ _ ∧ _ ∧ fX8_exchange_b34 tx rc (fX8_exchange_b34 tx rc (fX8_exchange_b34 tx rc (fX8_exchange_b34 tx rc R))) (nI (7 * t)) (nI L) 0 0 uM (-1) now rd U W (nI t) (nI 0) = _)
  rw [s34 rc hT _ uM now rd U W (by omega) (by decide) (by omega)]
  cases d0 : dgt L B (7 * t) with
  | none =>
    left
    simp only
    rw [s34w rc (nI_m1 (by omega))]
    exact ⟨0, _, by decide, first 0 (by decide) (hb 0 d0) (fun r hr => by omega), rfl⟩
  | some a0 =>
    have g0 := hg 0 a0 d0 (Or.inl (by decide))
    simp only
    rw [s34 rc hT _ uM now _ U W (by omega) (by decide) (by omega)]
    cases d1 : dgt L B (7 * t + 1) with
    | none =>
      left
      simp only
      rw [s34w rc (nI_m1 (by omega))]
      exact ⟨1, _, by decide, first 1 (by decide) (hb 1 d1) (fun r hr => by rw [show r = 0 by omega]; exact g0), rfl⟩
    | some a1 =>
      have g1 := hg 1 a1 d1 (Or.inl (by decide))
      simp only
      rw [s34 rc hT _ uM now _ U W (by omega) (by decide) (by omega)]
      cases d2 : dgt L B (7 * t + 1 + 1) with
      | none =>
        left
        simp only
        rw [s34w rc (nI_m1 (by omega))]
        exact ⟨2, _, by decide, first 2 (by decide) (hb 2 d2) (fun r hr => by
          have : r = 0 ∨ r = 1 := by omega
          rcases this with rfl | rfl
          · exact g0
          · exact g1), rfl⟩
      | some a2 =>
        have g2 := hg 2 a2 d2 (Or.inl (by decide))
        simp only
        rw [s34e, lf4]
        generalize lfix (fX8_exchange_b73 tx rc) _ 4092 = R2
        rcases s73 rc hT (fX8_exchange_b73 tx rc (fX8_exchange_b73 tx rc (fX8_exchange_b73 tx rc R2))) uM now (upd (upd (upd rd (6 * t + 0) (nI a0)) (6 * t + (0 + 1)) (nI a1)) (6 * t + (0 + 1 + 1)) (nI a2)) U W (t := t) (q := 0) (p := 7 * t + 1 + 1 + 1) (by omega) (by decide) (by omega) with ⟨a3, c3, d3, e3⟩ | ⟨c3, v, e3⟩
        rotate_left
        · left
          rw [e3, s73w rc (nI_m1 (by omega))]
          exact ⟨3, _, by decide, first 3 (by decide) (hb2 3 (by decide) c3) (fun r hr => by
            have : r = 0 ∨ r = 1 ∨ r = 2 := by omega
            rcases this with rfl | rfl | rfl
            · exact g0
            · exact g1
            · exact g2), rfl⟩
        have g3 := hg 3 a3 d3 (Or.inr c3)
        rw [e3]
        generalize hrd3 : upd (upd (upd (upd rd (6 * t + 0) (nI a0)) (6 * t + (0 + 1)) (nI a1)) (6 * t + (0 + 1 + 1)) (nI a2)) (6 * t + 3 + 0) (nI a3) = rd3
        rcases s73 rc hT (fX8_exchange_b73 tx rc (fX8_exchange_b73 tx rc R2)) uM now rd3 U W (t := t) (q := 0 + 1) (p := 7 * t + 1 + 1 + 1 + 1) (by omega) (by decide) (by omega) with ⟨a4, c4, d4, e4⟩ | ⟨c4, v, e4⟩
        rotate_left
        · left
          rw [e4, s73w rc (nI_m1 (by omega))]
          exact ⟨4, _, by decide, first 4 (by decide) (hb2 4 (by decide) c4) (fun r hr => by
            have : r = 0 ∨ r = 1 ∨ r = 2 ∨ r = 3 := by omega
            rcases this with rfl | rfl | rfl | rfl
            · exact g0
            · exact g1
            · exact g2
            · exact g3), rfl⟩
        have g4 := hg 4 a4 d4 (Or.inr c4)
        rw [e4]
        generalize hrd4 : upd rd3 (6 * t + 3 + (0 + 1)) (nI a4) = rd4
        rcases s73 rc hT (fX8_exchange_b73 tx rc R2) uM now rd4 U W (t := t) (q := 0 + 1 + 1) (p := 7 * t + 1 + 1 + 1 + 1 + 1) (by omega) (by decide) (by omega) with ⟨a5, c5, d5, e5⟩ | ⟨c5, v, e5⟩
        rotate_left
        · left
          rw [e5, s73w rc (nI_m1 (by omega))]
          exact ⟨5, _, by decide, first 5 (by decide) (hb2 5 (by decide) c5) (fun r hr => by
            have : r = 0 ∨ r = 1 ∨ r = 2 ∨ r = 3 ∨ r = 4 := by omega
            rcases this with rfl | rfl | rfl | rfl | rfl
            · exact g0
            · exact g1
            · exact g2
            · exact g3
            · exact g4), rfl⟩
        have g5 := hg 5 a5 d5 (Or.inr c5)
        right
        rw [e5]
        refine ⟨upd rd4 (6 * t + 3 + (0 + 1 + 1)) (nI a5), fs_none (fun r hr => ?_), fun q hq => ?_, fun r hr => ?_, ?_⟩
        · have : r = 0 ∨ r = 1 ∨ r = 2 ∨ r = 3 ∨ r = 4 ∨ r = 5 := by omega
          rcases this with rfl | rfl | rfl | rfl | rfl | rfl
          · exact g0
          · exact g1
          · exact g2
          · exact g3
          · exact g4
          · exact g5
        · rw [← hrd4, ← hrd3]
          unfold upd
          rw [if_neg (by omega), if_neg (by omega), if_neg (by omega), if_neg (by omega), if_neg (by omega), if_neg (by omega)]
        · rw [← hrd4, ← hrd3]
          unfold upd
          have : r = 0 ∨ r = 1 ∨ r = 2 ∨ r = 3 ∨ r = 4 ∨ r = 5 := by omega
          rcases this with rfl | rfl | rfl | rfl | rfl | rfl
          · rw [if_neg (by omega), if_neg (by omega), if_neg (by omega), if_neg (by omega), if_neg (by omega), if_pos (by omega), Nat.add_zero, d0]; rfl
          · rw [if_neg (by omega), if_neg (by omega), if_neg (by omega), if_neg (by omega), if_pos (by omega), d1]; rfl
          · rw [if_neg (by omega), if_neg (by omega), if_neg (by omega), if_pos (by omega), d2]; rfl
          · rw [if_neg (by omega), if_neg (by omega), if_pos (by omega), d3]; rfl
          · rw [if_neg (by omega), if_pos (by omega), d4]; rfl
          · rw [if_pos (by omega), d5]; rfl
        · unfold fX8_exchange_b73 fX8_exchange_b114
          rw [if_pos (show (3 : Int32) ≤ nI (0 + 1 + 1 + 1) by decide), obs, nI_1, pas8 hT (by omega)]
          show _ = if chT L B (7 * t + 1 + 1 + 1 + 1 + 1 + 1) = 59 then _ else _
          split
          · simp only [bd2, obs]; rfl
          · simp only [bd2, obs]; rfl
end EXR
