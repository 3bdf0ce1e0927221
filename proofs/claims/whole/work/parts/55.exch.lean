/-! An exchange. -/
section EXG
/-- the sum of wishes of a trader, products of these -/
def wS (w : Nat → Nat) (t : Nat) : Nat := w (3 * t) + w (3 * t + 1) + w (3 * t + 2)
def pW (w : Nat → Nat) : Nat → Nat
  | 0 => 1
  | t + 1 => pW w t * wS w t
def pWo (w : Nat → Nat) (u : Nat) : Nat → Nat
  | 0 => 1
  | t + 1 => pWo w u t * (if t = u then 1 else wS w t)
/-- amounts and wishes are digits -/
def DG (T : Nat) (a w : Nat → Nat) : Prop := T ≤ 4 ∧ ∀ q, q < 3 * T → a q ≤ 9 ∧ 1 ≤ w q ∧ w q ≤ 9
theorem dg_wS {T : Nat} {a w : Nat → Nat} (h : DG T a w) {t : Nat} (ht : t < T) : 3 ≤ wS w t ∧ wS w t ≤ 27 := by
  have h0 := h.2 (3 * t) (by omega)
  have h1 := h.2 (3 * t + 1) (by omega)
  have h2 := h.2 (3 * t + 2) (by omega)
  unfold wS
  omega
theorem pW_le {T : Nat} {a w : Nat → Nat} (h : DG T a w) : ∀ t, t ≤ T → pW w t ≤ 27 ^ t := by
  intro t
  induction t with
  | zero => intro _; exact Nat.le_refl _
  | succ t ih =>
    intro ht
    rw [pW, Nat.pow_succ]
    exact Nat.mul_le_mul (ih (by omega)) (dg_wS h (by omega)).2
theorem pWo_ge (w : Nat → Nat) (u : Nat) : ∀ t, t ≤ u → pWo w u t = pW w t := by
  intro t
  induction t with
  | zero => intro _; rfl
  | succ t ih => intro ht; rw [pWo, pW, ih (by omega), if_neg (by omega)]
theorem pW_wo (w : Nat → Nat) (u : Nat) : ∀ t, u < t → pW w t = wS w u * pWo w u t := by
  intro t
  induction t with
  | zero => intro h; omega
  | succ t ih =>
    intro h
    rw [pW, pWo]
    by_cases h1 : t = u
    · rw [if_pos h1, pWo_ge w u t (by omega), h1, Nat.mul_one, Nat.mul_comm]
    · rw [if_neg h1, ih (by omega), Nat.mul_assoc]
theorem pW_bd {T : Nat} {a w : Nat → Nat} (h : DG T a w) : pW w T ≤ 531441 := by
  have h1 := pW_le h T (Nat.le_refl T)
  have h2 : 27 ^ T ≤ 27 ^ 4 := Nat.pow_le_pow_right (by decide) h.1
  have h3 : (27 : Nat) ^ 4 = 531441 := by decide
  omega
theorem pWo_bd {T : Nat} {a w : Nat → Nat} (h : DG T a w) {u : Nat} (hu : u < T) : 3 * pWo w u T ≤ 531441 ∧ pW w T / wS w u = pWo w u T := by
  have h1 := pW_wo w u T hu
  have h2 := dg_wS h hu
  have h3 := pW_bd h
  refine ⟨?_, ?_⟩
  · rw [h1] at h3
    exact Nat.le_trans (Nat.mul_le_mul_right _ h2.1) h3
  · rw [h1, Nat.mul_div_cancel_left _ (by omega)]
/-- income -/
def inC (a : Nat → Nat) (n t i j : Nat) : Nat := i * a (3 * t) + j * a (3 * t + 1) + (n - i - j) * a (3 * t + 2)
def eP (T : Nat) (a w : Nat → Nat) (n i j q : Nat) (t : Nat) : Nat := fb_sm (fun u => inC a n u i j * w (3 * u + q) * pWo w u T) t
def hA (a : Nat → Nat) (q t : Nat) : Nat := fb_sm (fun u => a (3 * u + q)) t
/-- what one of price h adds to the excess of q -/
def qE (T : Nat) (a w : Nat → Nat) (t q h : Nat) : Int := fb_si (fun u => (((a (3 * u + h) * w (3 * u + q) * pWo w u T : Nat) : Int)) - (if q = h then ((pW w T * a (3 * u + q) : Nat) : Int) else 0)) t
def qX (T : Nat) (a w : Nat → Nat) (q h : Nat) : Int := qE T a w T q h
theorem qE_sum (T : Nat) (a w : Nat → Nat) {n i j q : Nat} (hij : i + j ≤ n) (hq : q < 3) : ∀ t, qE T a w t q 0 * i + qE T a w t q 1 * j + qE T a w t q 2 * (n - i - j : Nat) = (eP T a w n i j q t : Int) - ((pW w T * prc n i j q * hA a q t : Nat) : Int) := by
  have hp : q = 0 ∨ q = 1 ∨ q = 2 := by omega
  intro t
  induction t with
  | zero => simp [qE, eP, hA, fb_si, fb_sm]
  | succ t ih =>
    unfold qE eP hA at ih ⊢
    rw [fb_si_succ, fb_si_succ, fb_si_succ, fb_sm_succ, fb_sm_succ]
    generalize fb_si (fun u => ((a (3 * u + 0) * w (3 * u + q) * pWo w u T : Nat) : Int) - (if q = 0 then ((pW w T * a (3 * u + q) : Nat) : Int) else 0)) t = s0 at *
    generalize fb_si (fun u => ((a (3 * u + 1) * w (3 * u + q) * pWo w u T : Nat) : Int) - (if q = 1 then ((pW w T * a (3 * u + q) : Nat) : Int) else 0)) t = s1 at *
    generalize fb_si (fun u => ((a (3 * u + 2) * w (3 * u + q) * pWo w u T : Nat) : Int) - (if q = 2 then ((pW w T * a (3 * u + q) : Nat) : Int) else 0)) t = s2 at *
    generalize fb_sm (fun u => inC a n u i j * w (3 * u + q) * pWo w u T) t = e0 at *
    generalize fb_sm (fun u => a (3 * u + q)) t = h0 at *
    unfold inC
    generalize hk : n - i - j = k at *
    generalize pWo w t T = d at *
    generalize pW w T = D at *
    generalize w (3 * t + q) = x at *
    rcases hp with rfl | rfl | rfl
    · have e1 : prc n i j 0 = i := rfl
      rw [e1] at ih ⊢
      rw [if_pos rfl, if_neg (by decide), if_neg (by decide)]
      rw [Nat.add_zero]
      generalize a (3 * t) = a0 at *
      generalize a (3 * t + 1) = a1 at *
      generalize a (3 * t + 2) = a2 at *
      simp only [Int.natCast_add, Int.natCast_mul] at ih ⊢
      grind
    · have e1 : prc n i j 1 = j := rfl
      rw [e1] at ih ⊢
      rw [if_neg (by decide), if_pos rfl, if_neg (by decide)]
      rw [Nat.add_zero]
      generalize a (3 * t) = a0 at *
      generalize a (3 * t + 1) = a1 at *
      generalize a (3 * t + 2) = a2 at *
      simp only [Int.natCast_add, Int.natCast_mul] at ih ⊢
      grind
    · have e1 : prc n i j 2 = k := hk
      rw [e1] at ih ⊢
      rw [if_neg (by decide), if_neg (by decide), if_pos rfl]
      rw [Nat.add_zero]
      generalize a (3 * t) = a0 at *
      generalize a (3 * t + 1) = a1 at *
      generalize a (3 * t + 2) = a2 at *
      simp only [Int.natCast_add, Int.natCast_mul] at ih ⊢
      grind
theorem inC_le {T : Nat} {a w : Nat → Nat} (h : DG T a w) {n t i j : Nat} (hn : n < 17) (hij : i + j ≤ n) (ht : t < T) : inC a n t i j ≤ 144 := by
  have h0 := (h.2 (3 * t) (by omega)).1
  have h1 := (h.2 (3 * t + 1) (by omega)).1
  have h2 := (h.2 (3 * t + 2) (by omega)).1
  unfold inC
  have q0 := Nat.mul_le_mul_left i h0
  have q1 := Nat.mul_le_mul_left j h1
  have q2 := Nat.mul_le_mul_left (n - i - j) h2
  omega
theorem eP_le {T : Nat} {a w : Nat → Nat} (h : DG T a w) {n i j q : Nat} (hn : n < 17) (hij : i + j ≤ n) (hq : q < 3) : eP T a w n i j q T ≤ 918330048 := by
  have h1 : fb_sm (fun u => inC a n u i j * w (3 * u + q) * pWo w u T) T ≤ T * 229582512 := fb_sm_bound (fun u hu => by
    have b1 := inC_le h hn hij hu
    have b2 := (h.2 (3 * u + q) (by omega)).2.2
    have b3 := (pWo_bd h hu).1
    have b4 := Nat.mul_le_mul (Nat.mul_le_mul b1 b2) (show pWo w u T ≤ 177147 by omega)
    exact b4)
  have h2 := h.1
  have h3 : T * 229582512 ≤ 4 * 229582512 := Nat.mul_le_mul_right _ h2
  unfold eP
  omega
theorem hA_le {T : Nat} {a w : Nat → Nat} (h : DG T a w) {q : Nat} (hq : q < 3) : hA a q T ≤ 36 := by
  have h1 : fb_sm (fun u => a (3 * u + q)) T ≤ T * 9 := fb_sm_bound (fun u hu => (h.2 (3 * u + q) (by omega)).1)
  have h2 := h.1
  unfold hA
  omega
theorem prc_le {n i j q : Nat} (hn : n < 17) (hij : i + j ≤ n) : prc n i j q ≤ 16 := by
  unfold prc
  split
  · omega
  · split <;> omega
theorem eM_le {T : Nat} {a w : Nat → Nat} (h : DG T a w) {n i j q : Nat} (hn : n < 17) (hij : i + j ≤ n) (hq : q < 3) : pW w T * prc n i j q * hA a q T ≤ 306110016 :=
  Nat.mul_le_mul (Nat.mul_le_mul (pW_bd h) (prc_le hn hij)) (hA_le h hq)
theorem qX_bd {T : Nat} {a w : Nat → Nat} (h : DG T a w) : BQ (qX T a w) := fun n i j q hn hij hq => by
  have e := qE_sum T a w hij hq T
  have b1 := eP_le h hn hij hq
  have b2 := eM_le h hn hij hq
  unfold qv qX
  rw [e]
  omega
end EXG
