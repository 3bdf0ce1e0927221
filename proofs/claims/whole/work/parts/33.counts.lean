/-! Counting full cells. -/
section FST
/-- the first, the last below N -/
def fs (p : Nat → Bool) : Nat → Option Nat
  | 0 => none
  | n + 1 => match fs p n with | some j => some j | none => if p n then some n else none
def ls (p : Nat → Bool) : Nat → Option Nat
  | 0 => none
  | n + 1 => if p n then some n else ls p n
theorem fs_none {p : Nat → Bool} : ∀ {n : Nat}, (∀ q, q < n → p q = false) → fs p n = none := by
  intro n
  induction n with
  | zero => intro _; rfl
  | succ n ih =>
    intro h
    rw [fs, ih (fun q hq => h q (by omega)), h n (by omega)]; rfl
theorem fs_some {p : Nat → Bool} {j : Nat} (hj : p j = true) (hq : ∀ q, q < j → p q = false) : ∀ {n : Nat}, j < n → fs p n = some j := by
  intro n
  induction n with
  | zero => intro h; omega
  | succ n ih =>
    intro h
    by_cases h2 : j < n
    · rw [fs, ih h2]
    · have : j = n := by omega
      subst this
      rw [fs, fs_none hq, hj]; rfl
theorem fs_cases (p : Nat → Bool) (n : Nat) : (∃ j, j < n ∧ p j = true ∧ (∀ q, q < j → p q = false) ∧ fs p n = some j) ∨ ((∀ q, q < n → p q = false) ∧ fs p n = none) := by
  induction n with
  | zero => exact Or.inr ⟨fun q h => by omega, rfl⟩
  | succ n ih =>
    rcases ih with ⟨j, h1, h2, h3, h4⟩ | ⟨h1, h2⟩
    · exact Or.inl ⟨j, by omega, h2, h3, fs_some h2 h3 (by omega)⟩
    · by_cases h : p n = true
      · exact Or.inl ⟨n, by omega, h, h1, fs_some h h1 (by omega)⟩
      · have h5 : ∀ q, q < n + 1 → p q = false := fun q hq => by
          by_cases h6 : q = n
          · subst h6; simpa using h
          · exact h1 q (by omega)
        exact Or.inr ⟨h5, fs_none h5⟩
theorem fs_cong {p q : Nat → Bool} : ∀ {n : Nat}, (∀ k, k < n → p k = q k) → fs p n = fs q n := by
  intro n
  induction n with
  | zero => intro _; rfl
  | succ n ih => intro h; rw [fs, fs, ih (fun k hk => h k (by omega)), h n (by omega)]
theorem fs_lt {p : Nat → Bool} {n j : Nat} (h : fs p n = some j) : j < n ∧ p j = true ∧ ∀ q, q < j → p q = false := by
  rcases fs_cases p n with ⟨k, h1, h2, h3, h4⟩ | ⟨h1, h2⟩
  · rw [h] at h4; cases h4; exact ⟨h1, h2, h3⟩
  · rw [h] at h2; cases h2
/-- a loop that seeks -/
theorem l_fs {τ ρ : Type} {F : τ → τ} {z : τ} (ap : τ → Nat → ρ) (out : Nat → ρ) (p : Nat → Bool) (N : Nat) (hN : N < 4096)
    (hs : ∀ rc i, i < N → p i = false → ap (F rc) i = ap rc (i + 1)) (hp : ∀ rc i, i < N → p i = true → ap (F rc) i = out i) (fin : ρ) (he : ∀ rc, ap (F rc) N = fin) :
    ap (lfix F z FU) 0 = match fs p N with | some j => out j | none => fin := by
  rcases l_run0 (z := z) ap out (fun i => p i = true) N hN (fun rc i h1 h2 => hs rc i h1 (by simpa using h2)) hp fin he with ⟨j, h1, h2, h3, h4⟩ | ⟨h1, h2⟩
  · rw [h4, fs_some h2 (fun q hq => by simpa using h3 q hq) h1]
  · rw [h2, fs_none (fun q hq => by simpa using h1 q hq)]
theorem fs_skip {p : Nat → Bool} {a : Nat} : ∀ {k : Nat}, (∀ c, a ≤ c → c < a + k → p c = false) → fs p (a + k) = fs p a := by
  intro k
  induction k with
  | zero => intro _; rfl
  | succ k ih =>
    intro h
    rw [show a + (k + 1) = (a + k) + 1 by omega, fs, ih (fun c h1 h2 => h c h1 (by omega)), h (a + k) (by omega) (by omega)]
    cases fs p a <;> rfl
theorem ls_skip {p : Nat → Bool} {a : Nat} : ∀ {k : Nat}, (∀ c, a ≤ c → c < a + k → p c = false) → ls p (a + k) = ls p a := by
  intro k
  induction k with
  | zero => intro _; rfl
  | succ k ih =>
    intro h
    rw [show a + (k + 1) = (a + k) + 1 by omega, ls, ih (fun c h1 h2 => h c h1 (by omega)), h (a + k) (by omega) (by omega)]
    rfl
theorem ct_skip {p : Nat → Bool} {a : Nat} : ∀ {k : Nat}, (∀ c, a ≤ c → c < a + k → p c = false) → fb_ct p (a + k) = fb_ct p a := by
  intro k
  induction k with
  | zero => intro _; rfl
  | succ k ih =>
    intro h
    rw [show a + (k + 1) = (a + k) + 1 by omega, fb_ct_succ, ih (fun c h1 h2 => h c h1 (by omega)), h (a + k) (by omega) (by omega)]
    rfl
/-- a sum of ints -/
def sI (f : Nat → Int32) : Nat → Int32
  | 0 => 0
  | n + 1 => sI f n + f n
theorem sI_skip {f : Nat → Int32} {a : Nat} : ∀ {k : Nat}, (∀ c, a ≤ c → c < a + k → f c = 0) → sI f (a + k) = sI f a := by
  intro k
  induction k with
  | zero => intro _; rfl
  | succ k ih =>
    intro h
    rw [show a + (k + 1) = (a + k) + 1 by omega, sI, ih (fun c h1 h2 => h c h1 (by omega)), h (a + k) (by omega) (by omega), Int32.add_zero]
theorem sI_cong {f g : Nat → Int32} : ∀ {n : Nat}, (∀ k, k < n → f k = g k) → sI f n = sI g n := by
  intro n
  induction n with
  | zero => intro _; rfl
  | succ n ih => intro h; rw [sI, sI, ih (fun k hk => h k (by omega)), h n (by omega)]
theorem oI_none {o : Option Nat} (h : ∀ c, o = some c → c < 2 ^ 31) : oI o = -1 ↔ o = none := by
  cases o with
  | none => exact ⟨fun _ => rfl, fun _ => rfl⟩
  | some c =>
    refine ⟨fun h2 => ?_, fun h2 => (by cases h2)⟩
    have h3 : nI c = (-1 : Int32) := h2
    have h4 := nI_pos (h c rfl)
    rw [h3] at h4
    exact absurd (by decide) h4
theorem ls_lt {p : Nat → Bool} {j : Nat} : ∀ {n : Nat}, ls p n = some j → j < n := by
  intro n
  induction n with
  | zero => intro h; cases h
  | succ n ih =>
    intro h
    rw [ls] at h
    split at h
    · cases h; omega
    · have := ih h; omega
/-- the last one is number (how many - 1) -/
theorem fs_last (p : Nat → Bool) (n : Nat) : fs (fun j => p j && decide (fb_ct p j + 1 = fb_ct p n)) n = ls p n := by
  have key : ∀ k, k ≤ n → (∀ c, k ≤ c → c < n → p c = false) → ls p n = ls p k := fun k hk h => by
    have := ls_skip (p := p) (a := k) (k := n - k) (fun c h1 h2 => h c h1 (by omega))
    rwa [show k + (n - k) = n by omega] at this
  by_cases hz : ∀ c, c < n → p c = false
  · rw [fs_none (fun q hq => by rw [hz q hq]; rfl), key 0 (by omega) (fun c _ h => hz c h)]; rfl
  · obtain ⟨j, h1, h2, h3⟩ := fb_last (p := fun c => p c = true) (n := n) (by
      apply Classical.byContradiction
      intro h
      exact hz (fun c hc => by
        cases h9 : p c with
        | false => rfl
        | true => exact absurd ⟨c, hc, h9⟩ h))
    have e1 : fb_ct p n = fb_ct p (j + 1) := by
      have := ct_skip (p := p) (a := j + 1) (k := n - (j + 1)) (fun c h4 h5 => by simpa using h3 c (by omega) (by omega))
      rwa [show j + 1 + (n - (j + 1)) = n by omega] at this
    have e2 : fb_ct p (j + 1) = fb_ct p j + 1 := by rw [fb_ct_succ, h2]; rfl
    have e3 : ls p n = some j := by
      rw [key (j + 1) (by omega) (fun c h4 h5 => by simpa using h3 c (by omega) h5), ls, h2]; rfl
    rw [e3]
    refine fs_some (by simp [h2]; omega) (fun q hq => ?_) h1
    cases h9 : p q with
    | false => rfl
    | true =>
      have h10 : fb_ct p (q + 1) = fb_ct p q + 1 := by rw [fb_ct_succ, h9]; rfl
      have h11 := fb_ct_mono p (show q + 1 ≤ j by omega)
      have h12 : ¬ (fb_ct p q + 1 = fb_ct p n) := by omega
      simp [h12]
theorem fs_first (p : Nat → Bool) (n : Nat) : fs (fun j => p j && decide (fb_ct p j = 0)) n = fs p n := by
  rcases fs_cases p n with ⟨j, h1, h2, h3, h4⟩ | ⟨h1, h2⟩
  · rw [h4]
    refine fs_some (by simp [h2]; exact (fb_ct_zero).mpr h3) (fun q hq => by rw [h3 q hq]; rfl) h1
  · rw [h2]
    exact fs_none (fun q hq => by rw [h1 q hq]; rfl)
end FST
