/-! The pure part: loops, and numbers of points and cells. -/
section LPS
/-- a loop that counts up; p: it ends early; ap holds what its state is at each count -/
theorem l_run {τ ρ : Type} {F : τ → τ} {z : τ} (ap : τ → Nat → ρ) (out : Nat → ρ) (p : Nat → Prop) (N : Nat)
    (hs : ∀ rc i, i < N → ¬ p i → ap (F rc) i = ap rc (i + 1)) (hp : ∀ rc i, i < N → p i → ap (F rc) i = out i) (fin : ρ) (he : ∀ rc, ap (F rc) N = fin) :
    ∀ (k i fuel : Nat), i + k = N → k < fuel → (∃ j, i ≤ j ∧ j < N ∧ p j ∧ (∀ q, i ≤ q → q < j → ¬ p q) ∧ ap (lfix F z fuel) i = out j) ∨ ((∀ q, i ≤ q → q < N → ¬ p q) ∧ ap (lfix F z fuel) i = fin) := by
  intro k
  induction k with
  | zero =>
    intro i fuel h1 h2
    obtain ⟨f, rfl⟩ : ∃ f, fuel = f + 1 := ⟨fuel - 1, by omega⟩
    have : i = N := by omega
    subst this
    exact Or.inr ⟨fun q h3 h4 => by omega, he _⟩
  | succ k ih =>
    intro i fuel h1 h2
    obtain ⟨f, rfl⟩ : ∃ f, fuel = f + 1 := ⟨fuel - 1, by omega⟩
    by_cases hq : p i
    · exact Or.inl ⟨i, Nat.le_refl i, by omega, hq, fun q h3 h4 => by omega, hp _ i (by omega) hq⟩
    · have e : ap (lfix F z (f + 1)) i = ap (lfix F z f) (i + 1) := hs _ i (by omega) hq
      rcases ih (i + 1) f (by omega) (by omega) with ⟨j, a1, a2, a3, a4, a5⟩ | ⟨a1, a2⟩
      · refine Or.inl ⟨j, by omega, a2, a3, fun q h3 h4 => ?_, e.trans a5⟩
        by_cases h5 : q = i
        · subst h5; exact hq
        · exact a4 q (by omega) h4
      · refine Or.inr ⟨fun q h3 h4 => ?_, e.trans a2⟩
        by_cases h5 : q = i
        · subst h5; exact hq
        · exact a1 q (by omega) h4
/-- the same without an early end -/
theorem l_acc {τ ρ : Type} {F : τ → τ} {z : τ} (ap : τ → Nat → ρ) (N : Nat) (fin : ρ) (hs : ∀ rc i, i < N → ap (F rc) i = ap rc (i + 1)) (he : ∀ rc, ap (F rc) N = fin) :
    ∀ (k i fuel : Nat), i + k = N → k < fuel → ap (lfix F z fuel) i = fin := by
  intro k
  induction k with
  | zero =>
    intro i fuel h1 h2
    obtain ⟨f, rfl⟩ : ∃ f, fuel = f + 1 := ⟨fuel - 1, by omega⟩
    have : i = N := by omega
    subst this
    exact he _
  | succ k ih =>
    intro i fuel h1 h2
    obtain ⟨f, rfl⟩ : ∃ f, fuel = f + 1 := ⟨fuel - 1, by omega⟩
    have e : ap (lfix F z (f + 1)) i = ap (lfix F z f) (i + 1) := hs _ i (by omega)
    exact e.trans (ih (i + 1) f (by omega) (by omega))
theorem fu_lt {N : Nat} (h : N < 4096) : N < FU := h
/-- from 0 on, within the fuel -/
theorem l_acc0 {τ ρ : Type} {F : τ → τ} {z : τ} (ap : τ → Nat → ρ) (N : Nat) (hN : N < 4096) (fin : ρ) (hs : ∀ rc i, i < N → ap (F rc) i = ap rc (i + 1)) (he : ∀ rc, ap (F rc) N = fin) : ap (lfix F z FU) 0 = fin := l_acc ap N fin hs he N 0 FU (by omega) hN
theorem l_run0 {τ ρ : Type} {F : τ → τ} {z : τ} (ap : τ → Nat → ρ) (out : Nat → ρ) (p : Nat → Prop) (N : Nat) (hN : N < 4096)
    (hs : ∀ rc i, i < N → ¬ p i → ap (F rc) i = ap rc (i + 1)) (hp : ∀ rc i, i < N → p i → ap (F rc) i = out i) (fin : ρ) (he : ∀ rc, ap (F rc) N = fin) :
    (∃ j, j < N ∧ p j ∧ (∀ q, q < j → ¬ p q) ∧ ap (lfix F z FU) 0 = out j) ∨ ((∀ q, q < N → ¬ p q) ∧ ap (lfix F z FU) 0 = fin) := by
  rcases l_run (z := z) ap out p N hs hp fin he N 0 FU (by omega) hN with ⟨j, -, a2, a3, a4, a5⟩ | ⟨a1, a2⟩
  · exact Or.inl ⟨j, a2, a3, fun q h => a4 q (Nat.zero_le q) h, a5⟩
  · exact Or.inr ⟨fun q h => a1 q (Nat.zero_le q) h, a2⟩
end LPS
section IDX
/-- the number of the point (i, j) of a grid of size n -/
def pl (n i j : Nat) : Nat := i * (2 * n + 3 - i) / 2 + j
/-- how many points -/
def pts (n : Nat) : Nat := (n + 1) * (n + 2) / 2
set_option maxRecDepth 100000 in
theorem num7 : ∀ n, n < 17 → ∀ i, i < 18 → ∀ j, j < 18 → i ≤ n + 1 → fX1_numberOf (nI n) (nI i) (nI j) = some (nI (pl n i j)) := by decide +kernel
end IDX
