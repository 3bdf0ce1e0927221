/-! Points and cells: what the small methods of class and reference answer. -/
section SPC
def bI (b : Bool) : Int32 := if b then 1 else 0
def oI (o : Option Nat) : Int32 := match o with | none => -1 | some c => nI c
theorem ifb {α : Type} (b : Bool) (x y : α) : (if bI b = 0 then x else y) = if b then y else x := by cases b <;> rfl
theorem ifb1 {α : Type} (b : Bool) (x y : α) : (if bI b = 1 then x else y) = if b then x else y := by cases b <;> rfl
theorem ald_in {α : Type} {N i : Nat} {f : Nat → α} (h : i < N) (hN : N < 2 ^ 31) : ald N (nI i) f = some (f i) := by
  unfold ald
  rw [if_neg (nI_in h hN), nI_clamp (by omega)]
theorem ast_in {N i : Nat} {f : Nat → Int32} {x : Int32} (h : i < N) (hN : N < 2 ^ 31) : ast N (nI i) f x = some (upd f i x) := by
  unfold ast
  rw [if_neg (nI_in h hN), nI_clamp (by omega)]
theorem astL_in {N i : Nat} {f : Nat → Int64} {x : Int64} (h : i < N) (hN : N < 2 ^ 31) : astL N (nI i) f x = some (vp_updL f i x) := by
  unfold astL
  rw [if_neg (nI_in h hN), nI_clamp (by omega)]
/-- a cell's number: is it one -/
def cel (n c : Nat) : Bool := decide (c < 2 * n * n) && decide (c / 2 / n + c / 2 % n + c % 2 < n)
/-- the place of a corner of a cell -/
def co (n c k : Nat) : Nat := if c % 2 = 0 then pl n (c / 2 / n + if k = 1 then 1 else 0) (c / 2 % n + if k = 2 then 1 else 0) else pl n (c / 2 / n + if k = 1 then 0 else 1) (c / 2 % n + if k = 2 then 0 else 1)
def prc (n i j g : Nat) : Nat := if g = 0 then i else if g = 1 then j else n - i - j
/-- the cell beyond an edge -/
def bey (n c e : Nat) : Option Nat :=
  let i := c / 2 / n
  let j := c / 2 % n
  if c % 2 = 0 then
    if e = 1 then (if 0 < i ∧ i - 1 + j + 1 < n then some (2 * (n * (i - 1) + j) + 1) else none)
    else if e = 2 then (if 0 < j ∧ i + (j - 1) + 1 < n then some (2 * (n * i + (j - 1)) + 1) else none)
    else (if i + j + 1 < n then some (2 * (n * i + j) + 1) else none)
  else
    if e = 1 then (if i + 1 + j < n then some (2 * (n * (i + 1) + j)) else none)
    else if e = 2 then (if i + (j + 1) < n then some (2 * (n * i + (j + 1))) else none)
    else (if i + j < n then some (2 * (n * i + j)) else none)
def nc (n : Nat) : Nat → Int32 := fun _ => nI n
theorem n8 {n : Nat} {now : Nat → Int32} (h : now 0 = nI n) : fX8_n now = some (nI n) := by
  show (ald 189 (nI 0) now).bind (fun v1 => some v1) = some (nI n)
  rw [ald_in (by decide) (by decide), h]; rfl
theorem n8c (n : Nat) : fX8_n (nc n) = some (nI n) := n8 rfl
end SPC
section DEC
set_option maxRecDepth 100000 in
theorem pts_pl : ∀ n, n < 17 → ∀ i, i < 17 → i ≤ n → ∀ j, j < 17 → j ≤ n - i → pl n i j < pts n := by decide +kernel
set_option maxRecDepth 100000 in
theorem pts_le : ∀ n, n < 17 → pts n ≤ 153 := by decide +kernel
set_option maxRecDepth 100000 in
theorem pl_next : ∀ n, n < 17 → ∀ i, i < 17 → i ≤ n → pl n i (n - i + 1) = pl n (i + 1) 0 := by decide +kernel
set_option maxRecDepth 100000 in
theorem pl_end : ∀ n, n < 17 → pl n (n + 1) 0 = pts n := by decide +kernel
set_option maxRecDepth 100000 in
theorem pl8c : ∀ n, n < 17 → ∀ i, i < 18 → ∀ j, j < 18 → i ≤ n + 1 → fX8_place (nc n) (nI i) (nI j) = some (nI (pl n i j)) := by decide +kernel
set_option maxRecDepth 100000 in
theorem pts7 : ∀ n, n < 17 → fX1_points (nI n) = some (nI (pts n)) := by decide +kernel
set_option maxRecDepth 100000 in
theorem pts8c : ∀ n, n < 17 → fX8_points (nc n) = some (nI (pts n)) := by decide +kernel
set_option maxRecDepth 100000 in
theorem nbs7 : ∀ n, n < 17 → fX1_numbers (nI n) = some (nI (2 * n * n)) := by decide +kernel
set_option maxRecDepth 100000 in
theorem nbs8c : ∀ n, n < 17 → fX8_numbers (nc n) = some (nI (2 * n * n)) := by decide +kernel
set_option maxRecDepth 100000 in
theorem nbs_le : ∀ n, n < 17 → 2 * n * n ≤ 512 := by decide +kernel
set_option maxRecDepth 100000 in
theorem ci7 : ∀ n, n < 17 → ∀ c, c < 2 * n * n → fX1_cellI (nI n) (nI c) = some (nI (c / 2 / n)) := by decide +kernel
set_option maxRecDepth 100000 in
theorem cj7 : ∀ n, n < 17 → ∀ c, c < 2 * n * n → fX1_cellJ (nI n) (nI c) = some (nI (c / 2 % n)) := by decide +kernel
set_option maxRecDepth 100000 in
theorem ci8c : ∀ n, n < 17 → ∀ c, c < 2 * n * n → fX8_cellI (nc n) (nI c) = some (nI (c / 2 / n)) := by decide +kernel
set_option maxRecDepth 100000 in
theorem cj8c : ∀ n, n < 17 → ∀ c, c < 2 * n * n → fX8_cellJ (nc n) (nI c) = some (nI (c / 2 % n)) := by decide +kernel
set_option maxRecDepth 100000 in
theorem isc7 : ∀ n, n < 17 → ∀ c, c < 2 * n * n → fX1_isCell (nI n) (nI c) = some (bI (cel n c)) := by decide +kernel
set_option maxRecDepth 100000 in
theorem isc8c : ∀ n, n < 17 → ∀ c, c < 2 * n * n → fX8_isCell (nc n) (nI c) = some (bI (cel n c)) := by decide +kernel
set_option maxRecDepth 100000 in
theorem co_lt : ∀ n, n < 17 → ∀ c, c < 2 * n * n → cel n c = true → ∀ k, k < 3 → co n c k < pts n := by decide +kernel
set_option maxRecDepth 100000 in
theorem co8c : ∀ n, n < 17 → ∀ c, c < 2 * n * n → ∀ k, k < 3 → fX8_corner (nc n) (nI c) (nI k) = some (nI (co n c k)) := by decide +kernel
set_option maxRecDepth 100000 in
theorem bey7 : ∀ n, n < 17 → ∀ c, c < 2 * n * n → cel n c = true → ∀ e, e < 3 → fX1_beyond (nI n) (nI c) (nI e) = some (oI (bey n c e)) := by decide +kernel
set_option maxRecDepth 100000 in
theorem bey8c : ∀ n, n < 17 → ∀ c, c < 2 * n * n → cel n c = true → ∀ e, e < 3 → fX8_beyond (nc n) (nI c) (nI e) = some (oI (bey n c e)) := by decide +kernel
set_option maxRecDepth 100000 in
theorem prc7 : ∀ n, n < 17 → ∀ i, i < n + 1 → ∀ j, j < n + 1 - i → ∀ g, g < 3 → fX1_price (nI n) (nI i) (nI j) (nI g) = some (nI (prc n i j g)) := by decide +kernel
set_option maxRecDepth 100000 in
theorem prc8c : ∀ n, n < 17 → ∀ i, i < n + 1 → ∀ j, j < n + 1 - i → ∀ g, g < 3 → fX8_price (nc n) (nI i) (nI j) (nI g) = some (nI (prc n i j g)) := by decide +kernel
set_option maxRecDepth 100000 in
theorem can7 : ∀ n, n < 17 → ∀ i, i < n + 1 → ∀ j, j < n + 1 - i → ∀ g, g < 3 → fX1_canHave (nI n) (nI i) (nI j) (nI g) = some (bI (decide (0 < prc n i j g))) := by decide +kernel
set_option maxRecDepth 100000 in
theorem can8c : ∀ n, n < 17 → ∀ i, i < n + 1 → ∀ j, j < n + 1 - i → ∀ g, g < 3 → fX8_canHave (nc n) (nI i) (nI j) (nI g) = some (bI (decide (0 < prc n i j g))) := by decide +kernel
end DEC
