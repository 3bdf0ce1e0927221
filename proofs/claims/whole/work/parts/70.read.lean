/-! Reading the text; map. -/
section RDG
set_option maxRecDepth 100000 in
theorem b255 : ∀ b, b < 256 → ((nI b).toInt8.toInt32) &&& (255 : Int32) = nI b := by decide +kernel
/-- the sign at p, its digit -/
def chT (L : Nat) (B : Nat → Nat) (p : Nat) : Int32 := if p < L then nI (B p) else -1
def dgt (L : Nat) (B : Nat → Nat) (p : Nat) : Option Nat := if p < L ∧ 48 ≤ B p ∧ B p ≤ 57 then some (B p - 48) else none
theorem dgt_le {L : Nat} {B : Nat → Nat} {p d : Nat} (h : dgt L B p = some d) : d ≤ 9 ∧ p < L ∧ B p = d + 48 := by
  unfold dgt at h
  split at h
  · next h1 => cases h; omega
  · cases h
variable {L : Nat} {B : Nat → Nat} {sg tx : Nat → Int32}
theorem at7 (h : TX L B sg tx) {p : Nat} (hp : p < 2 ^ 31) : fX6_at (nI L) sg (nI p) = some (chT L B p) := by
  have hL := h.1
  unfold fX6_at chT
  rw [if_neg (nI_pos hp)]
  by_cases h1 : p < L
  · rw [if_neg (nI_ge h1 (by omega)), if_neg (show ¬ (80 : Int32) ≤ nI p from nI_ge (show p < 80 by omega) (by decide)), ald_in (by omega) (by decide), obs, (h.2 p h1).2.1, if_pos h1]
  · rw [if_pos (nI_le (by omega) hp), if_neg h1]
theorem here8 (h : TX L B sg tx) {p : Nat} (hp : p < 2 ^ 31) : fX8_here (nI p) (nI L) tx = some (chT L B p) := by
  have hL := h.1
  unfold fX8_here chT
  by_cases h1 : p < L
  · obtain ⟨b1, -, b3⟩ := h.2 p h1
    rw [if_neg (nI_ge h1 (by omega)), ald_in (by omega) (by decide), obs, b3, b255 _ b1, if_pos h1]
  · rw [if_pos (nI_le (by omega) hp), if_neg h1]
theorem digit7 (h : TX L B sg tx) {p : Nat} (hp : p < 2 ^ 31) : fX6_digit (nI L) sg (nI p) = some (oI (dgt L B p)) := by
  unfold fX6_digit dgt
  rw [at7 h hp, obs]
  unfold chT
  by_cases h1 : p < L
  · have hb := (h.2 p h1).1
    rw [if_pos h1]
    by_cases h2 : 48 ≤ B p
    · rw [if_neg (show ¬ nI (B p) < 48 from nI_nlt (b := 48) h2 (by omega))]
      by_cases h3 : B p ≤ 57
      · rw [if_neg (show ¬ (57 : Int32) < nI (B p) from nI_nlt (a := 57) h3 (by decide)), if_pos ⟨h1, h2, h3⟩, show (48 : Int32) = nI 48 from rfl, pk_sub h2]; rfl
      · rw [if_pos (show (57 : Int32) < nI (B p) from nI_lt (a := 57) (by omega) (by omega)), if_neg (by omega)]; rfl
    · rw [if_pos (show nI (B p) < 48 from nI_lt (b := 48) (by omega) (by decide)), if_neg (by omega)]; rfl
  · rw [if_neg h1, if_pos (show (-1 : Int32) < 48 by decide), if_neg (by omega)]; rfl
theorem fine8 : fX8_fine (-1) = some 1 := rfl
theorem fine8w {w : Int32} (h : ¬ w = -1) : fX8_fine w = some 0 := by
  unfold fX8_fine
  rw [if_neg h]
theorem fault8 (p : Int32) : fX8_fault (-1) p = some p := rfl
theorem fault8w {w : Int32} (h : ¬ w = -1) (p : Int32) : fX8_fault w p = some w := by
  unfold fX8_fault
  rw [fine8w h, obs, if_pos rfl]
/-- one of c signs from a on -/
theorem one8 (h : TX L B sg tx) {p a c : Nat} (hp : p < 100) (hc1 : 1 ≤ c) (hac : a + c ≤ 128) : fX8_oneOf (nI L) tx (nI p) (-1) (nI a) (nI c) = if p < L ∧ a ≤ B p ∧ B p < a + c then some (nI (B p - a), nI (p + 1), -1) else some (0, nI p, nI p) := by
  have hL := h.1
  unfold fX8_oneOf fX8_in
  have e1 : nI (a + c) - 1 = nI (a + c - 1) := by rw [show (1 : Int32) = nI 1 from rfl, pk_sub (by omega)]
  rw [fine8, obs, if_neg n10, here8 h (by omega), obs, nI_add, e1, fault8]
  unfold chT
  by_cases h1 : p < L
  · obtain ⟨hb, -, b3⟩ := h.2 p h1
    rw [if_pos h1]
    by_cases h2 : a ≤ B p
    · rw [if_neg (nI_nlt h2 (by omega))]
      by_cases h3 : B p < a + c
      · rw [if_neg (nI_nlt (show B p ≤ a + c - 1 by omega) (by omega)), obs, if_neg n10, if_pos ⟨h1, h2, h3⟩, nI_1, obs, show nI (p + 1) - 1 = nI p from nI_pred p, ald_in (by omega) (by decide), obs, b3, fa_byte_small (show B p < 128 by omega), pk_sub h2]
      · rw [if_pos (nI_lt (show a + c - 1 < B p by omega) (by omega)), obs, if_pos rfl, if_neg (by omega), obs]
    · rw [if_pos (nI_lt (by omega) (by omega)), obs, if_pos rfl, if_neg (by omega), obs]
  · rw [if_neg h1, if_pos (show (-1 : Int32) < nI a by rw [fa_lt, nI_toInt (by omega)]; show (-1 : Int) < _; omega), obs, if_pos rfl, if_neg (by omega), obs]
theorem one8w {w : Int32} (hw : ¬ w = -1) (p a c : Int32) : fX8_oneOf (nI L) tx p w a c = some (0, p, w) := by
  unfold fX8_oneOf
  rw [fine8w hw, obs, if_pos rfl]
theorem one8d (h : TX L B sg tx) {p : Nat} (hp : p < 100) : fX8_oneOf (nI L) tx (nI p) (-1) 48 10 = match dgt L B p with | some d => some (nI d, nI (p + 1), -1) | none => some (0, nI p, nI p) := by
  have e := one8 h (a := 48) (c := 10) hp (by decide) (by decide)
  have e : fX8_oneOf (nI L) tx (nI p) (-1) 48 10 = _ := e
  rw [e]
  unfold dgt
  by_cases h1 : p < L ∧ 48 ≤ B p ∧ B p ≤ 57
  · rw [if_pos (by omega), if_pos h1]
  · rw [if_neg (by omega), if_neg h1]
/-- was it right: what is wrong -/
theorem right8 {p : Nat} (hp : p < 100) (hL : L ≤ 80) : fX8_wasRight (nI p) (nI L) (-1) = if L ≤ p then some (1, -1) else some (0, nI p) := by
  unfold fX8_wasRight fX8_wasRight_b19
  by_cases h1 : L ≤ p
  · rw [if_pos (nI_le h1 (by omega)), if_pos h1, fine8, obs]
  · rw [if_neg (nI_ge (by omega) (by omega)), if_neg h1, fault8, obs, fine8w (nI_m1 (by omega)), obs]
theorem right8w {w : Int32} (hw : ¬ w = -1) (p : Int32) : fX8_wasRight p (nI L) w = some (0, w) := by
  unfold fX8_wasRight fX8_wasRight_b19
  split
  · rw [fine8w hw, obs]
  · rw [fault8w hw, obs, fine8w hw, obs]
variable {z kd tr : Int32} {m o wd now : Nat → Int32} {P : Nat → Int64} {nx sz : Nat} {hd : Nat → Option SD} {U iK K : Nat → Int32}
def fmB (L : Nat) (B : Nat → Nat) (p : Nat) : Bool := (dgt L B p).isNone
def atM (L : Nat) (B : Nat → Nat) (k : Nat) : Int32 := match fs (fmB L B) k with | none => nI k | some q => nI q
def wrM (L : Nat) (B : Nat → Nat) (k : Nat) : Int32 := match fs (fmB L B) k with | none => -1 | some q => nI q
def vlM (L : Nat) (B : Nat → Nat) (k : Nat) : Int32 := match fs (fmB L B) (k + 1) with | none => oI (dgt L B k) | some _ => 0
def wrR (L : Nat) (B : Nat → Nat) : Int32 := match fs (fmB L B) 9 with | some q => nI q | none => if L ≤ 9 then -1 else 9
theorem m_map (h : SR z kd tr m o wd P now) (hH : HR nx sz hd U) (hK : KR hd iK K) (hT : TX L B sg tx) (W : Nat → Int32) (a8 l8 t8 w8 : Int32) (rd : Nat → Int32) :
    ∃ r nx' sz' m' kd' P' hd' r8 a8' l8' t8' uM' w8' now' rd' U' W', fX7_map z tr o wd sg (nI nx) (nI sz) m kd P (nI L) hd = some (r, nx', sz', m', kd', P', 0, hd') ∧ fX8_map tx a8 l8 t8 (nI L) (nI sz) w8 now rd U W = some (r8, a8', l8', t8', 0, uM', w8', now', rd', U', W') ∧ AF r r8 z kd' tr nx' sz' m' o wd now' P' hd' uM' U' iK K := by
  have hL := hT.1
  have hx := hH.1
  have hs := hH.2.1
  have hw7 : fX7_wrongInMap (nI L) sg = some (wrR L B) := by
    unfold fX7_wrongInMap
    have key := l_fs (F := fX7_wrongInMap_b2 (nI L) sg) (z := fun _ => none) (fun rc i => rc (nI i)) (fun q => some (nI q)) (fmB L B) 9 (by decide) (fun rc i hi hp => ?_) (fun rc i hi hp => ?_) (some (if L ≤ 9 then -1 else 9)) (fun rc => ?_)
    · refine key.trans ?_
      unfold wrR
      cases fs (fmB L B) 9 <;> rfl
    · show fX7_wrongInMap_b2 (nI L) sg rc _ = _
      unfold fX7_wrongInMap_b2
      rw [if_neg (show ¬ (9 : Int32) ≤ nI i from nI_ge hi (by decide)), digit7 hT (by omega), obs]
      unfold fmB at hp
      cases hd : dgt L B i with
      | none => rw [hd] at hp; cases hp
      | some d =>
        have := dgt_le hd
        rw [if_neg (oI_e (by omega)), obs, nI_1]
    · show fX7_wrongInMap_b2 (nI L) sg rc _ = _
      unfold fX7_wrongInMap_b2
      rw [if_neg (show ¬ (9 : Int32) ≤ nI i from nI_ge hi (by decide)), digit7 hT (by omega), obs]
      unfold fmB at hp
      cases hd : dgt L B i with
      | none => rw [if_pos oIn]
      | some d => rw [hd] at hp; cases hp
    · show fX7_wrongInMap_b2 (nI L) sg rc _ = _
      unfold fX7_wrongInMap_b2
      rw [if_pos (show (9 : Int32) ≤ nI 9 by decide)]
      by_cases h9 : L ≤ 9
      · rw [if_pos (show nI L ≤ 9 from nI_le (b := 9) h9 (by decide)), if_pos h9]
      · rw [if_neg (show ¬ nI L ≤ 9 from nI_ge (a := 9) (by omega) (by omega)), if_neg h9]
  have hlt : ∀ k q, fs (fmB L B) k = some q → q < k := fun k q h => (fs_lt h).1
  -- the reference's reading
  have hread : ∀ fin, (∀ rc, fX8_map_b11 tx rc (atM L B 9) (nI L) 0 0 (nI sz) (wrM L B 9) now (fa_fill (vlM L B) rd 9) U W (nI 9) = fin) → fX8_map tx a8 l8 t8 (nI L) (nI sz) w8 now rd U W = fin := fun fin hfin => by
    unfold fX8_map fX8_begin
    simp only [bd4, obs]
    have key := l_acc0 (F := fX8_map_b11 tx) (z := fun _ _ _ _ _ _ _ _ _ _ _ => none) (fun rc i => rc (atM L B i) (nI L) 0 0 (nI sz) (wrM L B i) now (fa_fill (vlM L B) rd i) U W (nI i)) 9 (by decide) fin (fun rc i hi => ?_) hfin
    · rw [fa_fill_0] at key
      exact key
    · show fX8_map_b11 tx rc _ _ _ _ _ _ _ _ _ _ _ = _
      unfold fX8_map_b11
      have e := fa_fill_succ (vlM L B) rd i
      rw [if_neg (show ¬ (9 : Int32) ≤ nI i from nI_ge hi (by decide))]
      unfold atM wrM
      rw [fs]
      cases hf : fs (fmB L B) i with
      | some q =>
        have hq := hlt i q hf
        have ev : vlM L B i = 0 := by unfold vlM; rw [fs, hf]
        simp only
        rw [one8w (nI_m1 (by omega))]
        simp only [bd3, obs]
        rw [ast_in (show i < 720 by omega) (by decide), obs, nI_1, ← ev, e]
      | none =>
        simp only
        rw [one8d hT (by omega)]
        cases hd : dgt L B i with
        | some d =>
          have ev : vlM L B i = nI d := by unfold vlM; rw [fs, hf, show fmB L B i = false by unfold fmB; rw [hd]; rfl, hd]; rfl
          have ef : fmB L B i = false := by unfold fmB; rw [hd]; rfl
          simp only [bd3, obs, ef]
          rw [ast_in (show i < 720 by omega) (by decide), obs, nI_1, ← ev, e]; rfl
        | none =>
          have ef : fmB L B i = true := by unfold fmB; rw [hd]; rfl
          have ev : vlM L B i = 0 := by unfold vlM; rw [fs, hf, ef]; rfl
          simp only [bd3, obs, ef]
          rw [ast_in (show i < 720 by omega) (by decide), obs, nI_1, ← ev, e]; rfl
  unfold fX7_map
  rw [hw7, obs]
  -- refusals
  have refuse : ∀ w : Int32, ¬ w < 0 → wrR L B = w → fX8_wasRight (atM L B 9) (nI L) (wrM L B 9) = some (0, w) → ∃ r nx' sz' m' kd' P' hd' r8 a8' l8' t8' uM' w8' now' rd' U' W', (if wrR L B = -1 then (fX7_sumOfMap (nI L) sg).bind fun v2 => fX7_map_b18 z tr o wd sg (nI nx) (nI sz) m kd P (nI L) hd (wrR L B) v2 else fX7_map_b18 z tr o wd sg (nI nx) (nI sz) m kd P (nI L) hd (wrR L B) (-1)) = some (r, nx', sz', m', kd', P', 0, hd') ∧ fX8_map tx a8 l8 t8 (nI L) (nI sz) w8 now rd U W = some (r8, a8', l8', t8', 0, uM', w8', now', rd', U', W') ∧ AF r r8 z kd' tr nx' sz' m' o wd now' P' hd' uM' U' iK K := fun w hw he h8 => by
    have hm1 : ¬ w = -1 := fun e => hw (by rw [e]; decide)
    rw [he, if_neg hm1]
    unfold fX7_map_b18 fX7_map_b73
    rw [if_pos (show (-1 : Int32) ≤ 0 by decide), if_neg hm1]
    refine ⟨_, _, _, _, _, _, _, _, _, _, _, _, _, _, _, _, _, rfl, hread (some (-1 - w, atM L B 9, nI L, 0, 0, nI sz, w, now, fa_fill (vlM L B) rd 9, U, W)) (fun rc => ?_), rfl, h, ⟨nx, sz, rfl, rfl, rfl, hH⟩, hK⟩
    unfold fX8_map_b11
    rw [if_pos (show (9 : Int32) ≤ nI 9 by decide), h8]
    simp only [bd2, obs, if_true]
  cases hf : fs (fmB L B) 9 with
  | some q =>
    have hq := hlt 9 q hf
    have := refuse (nI q) (nI_pos (by omega)) (by unfold wrR; rw [hf]) (by unfold atM wrM; rw [hf]; exact right8w (nI_m1 (by omega)) _)
    exact this
  | none =>
    by_cases h9 : L ≤ 9
    rotate_left
    · have := refuse 9 (by decide) (by unfold wrR; rw [hf]; simp only; rw [if_neg h9]) (by unfold atM wrM; rw [hf]; simp only; rw [right8 (by decide) hL, if_neg h9]; rfl)
      exact this
    have hdg : ∀ q, q < 9 → ∃ d, d ≤ 9 ∧ dgt L B q = some d := fun q hq => by
      rcases fs_cases (fmB L B) 9 with ⟨j, -, -, -, e⟩ | ⟨e, -⟩
      · rw [hf] at e; cases e
      · have := e q hq
        unfold fmB at this
        cases hd : dgt L B q with
        | none => rw [hd] at this; cases this
        | some d => exact ⟨d, (dgt_le hd).1, rfl⟩
    let M : Nat → Nat := fun q => (dgt L B q).getD 0
    have hM : ∀ q, q < 9 → M q ≤ 9 ∧ dgt L B q = some (M q) := fun q hq => by
      obtain ⟨d, h1, h2⟩ := hdg q hq
      have : M q = d := by show (dgt L B q).getD 0 = d; rw [h2]; rfl
      rw [this]; exact ⟨h1, h2⟩
    have hdig : ∀ q, q < 9 → fX6_digit (nI L) sg (nI q) = some (nI (M q)) := fun q hq => by rw [digit7 hT (by omega), (hM q hq).2]; rfl
    have hrd : ∀ q, q < 9 → fa_fill (vlM L B) rd 9 q = nI (M q) := fun q hq => by
      rw [fa_fill_in hq]
      unfold vlM
      have : fs (fmB L B) (q + 1) = none := fs_none (fun j hj => by
        rcases fs_cases (fmB L B) 9 with ⟨i, -, -, -, e⟩ | ⟨e, -⟩
        · rw [hf] at e; cases e
        · exact e j (by omega))
      rw [this, (hM q hq).2]; rfl
    have hrl : ∀ q, q < 9 → ald 720 (nI q) (fa_fill (vlM L B) rd 9) = some (nI (M q)) := fun q hq => by rw [ald_in (by omega) (by decide), hrd q hq]
    have d0 : fX6_digit (nI L) sg 0 = some (nI (M 0)) := hdig 0 (by decide)
    have d3 : fX6_digit (nI L) sg 3 = some (nI (M 3)) := hdig 3 (by decide)
    have d6 : fX6_digit (nI L) sg 6 = some (nI (M 6)) := hdig 6 (by decide)
    have d1 : fX6_digit (nI L) sg 1 = some (nI (M 1)) := hdig 1 (by decide)
    have d4 : fX6_digit (nI L) sg (1 + 3) = some (nI (M 4)) := hdig 4 (by decide)
    have d7 : fX6_digit (nI L) sg (1 + 6) = some (nI (M 7)) := hdig 7 (by decide)
    have d2 : fX6_digit (nI L) sg 2 = some (nI (M 2)) := hdig 2 (by decide)
    have d5 : fX6_digit (nI L) sg (2 + 3) = some (nI (M 5)) := hdig 5 (by decide)
    have d8 : fX6_digit (nI L) sg (2 + 6) = some (nI (M 8)) := hdig 8 (by decide)
    have r0 : ald 720 0 (fa_fill (vlM L B) rd 9) = some (nI (M 0)) := hrl 0 (by decide)
    have r1 : ald 720 1 (fa_fill (vlM L B) rd 9) = some (nI (M 1)) := hrl 1 (by decide)
    have r2 : ald 720 2 (fa_fill (vlM L B) rd 9) = some (nI (M 2)) := hrl 2 (by decide)
    have r3 : ald 720 3 (fa_fill (vlM L B) rd 9) = some (nI (M 3)) := hrl 3 (by decide)
    have r4 : ald 720 4 (fa_fill (vlM L B) rd 9) = some (nI (M 4)) := hrl 4 (by decide)
    have r5 : ald 720 5 (fa_fill (vlM L B) rd 9) = some (nI (M 5)) := hrl 5 (by decide)
    have r6 : ald 720 6 (fa_fill (vlM L B) rd 9) = some (nI (M 6)) := hrl 6 (by decide)
    have r7 : ald 720 7 (fa_fill (vlM L B) rd 9) = some (nI (M 7)) := hrl 7 (by decide)
    have r8 : ald 720 8 (fa_fill (vlM L B) rd 9) = some (nI (M 8)) := hrl 8 (by decide)
    have b0 := (hM 0 (by decide)).1
    have b1 := (hM 1 (by decide)).1
    have b2 := (hM 2 (by decide)).1
    have b3 := (hM 3 (by decide)).1
    have b4 := (hM 4 (by decide)).1
    have b5 := (hM 5 (by decide)).1
    have b6 := (hM 6 (by decide)).1
    have b7 := (hM 7 (by decide)).1
    have b8 := (hM 8 (by decide)).1
    have hwr : fX8_wasRight (atM L B 9) (nI L) (wrM L B 9) = some (1, -1) := by unfold atM wrM; rw [hf]; simp only; rw [right8 (by decide) hL, if_pos h9]
    have hwR : wrR L B = -1 := by unfold wrR; rw [hf]; simp only; rw [if_pos h9]
    rw [hwR, if_pos rfl]
    have hsum7 : fX7_sumOfMap (nI L) sg = some (if M 1 + M 4 + M 7 = M 0 + M 3 + M 6 ∧ M 2 + M 5 + M 8 = M 0 + M 3 + M 6 then nI (M 0 + M 3 + M 6) else -1) := by
      unfold fX7_sumOfMap
      rw [d0, obs, d3, obs, d6, obs, obs, lf4]
      generalize lfix (fX7_sumOfMap_b30 (nI L) sg) _ 4092 = R
      unfold fX7_sumOfMap_b30
      simp only [if_neg (show ¬ (3 : Int32) ≤ 1 by decide), d1, d4, d7, obs, show (1 : Int32) + 1 = 2 by decide, if_neg (show ¬ (3 : Int32) ≤ 2 by decide), d2, d5, d8, show (2 : Int32) + 1 = 3 by decide, if_pos (show (3 : Int32) ≤ 3 by decide), nI_add]
      by_cases q1 : M 1 + M 4 + M 7 = M 0 + M 3 + M 6
      · rw [if_pos (by rw [q1])]
        by_cases q2 : M 2 + M 5 + M 8 = M 0 + M 3 + M 6
        · rw [if_pos (by rw [q2]), if_pos ⟨q1, q2⟩]
        · rw [if_neg (fun e => q2 ((nI_eq (by omega) (by omega)).mp e)), if_neg (fun e => q2 e.2)]
      · rw [if_neg (fun e => q1 ((nI_eq (by omega) (by omega)).mp e)), if_neg (fun e => q1 e.1)]
    rw [hsum7, obs]
    by_cases hgood : (M 1 + M 4 + M 7 = M 0 + M 3 + M 6 ∧ M 2 + M 5 + M 8 = M 0 + M 3 + M 6) ∧ 0 < M 0 + M 3 + M 6
    rotate_left
    · -- sums unlike, or 0
      have hle : (if M 1 + M 4 + M 7 = M 0 + M 3 + M 6 ∧ M 2 + M 5 + M 8 = M 0 + M 3 + M 6 then nI (M 0 + M 3 + M 6) else -1) ≤ 0 := by
        by_cases q : M 1 + M 4 + M 7 = M 0 + M 3 + M 6 ∧ M 2 + M 5 + M 8 = M 0 + M 3 + M 6
        · rw [if_pos q]
          have : M 0 + M 3 + M 6 = 0 := by
            cases hq : M 0 + M 3 + M 6 with
            | zero => rfl
            | succ k => exact absurd ⟨q, by omega⟩ hgood
          rw [this]; decide
        · rw [if_neg q]; decide
      unfold fX7_map_b18 fX7_map_b73
      rw [if_pos hle, if_pos rfl, if_pos hle]
      refine ⟨_, _, _, _, _, _, _, _, _, _, _, _, _, _, _, _, _, rfl, hread (some (-200, atM L B 9, nI L, 0, 0, nI sz, -1, now, fa_fill (vlM L B) rd 9, U, W)) (fun rc => ?_), rfl, h, ⟨nx, sz, rfl, rfl, rfl, hH⟩, hK⟩
      unfold fX8_map_b11
      rw [if_pos (show (9 : Int32) ≤ nI 9 by decide), hwr]
      simp only [bd2, obs, if_neg n10, r0, r3, r6, r1, r4, r7, r2, r5, r8, nI_add]
      by_cases q0 : M 0 + M 3 + M 6 = 0
      · rw [if_pos (by rw [q0]; rfl)]
      · rw [if_neg (nI_n0 (by omega) (by omega))]
        by_cases q1 : M 1 + M 4 + M 7 = M 0 + M 3 + M 6
        · rw [if_pos (by rw [q1])]
          by_cases q2 : M 2 + M 5 + M 8 = M 0 + M 3 + M 6
          · exact absurd ⟨⟨q1, q2⟩, by omega⟩ hgood
          · rw [if_neg (fun e => q2 ((nI_eq (by omega) (by omega)).mp e))]
        · rw [if_neg (fun e => q1 ((nI_eq (by omega) (by omega)).mp e))]
    obtain ⟨⟨q1, q2⟩, q0⟩ := hgood
    generalize hS : M 0 + M 3 + M 6 = S at *
    rw [if_pos ⟨q1, q2⟩]
    have hX : MX M S := ⟨fun q hq => (hM q hq).1, hS, q1, q2⟩
    obtain ⟨hd', e1, e2, d, e3, e4⟩ := note7 h hx hd
    obtain ⟨n, hn1, hn, rfl, hR, hSp, hU⟩ := h
    -- the class's pulls
    have hrm : fX4_readMap (nI L) sg kd P (nI S) = some (2, plF (qM M S) P 9) := by
      unfold fX4_readMap
      have key := l_acc0 (F := fX4_readMap_b7 (nI L) sg) (z := fun _ _ _ _ => none) (fun rc q => rc 2 (plF (qM M S) P (3 * q)) (nI S) (nI q)) 3 (by decide) (some (2, plF (qM M S) P 9)) (fun rc q hq => ?_) (fun rc => rfl)
      · rw [plF_0] at key
        exact key
      · show fX4_readMap_b7 (nI L) sg rc _ _ _ _ = _
        unfold fX4_readMap_b7
        rw [if_neg (show ¬ (3 : Int32) ≤ nI q from nI_ge hq (by decide))]
        refine l_acc0 (F := fX4_readMap_b15 (nI L) sg rc) (z := fun _ _ _ _ _ => none) (fun r hh => r 2 (plF (qM M S) P (3 * q + hh)) (nI S) (nI q) (nI hh)) 3 (by decide) _ (fun r hh hhh => ?_) (fun r => ?_)
        · show fX4_readMap_b15 (nI L) sg rc r _ _ _ _ _ = _
          unfold fX4_readMap_b15 fX4_readMap_b52
          have hmq := (hM (3 * q + hh) (by omega)).1
          have e := plF_s (qM M S) P (3 * q + hh)
          rw [show (3 * q + hh) / 3 = q by omega, show (3 * q + hh) % 3 = hh by omega] at e
          rw [if_neg (show ¬ (3 : Int32) ≤ nI hh from nI_ge hhh (by decide)), show (3 : Int32) * nI q + nI hh = nI (3 * q + hh) by rw [show (3 : Int32) = nI 3 from rfl, pk_mul, nI_add], hdig _ (by omega), obs, astL_in (by omega) (by decide), astL_in (by omega) (by decide)]
          simp only [obs, nI_1]
          unfold qM at e
          by_cases hqh : q = hh
          · rw [if_pos (by rw [hqh]), nI_zI _ _ (by omega) (by omega), zI_w (by omega) (by omega)]
            rw [if_pos hqh] at e
            unfold qM
            rw [e, Nat.add_assoc]
          · rw [if_neg (fun e => hqh ((nI_eq (by omega) (by omega)).mp e)), show (0 : Int32) = nI 0 from rfl, nI_zI _ _ (by omega) (by omega), zI_w (by omega) (by omega)]
            rw [if_neg hqh] at e
            unfold qM
            rw [show (((0 : Nat) : Int)) = (0 : Int) from rfl, e, Nat.add_assoc]
        · show fX4_readMap_b15 (nI L) sg rc r _ _ _ _ _ = _
          unfold fX4_readMap_b15
          rw [if_pos (show (3 : Int32) ≤ nI 3 by decide), obs, nI_1]; rfl
    -- the reference's map
    have hU' : RUL 2 tr o wd (plF (qM M S) P 9) (upd (fb_put now (fun q => nI (M q)) 27 9) 1 2) := by
      refine ⟨if_pos rfl, Or.inr (Or.inr ⟨rfl, M, S, hX, fun q hq => ?_, plF_9 _ _⟩)⟩
      rw [show upd (fb_put now (fun q => nI (M q)) 27 9) 1 2 (27 + q) = fb_put now (fun q => nI (M q)) 27 9 (27 + q) from if_neg (by omega), fb_put_in (by omega) (by omega), Nat.add_sub_cancel_left]
    have h0' : upd (fb_put now (fun q => nI (M q)) 27 9) 1 2 0 = nI n := by
      rw [show upd (fb_put now (fun q => nI (M q)) 27 9) 1 2 0 = fb_put now (fun q => nI (M q)) 27 9 0 from if_neg (by decide), fb_put_out (Or.inl (by decide))]; exact hR.1
    obtain ⟨m', now', l1, l2, l3, l4, l5⟩ := laidR hU' (by decide) h0' hn hn1 m
    unfold fX7_map_b18 fX7_map_b73
    have hpos : ¬ nI S ≤ 0 := nI_ge (a := 0) q0 (by omega)
    rw [if_neg hpos, e1, obs, hold7 hx hs]
    simp only [bd2, obs]
    rw [hrm]
    simp only [obs]
    rw [l1, obs, if_pos trivial, if_neg hpos]
    refine ⟨_, _, _, _, _, _, _, _, _, _, _, _, _, _, _, _, _, rfl, hread (some (nI S, atM L B 9, nI L, 0, 0, nI (unS sz), -1, now', fa_fill (vlM L B) rd 9, unU U (fa_fill now W 189) sz, fa_fill now W 189)) (fun rc => ?_), rfl, ⟨n, hn1, hn, rfl, l3, l4, RUL_ag hU' l5⟩, ⟨_, _, rfl, rfl, rfl, HR_hold hH e2 e3 e4 (fun q hq => fa_fill_in hq)⟩, KR_noted hK hx e2⟩
    unfold fX8_map_b11
    rw [if_pos (show (9 : Int32) ≤ nI 9 by decide), hwr]
    simp only [bd2, obs, if_neg n10, r0, r3, r6, r1, r4, r7, r2, r5, r8, nI_add]
    rw [hS, if_neg (nI_n0 (by omega) (by omega)), if_pos (by rw [q1]), if_pos (by rw [q2]), change8 _ _ hs]
    simp only [bd3, obs]
    have key := l_acc0 (F := fX8_map_b137 tx) (z := fun _ _ _ _ _ _ _ _ _ _ _ _ => none) (fun rc q => rc (atM L B 9) (nI L) 0 0 (nI (unS sz)) (-1) (fb_put now (fun q => nI (M q)) 27 q) (fa_fill (vlM L B) rd 9) (unU U (fa_fill now W 189) sz) (fa_fill now W 189) (nI S) (nI q)) 9 (by decide) (some (nI S, atM L B 9, nI L, 0, 0, nI (unS sz), -1, now', fa_fill (vlM L B) rd 9, unU U (fa_fill now W 189) sz, fa_fill now W 189)) (fun rc q hq => ?_) (fun rc => ?_)
    · rw [fb_put_0] at key
      exact key
    · show fX8_map_b137 tx rc _ _ _ _ _ _ _ _ _ _ _ _ = _
      unfold fX8_map_b137
      have e := fb_put_succ now (fun q => nI (M q)) 27 q
      rw [if_neg (show ¬ (9 : Int32) ≤ nI q from nI_ge hq (by decide)), hrl q hq, obs, show (27 : Int32) + nI q = nI (27 + q) from nI_add 27 q, ast_in (by omega) (by decide), obs, obs, nI_1, e]
    · show fX8_map_b137 tx rc _ _ _ _ _ _ _ _ _ _ _ _ = _
      unfold fX8_map_b137
      rw [if_pos (show (9 : Int32) ≤ nI 9 by decide), ast1, obs, l2, obs]
end RDG
