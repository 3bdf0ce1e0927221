/-! exchange. -/
section EXC2
variable {L : Nat} {B : Nat → Nat} {sg tx : Nat → Int32} {z kd tr : Int32} {m o wd now : Nat → Int32} {P : Nat → Int64} {nx sz : Nat} {hd : Nat → Option SD} {U iK K : Nat → Int32}
theorem ex_body7 (hT : TX L B sg tx) {t : Nat} (ht : t < 4) (rc : Int32 → Option Int32) : fX7_wrongInExchange_b2 (nI L) sg rc (nI t) = match fs (exB L B t) 6 with | some q => some (nI (7 * t + q)) | none => if 7 * t + 6 = L then some (-1) else if chT L B (7 * t + 6) = 59 then (if t = 3 then some (nI (7 * t + 6)) else rc (nI (t + 1))) else some (nI (7 * t + 6)) := by
  have hL := hT.1
  unfold fX7_wrongInExchange_b2
  have e1 : (7 : Int32) * nI t = nI (7 * t) := by rw [show (7 : Int32) = nI 7 from rfl, pk_mul]
  have e2 : (nI (7 * t) + 7) - 1 = nI (7 * t + 6) := by rw [show (7 : Int32) = nI 7 from rfl, nI_add]; exact nI_pred (7 * t + 6)
  rw [if_neg (show ¬ (4 : Int32) ≤ nI t from nI_ge ht (by decide)), obs, e1, obs, e2]
  have key := l_fs (F := fX7_wrongInExchange_b22 (nI L) sg rc) (z := fun _ _ _ _ => none) (fun r q => r (nI t) (nI (7 * t)) (nI (7 * t + 6)) (nI (7 * t + q))) (fun q => some (nI (7 * t + q))) (exB L B t) 6 (by decide) (fun r q hq hp => ?_) (fun r q hq hp => ?_) (if 7 * t + 6 = L then some (-1) else if chT L B (7 * t + 6) = 59 then (if t = 3 then some (nI (7 * t + 6)) else rc (nI (t + 1))) else some (nI (7 * t + 6))) (fun r => ?_)
  · exact key
  · show fX7_wrongInExchange_b22 (nI L) sg rc r _ _ _ _ = _
    unfold fX7_wrongInExchange_b22 fX7_wrongInExchange_b41
    rw [if_neg (nI_ge (by omega) (by omega)), pk_sub (by omega), show 7 * t + q - 7 * t = q by omega, digit7 hT (by omega)]
    simp only [obs, nI_1]
    unfold exB at hp
    cases hd : dgt L B (7 * t + q) with
    | none => rw [hd] at hp; cases hp
    | some d =>
      rw [hd] at hp
      have hd9 := dgt_le hd
      have hc : ¬ (3 ≤ q ∧ d < 1) := of_decide_eq_false hp
      show (if 3 ≤ nI q then (if 1 ≤ nI d then _ else _) else (if 0 ≤ nI d then _ else _)) = _
      by_cases h3 : 3 ≤ q
      · rw [if_pos (show (3 : Int32) ≤ nI q from nI_le (a := 3) h3 (by omega)), if_pos (show (1 : Int32) ≤ nI d from nI_le (a := 1) (by omega) (by omega))]; rfl
      · rw [if_neg (show ¬ (3 : Int32) ≤ nI q from nI_ge (b := 3) (by omega) (by decide)), if_pos (show (0 : Int32) ≤ nI d from nI_le (a := 0) (by omega) (by omega))]; rfl
  · show fX7_wrongInExchange_b22 (nI L) sg rc r _ _ _ _ = _
    unfold fX7_wrongInExchange_b22 fX7_wrongInExchange_b41
    rw [if_neg (nI_ge (by omega) (by omega)), pk_sub (by omega), show 7 * t + q - 7 * t = q by omega, digit7 hT (by omega)]
    simp only [obs, nI_1]
    unfold exB at hp
    cases hd : dgt L B (7 * t + q) with
    | none =>
      rw [if_neg (show ¬ (1 : Int32) ≤ oI none by decide), if_neg (show ¬ (0 : Int32) ≤ oI none by decide), ite_self]
    | some d =>
      rw [hd] at hp
      have hd9 := dgt_le hd
      have hc : 3 ≤ q ∧ d < 1 := of_decide_eq_true hp
      rw [if_pos (show (3 : Int32) ≤ nI q from nI_le (a := 3) hc.1 (by omega)), if_neg (show ¬ (1 : Int32) ≤ oI (some d) from nI_ge (b := 1) hc.2 (by decide))]
  · show fX7_wrongInExchange_b22 (nI L) sg rc r _ _ _ _ = _
    unfold fX7_wrongInExchange_b22
    rw [if_pos (nI_le (Nat.le_refl _) (by omega)), at7 hT (by omega), obs, obs, nI_1]
    by_cases h1 : 7 * t + 6 = L
    · rw [if_pos (by rw [h1]), if_pos h1]
    · rw [if_neg (fun e => h1 ((nI_eq (by omega) (by omega)).mp e)), if_neg h1]
      by_cases h2 : chT L B (7 * t + 6) = 59
      · rw [if_pos h2, if_pos h2]
        by_cases h3 : t = 3
        · rw [if_pos (show nI t = 3 by rw [h3]; rfl), if_pos h3]
        · rw [if_neg (show ¬ nI t = 3 from fun e => h3 ((nI_eq (b := 3) (by omega) (by decide)).mp e)), if_neg h3]
      · rw [if_neg h2, if_neg h2]
/-- what the reference does once the text is right -/
def ex8ok (tx : Nat → Int32) (at8 L s : Int32) (now rd U W : Nat → Int32) (T : Int32) : Option (Int32 × Int32 × Int32 × Int32 × Int32 × Int32 × Int32 × (Nat → Int32) × (Nat → Int32) × (Nat → Int32) × (Nat → Int32)) := bd3 (fX8_change now s U W) fun v3 v4 v5 => (ast 189 2 now T).bind fun v6 => lfix (fX8_exchange_b154 tx) (fun _ _ _ _ _ _ _ _ _ _ _ _ => none) FU at8 L 0 0 v3 (-1) v6 rd v4 v5 T 0
theorem ex_end {p : Nat} (hL : L ≤ 80) (hp : p < 100) (rc) (s : Int32) (now rd U W : Nat → Int32) (T : Int32) : fX8_exchange_b13 tx rc (nI p) (nI L) 0 0 s (-1) now rd U W T 0 = if L ≤ p then ex8ok tx (nI p) (nI L) s now rd U W T else some (-1 - nI p, nI p, nI L, 0, 0, s, nI p, now, rd, U, W) := by
  unfold fX8_exchange_b13 ex8ok
  rw [if_pos rfl, right8 hp hL]
  by_cases h1 : L ≤ p
  · rw [if_pos h1, if_pos h1]
    simp only [bd2, obs, if_neg n10]
  · rw [if_neg h1, if_neg h1]
    simp only [bd2, obs, if_true]
theorem ex_endw {w : Int32} (hw : ¬ w = -1) (p : Int32) (rc) (s : Int32) (now rd U W : Nat → Int32) (T : Int32) : fX8_exchange_b13 tx rc p (nI L) 0 0 s w now rd U W T 0 = some (-1 - w, p, nI L, 0, 0, s, w, now, rd, U, W) := by
  unfold fX8_exchange_b13
  rw [if_pos rfl, right8w hw]
  simp only [bd2, obs, if_true]
theorem ex_ind (hT : TX L B sg tx) (s : Int32) (now U W : Nat → Int32) : ∀ (k t fuel fuel8 : Nat), t + k = 4 → 1 ≤ k → k < fuel → k + 3 < fuel8 → ∀ rd, RDx L B t rd → (∀ u, u < t → fs (exB L B u) 6 = none) →
    (∃ w a8' rd', w < 80 ∧ lfix (fX7_wrongInExchange_b2 (nI L) sg) (fun _ => none) fuel (nI t) = some (nI w) ∧ lfix (fX8_exchange_b13 tx) (fun _ _ _ _ _ _ _ _ _ _ _ _ => none) fuel8 (nI (7 * t)) (nI L) 0 0 s (-1) now rd U W (nI t) 1 = some (-1 - nI w, a8', nI L, 0, 0, s, nI w, now, rd', U, W)) ∨
    (∃ T a8' rd', 1 ≤ T ∧ T ≤ 4 ∧ L = 7 * (T - 1) + 6 ∧ lfix (fX7_wrongInExchange_b2 (nI L) sg) (fun _ => none) fuel (nI t) = some (-1) ∧ (∀ u, u < T → fs (exB L B u) 6 = none) ∧ RDx L B T rd' ∧ lfix (fX8_exchange_b13 tx) (fun _ _ _ _ _ _ _ _ _ _ _ _ => none) fuel8 (nI (7 * t)) (nI L) 0 0 s (-1) now rd U W (nI t) 1 = ex8ok tx a8' (nI L) s now rd' U W (nI T)) := by
  have hL := hT.1
  intro k
  induction k with
  | zero => intro t fuel fuel8 h1 h2; omega
  | succ k ih =>
    intro t fuel fuel8 h1 h2 h3 h4 rd hrd hold
    obtain ⟨q, rfl⟩ : ∃ q, fuel = q + 1 := ⟨fuel - 1, by omega⟩
    obtain ⟨p, rfl⟩ : ∃ p, fuel8 = p + 1 + 1 + 1 := ⟨fuel8 - 3, by omega⟩
    have ht : t < 4 := by omega
    rw [lfs (fX7_wrongInExchange_b2 (nI L) sg), lfs (fX8_exchange_b13 tx) _ (p + 1 + 1), ex_body7 hT ht]
    rcases ex_body8 (lfix (fX8_exchange_b13 tx) (fun _ _ _ _ _ _ _ _ _ _ _ _ => none) (p + 1 + 1)) hT s now rd U W ht with ⟨r, rd', hr, hf, e⟩ | ⟨rd', hf, hr1, hr2, e⟩
    · left
      have hlt : 7 * t + r < L + 1 ∨ L + 1 ≤ 7 * t + r := by omega
      refine ⟨7 * t + r, nI (7 * t + r), rd', by omega, by rw [hf], ?_⟩
      rw [e, lfs, ex_endw (nI_m1 (by omega))]
    · have hrd' : RDx L B (t + 1) rd' := fun u hu r hr => by
        by_cases h9 : u = t
        · rw [h9]; exact hr2 r hr
        · rw [hr1 _ (by omega)]; exact hrd u (by omega) r hr
      have hold' : ∀ u, u < t + 1 → fs (exB L B u) 6 = none := fun u hu => by
        by_cases h9 : u = t
        · rw [h9]; exact hf
        · exact hold u (by omega)
      have hLge : 7 * t + 6 ≤ L := by
        have h5 : exB L B t 5 = false := by
          rcases fs_cases (exB L B t) 6 with ⟨j, -, -, -, x⟩ | ⟨x, -⟩
          · rw [hf] at x; cases x
          · exact x 5 (by decide)
        unfold exB at h5
        cases hd : dgt L B (7 * t + 5) with
        | none => rw [hd] at h5; cases h5
        | some d => have := dgt_le hd; omega
      rw [hf, e]
      simp only
      by_cases hb : 7 * t + 6 = L
      · right
        have hch : ¬ chT L B (7 * t + 6) = 59 := by unfold chT; rw [if_neg (by omega)]; decide
        rw [if_pos hb, if_neg hch, lfs, ex_end hL (by omega), if_pos (by omega)]
        exact ⟨t + 1, _, rd', by omega, by omega, by omega, rfl, hold', hrd', rfl⟩
      · rw [if_neg hb]
        by_cases hch : chT L B (7 * t + 6) = 59
        · rw [if_pos hch, if_pos hch]
          by_cases h3 : t = 3
          · left
            rw [if_pos h3, h3]
            refine ⟨27, nI 28, rd', by decide, rfl, ?_⟩
            show lfix (fX8_exchange_b13 tx) (fun _ _ _ _ _ _ _ _ _ _ _ _ => none) (p + 1 + 1) (nI 28) (nI L) 0 0 s (-1) now rd' U W (nI 4) 1 = _
            rw [lfs]
            generalize hR : lfix (fX8_exchange_b13 tx) (fun _ _ _ _ _ _ _ _ _ _ _ _ => none) (p + 1) = R
            unfold fX8_exchange_b13
            rw [if_neg n10, if_pos (show nI 4 = (4 : Int32) from rfl), fault8, obs, show nI 28 - 1 = nI 27 from nI_pred 27, lf1, s34w R (nI_m1 (by decide)), ← hR, lfs, ex_endw (nI_m1 (by decide))]
          · rw [if_neg h3]
            have := ih (t + 1) q (p + 1 + 1) (by omega) (by omega) (by omega) (by omega) rd' hrd' hold'
            rw [show 7 * (t + 1) = 7 * t + 7 by omega] at this
            exact this
        · left
          rw [if_neg hch, if_neg hch, lfs, ex_end hL (by omega), if_neg (by omega)]
          exact ⟨7 * t + 6, _, rd', by omega, rfl, rfl⟩
/-- amounts and wishes written down by the reference -/
def exN (now A W : Nat → Int32) (q : Nat) : Nat → Int32 := fun k => if 3 ≤ k ∧ k < 3 + q then A (k - 3) else if 15 ≤ k ∧ k < 15 + q then W (k - 15) else now k
theorem exN_0 (now A W : Nat → Int32) : exN now A W 0 = now := by
  funext k
  unfold exN
  rw [if_neg (by omega), if_neg (by omega)]
theorem exN_s (now A W : Nat → Int32) {q : Nat} (hq : q < 12) : upd (upd (exN now A W q) (3 + q) (A q)) (15 + q) (W q) = exN now A W (q + 1) := by
  funext k
  unfold upd exN
  by_cases h1 : k = 15 + q
  · rw [if_pos h1, if_neg (by omega), if_pos (by omega), h1, Nat.add_sub_cancel_left]
  · rw [if_neg h1]
    by_cases h2 : k = 3 + q
    · rw [if_pos h2, if_pos (by omega), h2, Nat.add_sub_cancel_left]
    · rw [if_neg h2]
      by_cases h3 : 3 ≤ k ∧ k < 3 + q
      · rw [if_pos h3, if_pos (by omega)]
      · rw [if_neg h3, if_neg (show ¬ (3 ≤ k ∧ k < 3 + (q + 1)) by omega)]
        by_cases h4 : 15 ≤ k ∧ k < 15 + q
        · rw [if_pos h4, if_pos (show 15 ≤ k ∧ k < 15 + (q + 1) by omega)]
        · rw [if_neg h4, if_neg (show ¬ (15 ≤ k ∧ k < 15 + (q + 1)) by omega)]
theorem m_exchange (h : SR z kd tr m o wd P now) (hH : HR nx sz hd U) (hK : KR hd iK K) (hT : TX L B sg tx) (W : Nat → Int32) (a8 l8 t8 w8 : Int32) (rd : Nat → Int32) :
    ∃ r nx' sz' m' kd' tr' o' P' wd' hd' r8 a8' l8' t8' uM' w8' now' rd' U' W', fX7_exchange z sg (nI nx) (nI sz) m kd tr o P wd (nI L) hd = some (r, nx', sz', m', kd', tr', o', P', wd', 0, hd') ∧ fX8_exchange tx a8 l8 t8 (nI L) (nI sz) w8 now rd U W = some (r8, a8', l8', t8', 0, uM', w8', now', rd', U', W') ∧ AF r r8 z kd' tr' nx' sz' m' o' wd' now' P' hd' uM' U' iK K := by
  have hL := hT.1
  have hx := hH.1
  have hs := hH.2.1
  unfold fX7_exchange fX8_exchange fX7_wrongInExchange fX8_begin
  simp only [bd4, obs]
  rcases ex_ind hT (nI sz) now U W 4 0 FU FU (by decide) (by decide) (fu_lt (by decide)) (fu_lt (by decide)) rd (fun u hu => by omega) (fun u hu => by omega) with ⟨w, a8', rd', hw, e7, e8⟩ | ⟨T, a8', rd', hT1, hT4, hLT, e7, hall, hrd, e8⟩
  · have e7 : lfix (fX7_wrongInExchange_b2 (nI L) sg) (fun _ => none) FU 0 = some (nI w) := e7
    have e8 : lfix (fX8_exchange_b13 tx) (fun _ _ _ _ _ _ _ _ _ _ _ _ => none) FU 0 (nI L) 0 0 (nI sz) (-1) now rd U W 0 1 = _ := e8
    rw [e7, e8, obs, if_neg (nI_m1 (by omega))]
    unfold fX7_exchange_b73
    rw [if_neg (nI_m1 (by omega))]
    exact ⟨_, _, _, _, _, _, _, _, _, _, _, _, _, _, _, _, _, _, _, _, rfl, rfl, rfl, h, ⟨nx, sz, rfl, rfl, rfl, hH⟩, hK⟩
  have e7 : lfix (fX7_wrongInExchange_b2 (nI L) sg) (fun _ => none) FU 0 = some (-1) := e7
  have e8 : lfix (fX8_exchange_b13 tx) (fun _ _ _ _ _ _ _ _ _ _ _ _ => none) FU 0 (nI L) 0 0 (nI sz) (-1) now rd U W 0 1 = _ := e8
  rw [e7, e8, obs, if_pos rfl]
  obtain ⟨hd', g1, g2, d, g3, g4⟩ := note7 h hx hd
  obtain ⟨n, hn1, hn, rfl, hR, hS, hU⟩ := h
  have htr : (nI L + 1) / 7 = nI T := by
    rw [nI_1, show (7 : Int32) = nI 7 from rfl, pk_div (by omega) (by decide) (by decide)]
    congr 1
    omega
  rw [htr, g1, obs, hold7 hx hs]
  simp only [bd2, obs]
  -- digits
  have hdg : ∀ u r, u < T → r < 6 → ∃ dd, dd ≤ 9 ∧ (3 ≤ r → 1 ≤ dd) ∧ dgt L B (7 * u + r) = some dd := fun u r hu hr => by
    have : exB L B u r = false := by
      rcases fs_cases (exB L B u) 6 with ⟨j, -, -, -, x⟩ | ⟨x, -⟩
      · rw [hall u hu] at x; cases x
      · exact x r hr
    unfold exB at this
    cases hd : dgt L B (7 * u + r) with
    | none => rw [hd] at this; cases this
    | some dd =>
      rw [hd] at this
      have hc : ¬ (3 ≤ r ∧ dd < 1) := of_decide_eq_false this
      exact ⟨dd, (dgt_le hd).1, by omega, rfl⟩
  let a : Nat → Nat := fun q => (dgt L B (7 * (q / 3) + q % 3)).getD 0
  let w : Nat → Nat := fun q => (dgt L B (7 * (q / 3) + (3 + q % 3))).getD 0
  have ha : ∀ q, q < 3 * T → a q ≤ 9 ∧ dgt L B (7 * (q / 3) + q % 3) = some (a q) := fun q hq => by
    obtain ⟨dd, h1, -, h3⟩ := hdg (q / 3) (q % 3) (by omega) (by omega)
    have : a q = dd := by show (dgt L B (7 * (q / 3) + q % 3)).getD 0 = dd; rw [h3]; rfl
    rw [this]; exact ⟨h1, h3⟩
  have hw : ∀ q, q < 3 * T → (1 ≤ w q ∧ w q ≤ 9) ∧ dgt L B (7 * (q / 3) + (3 + q % 3)) = some (w q) := fun q hq => by
    obtain ⟨dd, h1, h2, h3⟩ := hdg (q / 3) (3 + q % 3) (by omega) (by omega)
    have : w q = dd := by show (dgt L B (7 * (q / 3) + (3 + q % 3))).getD 0 = dd; rw [h3]; rfl
    rw [this]; exact ⟨⟨h2 (by omega), h1⟩, h3⟩
  have hD : DG T a w := ⟨hT4, fun q hq => ⟨(ha q hq).1, (hw q hq).1⟩⟩
  have ix : ∀ t q, q < 3 → (3 * t + q) / 3 = t ∧ (3 * t + q) % 3 = q := fun t q hq => by omega
  have hO : RO T a (fa_fill (fun q => nI (a q)) o (3 * T)) := fun q hq => fa_fill_in hq
  have hWd : RO T w (fa_fill (fun q => nI (w q)) wd (3 * T)) := fun q hq => fa_fill_in hq
  have hre : fX4_readExchange (nI L) sg kd tr o P wd (nI T) = some (1, nI T, fa_fill (fun q => nI (a q)) o (3 * T), plF (qX T a w) P 9, fa_fill (fun q => nI (w q)) wd (3 * T)) := by
    unfold fX4_readExchange mnI
    rw [if_neg (show ¬ (4 : Int32) < nI T from nI_nlt (a := 4) hT4 (by decide)), obs]
    have key := l_acc0 (F := fX4_readExchange_b16 (nI L) sg) (z := fun _ _ _ _ _ _ => none) (fun rc t => rc 1 (nI T) (fa_fill (fun q => nI (a q)) o (3 * t)) P (fa_fill (fun q => nI (w q)) wd (3 * t)) (nI t)) T (by omega) (some (1, nI T, fa_fill (fun q => nI (a q)) o (3 * T), plF (qX T a w) P 9, fa_fill (fun q => nI (w q)) wd (3 * T))) (fun rc t ht => ?_) (fun rc => ?_)
    · rw [Nat.mul_zero, fa_fill_0, fa_fill_0] at key
      exact key
    · show fX4_readExchange_b16 (nI L) sg rc _ _ _ _ _ _ = _
      unfold fX4_readExchange_b16
      rw [if_neg (nI_ge ht (by omega))]
      refine l_acc0 (F := fX4_readExchange_b27 (nI L) sg rc) (z := fun _ _ _ _ _ _ _ => none) (fun r q => r 1 (nI T) (fa_fill (fun q => nI (a q)) o (3 * t + q)) P (fa_fill (fun q => nI (w q)) wd (3 * t + q)) (nI t) (nI q)) 3 (by decide) _ (fun r q hq => ?_) (fun r => ?_)
      · show fX4_readExchange_b27 (nI L) sg rc r _ _ _ _ _ _ _ = _
        unfold fX4_readExchange_b27
        obtain ⟨i1, i2⟩ := ix t q hq
        have ha2 := (ha (3 * t + q) (by omega)).2
        have hw2 := (hw (3 * t + q) (by omega)).2
        rw [i1, i2] at ha2 hw2
        have s1 := fa_fill_succ (fun q => nI (a q)) o (3 * t + q)
        have s2 := fa_fill_succ (fun q => nI (w q)) wd (3 * t + q)
        rw [if_neg (show ¬ (3 : Int32) ≤ nI q from nI_ge hq (by decide)), show (7 : Int32) * nI t + nI q = nI (7 * t + q) by rw [show (7 : Int32) = nI 7 from rfl, pk_mul, nI_add], show (7 : Int32) * nI t + 3 + nI q = nI (7 * t + (3 + q)) by rw [show (7 : Int32) = nI 7 from rfl, pk_mul, show (3 : Int32) = nI 3 from rfl, nI_add, nI_add, Nat.add_assoc], show (3 : Int32) * nI t + nI q = nI (3 * t + q) by rw [show (3 : Int32) = nI 3 from rfl, pk_mul, nI_add], digit7 hT (by omega), ha2, obs, ast_in (by omega) (by decide), obs, digit7 hT (by omega), hw2, obs, ast_in (by omega) (by decide), obs, obs, nI_1, show oI (some (a (3 * t + q))) = nI (a (3 * t + q)) from rfl, show oI (some (w (3 * t + q))) = nI (w (3 * t + q)) from rfl, s1, s2, Nat.add_assoc]
      · show fX4_readExchange_b27 (nI L) sg rc r _ _ _ _ _ _ _ = _
        unfold fX4_readExchange_b27
        rw [if_pos (show (3 : Int32) ≤ nI 3 by decide), obs, nI_1]; rfl
    · show fX4_readExchange_b16 (nI L) sg rc _ _ _ _ _ _ = _
      unfold fX4_readExchange_b16
      rw [if_pos (nI_le (Nat.le_refl _) (by omega)), setPulls7 hD hO hWd, obs]
  let Av : Nat → Int32 := fun q => if q < 3 * T then nI (a q) else 0
  let Wv : Nat → Int32 := fun q => if q < 3 * T then nI (w q) else 0
  let N1 : Nat → Int32 := upd now 2 (nI T)
  let N2 : Nat → Int32 := upd (exN N1 Av Wv 12) 1 1
  have hU' : RUL 1 (nI T) (fa_fill (fun q => nI (a q)) o (3 * T)) (fa_fill (fun q => nI (w q)) wd (3 * T)) (plF (qX T a w) P 9) N2 := by
    refine ⟨if_pos rfl, Or.inr (Or.inl ⟨rfl, T, a, w, hD, ⟨?_, fun q hq => ⟨?_, ?_⟩⟩, rfl, hO, hWd, plF_9 _ _⟩)⟩
    · show (if 2 = 1 then (1 : Int32) else exN N1 Av Wv 12 2) = _
      rw [if_neg (by decide)]
      unfold exN
      rw [if_neg (by omega), if_neg (by omega)]
      exact if_pos rfl
    · show (if 3 + q = 1 then (1 : Int32) else exN N1 Av Wv 12 (3 + q)) = _
      rw [if_neg (by omega)]
      unfold exN
      rw [if_pos (by omega), Nat.add_sub_cancel_left]
      exact if_pos hq
    · show (if 15 + q = 1 then (1 : Int32) else exN N1 Av Wv 12 (15 + q)) = _
      rw [if_neg (by omega)]
      unfold exN
      rw [if_neg (by omega), if_pos (by omega), Nat.add_sub_cancel_left]
      exact if_pos hq
  have h0' : N2 0 = nI n := by
    show (if 0 = 1 then (1 : Int32) else exN N1 Av Wv 12 0) = _
    rw [if_neg (by decide)]
    unfold exN
    rw [if_neg (by omega), if_neg (by omega)]
    show (if 0 = 2 then nI T else now 0) = _
    rw [if_neg (by decide)]; exact hR.1
  obtain ⟨m', now', l1, l2, l3, l4, l5⟩ := laidR hU' (by decide) h0' hn hn1 m
  rw [hre]
  simp only [bd5, obs]
  rw [l1, obs]
  unfold fX7_exchange_b73
  rw [if_pos rfl]
  have eok : ex8ok tx a8' (nI L) (nI sz) now rd' U W (nI T) = some (nI T, a8', nI L, 0, 0, nI (unS sz), -1, now', rd', unU U (fa_fill now W 189) sz, fa_fill now W 189) := by
    unfold ex8ok
    have a2 : ast 189 2 now (nI T) = some N1 := ast_in (i := 2) (by decide) (by decide)
    rw [change8 _ _ hs]
    simp only [bd3, obs]
    rw [a2, obs]
    have hvr : ∀ t r, t < T → r < 6 → rd' (6 * t + r) = oI (dgt L B (7 * t + r)) := fun t r ht hr => hrd t ht r hr
    have key := l_acc0 (F := fX8_exchange_b154 tx) (z := fun _ _ _ _ _ _ _ _ _ _ _ _ => none) (fun rc t => rc a8' (nI L) 0 0 (nI (unS sz)) (-1) (exN N1 Av Wv (3 * t)) rd' (unU U (fa_fill now W 189) sz) (fa_fill now W 189) (nI T) (nI t)) 4 (by decide) (some (nI T, a8', nI L, 0, 0, nI (unS sz), -1, now', rd', unU U (fa_fill now W 189) sz, fa_fill now W 189)) (fun rc t ht => ?_) (fun rc => ?_)
    · rw [Nat.mul_zero, exN_0] at key
      exact key
    · show fX8_exchange_b154 tx rc _ _ _ _ _ _ _ _ _ _ _ _ = _
      unfold fX8_exchange_b154
      rw [if_neg (show ¬ (4 : Int32) ≤ nI t from nI_ge ht (by decide))]
      refine l_acc0 (F := fX8_exchange_b162 tx rc) (z := fun _ _ _ _ _ _ _ _ _ _ _ _ _ => none) (fun r q => r a8' (nI L) 0 0 (nI (unS sz)) (-1) (exN N1 Av Wv (3 * t + q)) rd' (unU U (fa_fill now W 189) sz) (fa_fill now W 189) (nI T) (nI t) (nI q)) 3 (by decide) _ (fun r q hq => ?_) (fun r => ?_)
      · show fX8_exchange_b162 tx rc r _ _ _ _ _ _ _ _ _ _ _ _ _ = _
        unfold fX8_exchange_b162 fX8_exchange_b201 fX8_exchange_b238
        obtain ⟨i1, i2⟩ := ix t q hq
        have st := exN_s N1 Av Wv (q := 3 * t + q) (by omega)
        rw [if_neg (show ¬ (3 : Int32) ≤ nI q from nI_ge hq (by decide)), show (6 : Int32) * nI t + nI q = nI (6 * t + q) by rw [show (6 : Int32) = nI 6 from rfl, pk_mul, nI_add], show (6 : Int32) * nI t + 3 + nI q = nI (6 * t + (3 + q)) by rw [show (6 : Int32) = nI 6 from rfl, pk_mul, show (3 : Int32) = nI 3 from rfl, nI_add, nI_add, Nat.add_assoc], show (3 : Int32) + 3 * nI t + nI q = nI (3 + (3 * t + q)) by rw [show (3 : Int32) = nI 3 from rfl, pk_mul, nI_add, nI_add, Nat.add_assoc], show (15 : Int32) + 3 * nI t + nI q = nI (15 + (3 * t + q)) by rw [show (3 : Int32) = nI 3 from rfl, show (15 : Int32) = nI 15 from rfl, pk_mul, nI_add, nI_add, Nat.add_assoc], ald_in (show 6 * t + q < 720 by omega) (by decide), ald_in (show 6 * t + (3 + q) < 720 by omega) (by decide)]
        simp only [obs, nI_1]
        by_cases hlt : t < T
        · have ha2 := (ha (3 * t + q) (by omega)).2
          have hw2 := (hw (3 * t + q) (by omega)).2
          rw [i1, i2] at ha2 hw2
          have va : Av (3 * t + q) = nI (a (3 * t + q)) := if_pos (by omega)
          have vw : Wv (3 * t + q) = nI (w (3 * t + q)) := if_pos (by omega)
          rw [va, vw] at st
          rw [if_neg (nI_ge hlt (by omega)), hvr t q hlt (by omega), hvr t (3 + q) hlt (by omega), ha2, hw2, show oI (some (a (3 * t + q))) = nI (a (3 * t + q)) from rfl, show oI (some (w (3 * t + q))) = nI (w (3 * t + q)) from rfl, ast_in (show 3 + (3 * t + q) < 189 by omega) (by decide), obs, if_neg (nI_ge hlt (by omega)), ast_in (show 15 + (3 * t + q) < 189 by omega) (by decide), obs, st, Nat.add_assoc]
        · have va : Av (3 * t + q) = 0 := if_neg (by omega)
          have vw : Wv (3 * t + q) = 0 := if_neg (by omega)
          rw [va, vw] at st
          rw [if_pos (nI_le (by omega) (by omega)), ast_in (show 3 + (3 * t + q) < 189 by omega) (by decide), obs, if_pos (nI_le (by omega) (by omega)), ast_in (show 15 + (3 * t + q) < 189 by omega) (by decide), obs, st, Nat.add_assoc]
      · show fX8_exchange_b162 tx rc r _ _ _ _ _ _ _ _ _ _ _ _ _ = _
        unfold fX8_exchange_b162
        rw [if_pos (show (3 : Int32) ≤ nI 3 by decide), obs, nI_1]; rfl
    · show fX8_exchange_b154 tx rc _ _ _ _ _ _ _ _ _ _ _ _ = _
      unfold fX8_exchange_b154
      have a1 : ast 189 1 (exN N1 Av Wv (3 * 4)) 1 = some N2 := ast1 1
      rw [if_pos (show (4 : Int32) ≤ nI 4 by decide), a1, obs, l2, obs]
  rw [eok]
  exact ⟨_, _, _, _, _, _, _, _, _, _, _, _, _, _, _, _, _, _, _, _, rfl, rfl, rfl, ⟨n, hn1, hn, rfl, l3, l4, RUL_ag hU' l5⟩, ⟨_, _, rfl, rfl, rfl, HR_hold hH g2 g3 g4 (fun q hq => fa_fill_in hq)⟩, KR_noted hK hx g2⟩
end EXC2
