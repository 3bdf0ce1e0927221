/-! Doors. -/
section DRS
/-- is edge e of a cell a door of the kind v -/
def db (n : Nat) (m : Nat → Int32) (v c e : Nat) : Bool := decide (¬ m (co n c ((e + 1) % 3)) = m (co n c ((e + 2) % 3))) && decide (¬ m (co n c ((e + 1) % 3)) = nI v) && decide (¬ m (co n c ((e + 2) % 3)) = nI v)
/-- the cell at a place along a side -/
def sc (n v t : Nat) : Nat := if v = 0 then 2 * t else if v = 1 then 2 * (n * t) else 2 * (n * (n - 1 - t) + t)
def ob (n : Nat) (m : Nat → Int32) (v t : Nat) : Bool := db n m v (sc n v t) ((v + 1) % 3)
set_option maxRecDepth 100000 in
theorem md1 : ∀ e, e < 3 → (nI e + (1 : Int32)) - (nI e + 1) / 3 * 3 = nI ((e + 1) % 3) ∧ (nI e + (2 : Int32)) - (nI e + 2) / 3 * 3 = nI ((e + 2) % 3) := by decide +kernel
set_option maxRecDepth 100000 in
theorem sc_ok : ∀ n, n < 17 → ∀ v, v < 3 → ∀ t, t < n → cel n (sc n v t) = true ∧ sc n v t % 2 = 0 ∧ bey n (sc n v t) ((v + 1) % 3) = none := by decide +kernel
set_option maxRecDepth 100000 in
theorem sdc7 : ∀ n, n < 17 → ∀ v, v < 3 → ∀ t, t < n → fX1_sideCell (nI n) (nI v) (nI t) = some (nI (sc n v t)) := by decide +kernel
set_option maxRecDepth 100000 in
theorem sc8_0 : ∀ n, n < 17 → ∀ t, t < n → (2 : Int32) * nI t = nI (sc n 0 t) ∧ (2 : Int32) * nI n * nI t = nI (sc n 1 t) ∧ (2 : Int32) * (nI n * (nI n - 1 - nI t) + nI t) = nI (sc n 2 t) := by decide +kernel
variable {n : Nat} {m now : Nat → Int32} {l k : Int32} {f g : Nat → Int64}
theorem db_if (a b w : Int32) : (if a = b then some (0 : Int32) else if a = w then some 0 else if b = w then some 0 else some 1) = some (bI (decide (¬ a = b) && decide (¬ a = w) && decide (¬ b = w))) := by
  by_cases h1 : a = b
  · rw [if_pos h1]; simp [h1, bI]
  · rw [if_neg h1]
    by_cases h2 : a = w
    · rw [if_pos h2]; simp [h2, bI]
    · rw [if_neg h2]
      by_cases h3 : b = w
      · rw [if_pos h3]; simp [h3, bI]
      · rw [if_neg h3]; simp [h1, h2, h3, bI]
theorem door7 (hn : n < 17) {c e : Nat} (v : Nat) (hcl : cel n c = true) (he : e < 3) : fX0_isDoor (nI n) m (nI c) (nI e) (nI v) = some (bI (db n m v c e)) := by
  unfold fX0_isDoor db
  rw [(md1 e he).1, (md1 e he).2, clb7 hn hcl (Nat.mod_lt _ (by decide)), obs, clb7 hn hcl (Nat.mod_lt _ (by decide)), obs, db_if]
theorem door8 (hn : n < 17) (h : R8 n m now) {c e : Nat} (v : Nat) (hcl : cel n c = true) (he : e < 3) : fX8_isDoor now (nI c) (nI e) (nI v) = some (bI (db n m v c e)) := by
  have hc := (cel_ij hcl).1
  unfold fX8_isDoor db
  rw [(md1 e he).1, (md1 e he).2, clb8 hn h hc hcl (Nat.mod_lt _ (by decide)), obs, clb8 hn h hc hcl (Nat.mod_lt _ (by decide)), obs, db_if]
theorem sde7 {v : Nat} (hv : v < 3) : fX0_sideEdge (nI v) = some (nI ((v + 1) % 3)) := by
  unfold fX0_sideEdge
  rw [(md1 v hv).1]
theorem outer7 (hn : n < 17) {v t : Nat} (hv : v < 3) (ht : t < n) : fX0_isOuter (nI n) m (nI v) (nI t) = some (bI (ob n m v t)) := by
  unfold fX0_isOuter ob
  rw [sdc7 n hn v hv t ht, obs, sde7 hv, obs, door7 hn v (sc_ok n hn v hv t ht).1 (Nat.mod_lt _ (by decide)), obs]
theorem before7 (hn : n < 17) {v t : Nat} (hv : v < 3) (ht : t ≤ n) : fX0_outersBefore (nI n) m (nI v) (nI t) = some (nI (fb_ct (ob n m v) t)) := by
  unfold fX0_outersBefore
  refine l_acc0 (F := fX0_outersBefore_b6 (nI n) m) (fun rc i => rc (nI v) (nI t) (nI (fb_ct (ob n m v) i)) (nI i)) t (by omega) _ (fun rc i hi => ?_) (fun rc => ?_)
  · show fX0_outersBefore_b6 (nI n) m rc _ _ _ _ = _
    unfold fX0_outersBefore_b6 fX0_outersBefore_b30
    rw [if_neg (nI_ge hi (by omega)), outer7 hn hv (by omega), obs, ifb, fb_ct_succ]
    simp only [obs, nI_1]
    cases ob n m v i with
    | false => rw [if_neg (by decide), Int32.add_zero]; rfl
    | true => rw [if_pos rfl]; rfl
  · show fX0_outersBefore_b6 (nI n) m rc _ _ _ _ = _
    unfold fX0_outersBefore_b6
    rw [if_pos (nI_le (Nat.le_refl _) (by omega))]
theorem outers7 (hn : n < 17) {v : Nat} (hv : v < 3) : fX0_outers (nI n) m (nI v) = some (nI (fb_ct (ob n m v) n)) := by
  unfold fX0_outers
  rw [before7 hn hv (Nat.le_refl n), obs]
/-- where outer door number x is -/
def plo (n : Nat) (m : Nat → Int32) (v : Nat) (x : Int32) : Option Nat := fs (fun t => ob n m v t && decide (nI (fb_ct (ob n m v) t) = x)) n
theorem placeOf7 (hn : n < 17) {v : Nat} (hv : v < 3) (x : Int32) : fX0_placeOf (nI n) m (nI v) x = some (oI (plo n m v x)) := by
  unfold fX0_placeOf plo
  have key := l_fs (F := fX0_placeOf_b6 (nI n) m) (z := fun _ _ _ _ => none) (fun rc i => rc (nI v) x (nI (fb_ct (ob n m v) i)) (nI i)) (fun j => some (nI j)) (fun t => ob n m v t && decide (nI (fb_ct (ob n m v) t) = x)) n (by omega) (fun rc i hi hp => ?_) (fun rc i hi hp => ?_) (some (-1)) (fun rc => ?_)
  · refine key.trans ?_
    generalize fs _ _ = o
    cases o <;> rfl
  · show fX0_placeOf_b6 (nI n) m rc _ _ _ _ = _
    unfold fX0_placeOf_b6
    rw [if_neg (nI_ge hi (by omega)), outer7 hn hv hi, obs, ifb, fb_ct_succ]
    simp only [obs, nI_1]
    cases ho : ob n m v i with
    | false => rw [if_neg (by decide)]; rfl
    | true =>
      rw [ho] at hp
      have h3 : ¬ nI (fb_ct (ob n m v) i) = x := by simpa using hp
      rw [if_pos rfl, if_neg h3]; rfl
  · show fX0_placeOf_b6 (nI n) m rc _ _ _ _ = _
    unfold fX0_placeOf_b6
    have hp1 : ob n m v i = true ∧ nI (fb_ct (ob n m v) i) = x := by simpa using hp
    rw [if_neg (nI_ge hi (by omega)), outer7 hn hv hi, obs, ifb, hp1.1, if_pos rfl, if_pos hp1.2]
  · show fX0_placeOf_b6 (nI n) m rc _ _ _ _ = _
    unfold fX0_placeOf_b6
    rw [if_pos (nI_le (Nat.le_refl _) (by omega))]
/-- what is gathered at the places that p names -/
def gth {α : Type} (F : Nat → α) (p : Nat → Bool) (f : Nat → α) : Nat → Nat → α
  | 0 => f
  | t + 1 => if p t then (fun j => if j = fb_ct p t then F t else gth F p f t j) else gth F p f t
theorem gth_at {α : Type} (F : Nat → α) (p : Nat → Bool) (f : Nat → α) {t : Nat} (hp : p t = true) : ∀ {N : Nat}, t < N → gth F p f N (fb_ct p t) = F t := by
  intro N
  induction N with
  | zero => intro h; omega
  | succ N ih =>
    intro h
    by_cases h2 : t = N
    · subst h2
      rw [gth, if_pos hp]
      exact if_pos rfl
    · have h3 : t < N := by omega
      rw [gth]
      cases h4 : p N with
      | false => rw [if_neg (by decide)]; exact ih h3
      | true =>
        rw [if_pos rfl]
        show (if fb_ct p t = fb_ct p N then F N else gth F p f N (fb_ct p t)) = F t
        have h5 : fb_ct p (t + 1) = fb_ct p t + 1 := by rw [fb_ct_succ, hp]; rfl
        have h6 := fb_ct_mono p (show t + 1 ≤ N from h3)
        rw [if_neg (by omega)]; exact ih h3
theorem layOuter8 (hn : n < 17) (h : R8 n m now) {v : Nat} (hv : v < 3) (a : Int32) (oc od : Nat → Int32) : fX8_layOuter now a oc od (nI v) = some (nI (fb_ct (ob n m v) n), gth (fun t => nI (sc n v t)) (ob n m v) oc n, gth (fun _ => nI ((v + 1) % 3)) (ob n m v) od n) := by
  unfold fX8_layOuter
  have hct : ∀ i, fb_ct (ob n m v) i ≤ i := fb_ct_le _
  refine l_acc0 (F := fX8_layOuter_b7 now) (fun rc i => rc (nI (fb_ct (ob n m v) i)) (gth (fun t => nI (sc n v t)) (ob n m v) oc i) (gth (fun _ => nI ((v + 1) % 3)) (ob n m v) od i) (nI v) (nI i)) n (by omega) _ (fun rc i hi => ?_) (fun rc => ?_)
  · show fX8_layOuter_b7 now rc _ _ _ _ _ = _
    have hs := sc8_0 n hn i hi
    have hcl := (sc_ok n hn v hv i hi).1
    have key : fX8_layOuter_b77 now rc (nI (fb_ct (ob n m v) i)) (gth (fun t => nI (sc n v t)) (ob n m v) oc i) (gth (fun _ => nI ((v + 1) % 3)) (ob n m v) od i) (nI v) (nI i) (nI (sc n v i)) (nI ((v + 1) % 3)) = rc (nI (fb_ct (ob n m v) (i + 1))) (gth (fun t => nI (sc n v t)) (ob n m v) oc (i + 1)) (gth (fun _ => nI ((v + 1) % 3)) (ob n m v) od (i + 1)) (nI v) (nI (i + 1)) := by
      unfold fX8_layOuter_b77
      have hci := hct i
      rw [door8 hn h v hcl (Nat.mod_lt _ (by decide)), obs, ifb, ast_in (by omega) (by decide), ast_in (by omega) (by decide)]
      simp only [obs, nI_1]
      rw [show db n m v (sc n v i) ((v + 1) % 3) = ob n m v i from rfl, fb_ct_succ, gth, gth]
      cases ob n m v i with
      | false => rw [if_neg (by decide)]; rfl
      | true => rw [if_pos rfl]; rfl
    unfold fX8_layOuter_b7 fX8_layOuter_b58
    rw [n8 h.1]
    simp only [obs]
    rw [if_neg (nI_ge hi (by omega))]
    have h3 : v = 0 ∨ v = 1 ∨ v = 2 := by omega
    rcases h3 with rfl | rfl | rfl
    · rw [if_pos (show nI 0 = 0 from rfl), if_pos (show nI 0 = 0 from rfl), hs.1]; exact key
    · rw [if_neg (by decide), if_pos (by decide), if_neg (by decide), if_pos (by decide), hs.2.1]; exact key
    · rw [if_neg (by decide), if_neg (by decide), if_neg (by decide), if_neg (by decide), hs.2.2]; exact key
  · show fX8_layOuter_b7 now rc _ _ _ _ _ = _
    unfold fX8_layOuter_b7
    rw [n8 h.1, obs, if_pos (nI_le (Nat.le_refl _) (by omega))]
theorem m_outer (hn : n < 17) (h : R8 n m now) (hr : RW l f k g) (a t x : Int32) (oc od : Nat → Int32) : ∃ r l' f' a' k' t' oc' od' g', fX7_outer (nI n) m l f x = some (r, l', f') ∧ fX8_outer now a k t oc od g x = some (r, a', k', t', oc', od', g') ∧ RW l' f' k' g' := by
  unfold fX7_outer fX8_outer
  rcases good_cases x with ⟨v, hv, rfl, e1, -, e2⟩ | ⟨e1, -, e2⟩
  rotate_left
  · rw [e1, e2, obs, obs, if_pos rfl, if_pos rfl]
    exact ⟨_, _, _, _, _, _, _, _, _, rfl, rfl, hr⟩
  rw [e1, e2, obs, obs, if_neg (by decide), if_neg (by decide)]
  have hct : ∀ i, fb_ct (ob n m v) i ≤ i := fb_ct_le _
  have e7 : ((fX3_clear l).bind fun v2 => lfix (fX7_outer_b20 (nI n) m) (fun _ _ _ _ _ => none) FU v2 f (nI v) 0 0) = some (nI (fb_ct (ob n m v) n), nI (fb_ct (ob n m v) n), gth (fun t => (nI (sc n v t)).toInt64) (ob n m v) f n) := by
    unfold fX3_clear
    rw [obs]
    refine l_acc0 (F := fX7_outer_b20 (nI n) m) (fun rc i => rc (nI (fb_ct (ob n m v) i)) (gth (fun t => (nI (sc n v t)).toInt64) (ob n m v) f i) (nI v) (nI (fb_ct (ob n m v) i)) (nI i)) n (by omega) _ (fun rc i hi => ?_) (fun rc => ?_)
    · show fX7_outer_b20 (nI n) m rc _ _ _ _ _ = _
      have hci := hct i
      unfold fX7_outer_b20
      rw [if_neg (nI_ge hi (by omega)), outer7 hn hv hi, obs, ifb, sdc7 n hn v hv i hi, obs, add7 (by omega)]
      simp only [bd2, obs, nI_1]
      rw [fb_ct_succ, gth]
      cases ob n m v i with
      | false => rw [if_neg (by decide)]; rfl
      | true => rw [if_pos rfl]; rfl
    · show fX7_outer_b20 (nI n) m rc _ _ _ _ _ = _
      unfold fX7_outer_b20
      rw [if_pos (nI_le (Nat.le_refl _) (by omega))]
  rw [e7, layOuter8 hn h hv]
  simp only [bd3, obs]
  have hcn := hct n
  generalize hoc : gth (fun t => nI (sc n v t)) (ob n m v) oc n = oc'
  generalize hod : gth (fun _ => nI ((v + 1) % 3)) (ob n m v) od n = od'
  have e8 : lfix (fX8_outer_b26 now) (fun _ _ _ _ _ _ _ => none) FU (nI (fb_ct (ob n m v) n)) 0 0 oc' od' g 0 = some (nI (fb_ct (ob n m v) n), nI (fb_ct (ob n m v) n), nI (fb_ct (ob n m v) n), 0, oc', od', gth (fun j => (oc' j).toInt64) (fun _ => true) g (fb_ct (ob n m v) n)) := by
    have hall : ∀ j, fb_ct (fun _ => true) j = j := fun j => by
      induction j with
      | zero => rfl
      | succ j ih => rw [fb_ct_succ, ih]; rfl
    refine l_acc0 (F := fX8_outer_b26 now) (fun rc i => rc (nI (fb_ct (ob n m v) n)) (nI i) 0 oc' od' (gth (fun j => (oc' j).toInt64) (fun _ => true) g i) (nI i)) (fb_ct (ob n m v) n) (by omega) _ (fun rc i hi => ?_) (fun rc => ?_)
    · show fX8_outer_b26 now rc _ _ _ _ _ _ _ = _
      unfold fX8_outer_b26
      rw [if_neg (nI_ge hi (by omega)), ald_in (show i < 16 by omega) (by decide), obs, tell8 (by omega)]
      simp only [bd2, obs, nI_1]
      rw [gth, if_pos rfl, hall]; rfl
    · show fX8_outer_b26 now rc _ _ _ _ _ _ _ = _
      unfold fX8_outer_b26
      rw [if_pos (nI_le (Nat.le_refl _) (by omega))]
  rw [e8]
  refine ⟨_, _, _, _, _, _, _, _, _, rfl, rfl, fb_ct (ob n m v) n, by omega, rfl, rfl, fun j hj => ?_⟩
  obtain ⟨i, h1, h2, h3⟩ := fb_ct_kth hj
  have hall : ∀ j, fb_ct (fun _ => true) j = j := fun j => by
    induction j with
    | zero => rfl
    | succ j ih => rw [fb_ct_succ, ih]; rfl
  have g8 := gth_at (fun j => (oc' j).toInt64) (fun _ => true) g (t := j) rfl hj
  rw [hall] at g8
  rw [g8, ← h3, gth_at _ _ f h2 h1, ← hoc, gth_at _ _ oc h2 h1]
end DRS
