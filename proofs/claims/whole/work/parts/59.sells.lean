/-! sells. -/
section SLS
def bs (e : Nat → Bool) : Nat → Int32
  | 0 => 0
  | t + 1 => if e t then bs e t ||| ((1 : Int32) <<< (nI t &&& 31)) else bs e t
def pk4 (b0 b1 b2 b3 : Bool) (t : Nat) : Bool := if t = 0 then b0 else if t = 1 then b1 else if t = 2 then b2 else b3
set_option maxRecDepth 100000 in
theorem bcB : ∀ T, T < 5 → ∀ b0 b1 b2 b3 : Bool, fJ6_bitCount_0f7a4 (bs (pk4 b0 b1 b2 b3) T) = some (nI (fb_ct (pk4 b0 b1 b2 b3) T)) := by decide +kernel
theorem bs_cong {e d : Nat → Bool} : ∀ T, (∀ t, t < T → e t = d t) → bs e T = bs d T := by
  intro T
  induction T with
  | zero => intro _; rfl
  | succ T ih => intro h; rw [bs, bs, ih (fun t ht => h t (by omega)), h T (by omega)]
theorem bc7 (e : Nat → Bool) {T : Nat} (hT : T ≤ 4) : fJ6_bitCount_0f7a4 (bs e T) = some (nI (fb_ct e T)) := by
  have hc : ∀ t, t < T → e t = pk4 (e 0) (e 1) (e 2) (e 3) t := fun t ht => by
    have h3 : t = 0 ∨ t = 1 ∨ t = 2 ∨ t = 3 := by omega
    rcases h3 with rfl | rfl | rfl | rfl <;> rfl
  rw [bs_cong T hc, fb_ct_cong (n := T) hc]
  exact bcB T (by omega) _ _ _ _
variable {n T : Nat} {a w : Nat → Nat} {now o wd : Nat → Int32} {l k : Int32} {f g : Nat → Int64}
def enB (a w : Nat → Nat) (n i j q t : Nat) : Bool := decide (¬ nI (prc n i j q * a (3 * t + q) * wS w t) < nI (inC a n t i j * w (3 * t + q)))
theorem enough7 (hn : n < 17) (hT : T ≤ 4) (ho : RO T a o) (hw : RO T w wd) {i j t q : Nat} (hij : i + j ≤ n) (ht : t < T) (hq : q < 3) : fX4_hasEnough o wd (nI n) (nI i) (nI j) (nI t) (nI q) = some (bI (enB a w n i j q t)) := by
  unfold fX4_hasEnough
  refine l_acc0 (F := fX4_hasEnough_b6 o wd (nI n)) (fun rc h => rc (nI i) (nI j) (nI t) (nI q) (nI (fb_sm (fun h => prc n i j h * a (3 * t + h)) h)) (nI h)) 3 (by decide) _ (fun rc h hh => ?_) (fun rc => ?_)
  · show fX4_hasEnough_b6 o wd (nI n) rc _ _ _ _ _ _ = _
    unfold fX4_hasEnough_b6
    rw [if_neg (show ¬ (3 : Int32) ≤ nI h from nI_ge hh (by decide)), prc7 n hn i (by omega) j (by omega) h hh, obs, am7 hT ho ht hh, obs, obs, obs, nI_1, pk_mul, nI_add, fb_sm_succ]
  · show fX4_hasEnough_b6 o wd (nI n) rc _ _ _ _ _ _ = _
    unfold fX4_hasEnough_b6
    rw [if_pos (show (3 : Int32) ≤ nI 3 by decide), wi7 hT hw ht hq, obs, prc7 n hn i (by omega) j (by omega) q hq, obs, am7 hT ho ht hq, obs, ws7 hT hw ht, obs, pk_mul, pk_mul, pk_mul, inc3]
    unfold enB
    by_cases h9 : nI (prc n i j q * a (3 * t + q) * wS w t) < nI (inC a n t i j * w (3 * t + q))
    · rw [if_pos h9, decide_eq_false (fun e => e h9)]; rfl
    · rw [if_neg h9, decide_eq_true h9]; rfl
theorem m_sells (hn : n < 17) (h : now 0 = nI n) {kd tr : Int32} (hk : now 1 = kd) (hX : kd = 1 → DG T a w ∧ RX T a w now ∧ tr = nI T ∧ RO T a o ∧ RO T w wd) (hr : RW l f k g) (t8 x y z : Int32) : ∃ r l' f' k' t8' g', fX7_sells (nI n) kd tr o wd l f x y z = some (r, l', f') ∧ fX8_sells now k t8 g x y z = some (r, k', t8', g') ∧ RW l' f' k' g' := by
  unfold fX7_sells fX8_sells
  rcases point_cases hn h x y with ⟨i, j, hij, rfl, rfl, e7, e8⟩ | ⟨e7, e8⟩
  rotate_left
  · rw [e7, e8, obs, obs, if_pos rfl, if_pos rfl]
    exact ⟨_, _, _, _, _, _, rfl, rfl, hr⟩
  rw [e7, e8, obs, obs, if_neg n10, if_neg n10]
  rcases good_cases z with ⟨q, hq, rfl, e1, e2, -⟩ | ⟨e1, e2, -⟩
  rotate_left
  · rw [e1, e2, obs, obs, if_pos rfl, if_pos rfl]
    exact ⟨_, _, _, _, _, _, rfl, rfl, hr⟩
  have hl1 : ald 189 1 now = some kd := by
    rw [← hk]; exact ald_in (i := 1) (by decide) (by decide)
  rw [e1, e2, obs, obs, if_neg n10, if_neg n10, hl1, obs]
  by_cases h1 : kd = 1
  rotate_left
  · rw [if_neg h1, if_neg h1]
    exact ⟨_, _, _, _, _, _, rfl, rfl, hr⟩
  obtain ⟨hD, hx, rfl, ho, hw⟩ := hX h1
  have hT := hD.1
  rw [if_pos h1, if_pos h1]
  have e7 : lfix (fX7_sells_b47 (nI n) kd (nI T) o wd) (fun _ _ _ _ _ _ _ => none) FU l f (nI i) (nI j) (nI q) 0 0 = some (bs (enB a w n i j q) T, nI 1, vp_updL f 0 (nI (fb_ct (enB a w n i j q) T)).toInt64) := by
    refine l_acc0 (F := fX7_sells_b47 (nI n) kd (nI T) o wd) (fun rc t => rc l f (nI i) (nI j) (nI q) (bs (enB a w n i j q) t) (nI t)) T (by omega) _ (fun rc t ht => ?_) (fun rc => ?_)
    · show fX7_sells_b47 (nI n) kd (nI T) o wd rc _ _ _ _ _ _ _ = _
      unfold fX7_sells_b47
      rw [if_neg (nI_ge ht (by omega)), enough7 hn hT ho hw hij ht hq, obs, ifb, obs, obs, obs, nI_1, bs]
      cases enB a w n i j q t with
      | false => rw [if_neg (by decide), if_neg (by decide)]
      | true => rw [if_pos rfl, if_pos rfl]
    · show fX7_sells_b47 (nI n) kd (nI T) o wd rc _ _ _ _ _ _ _ = _
      unfold fX7_sells_b47
      rw [if_pos (nI_le (Nat.le_refl _) (by omega)), bc7 _ hT, obs, tell7]
      simp only [bd2, obs]
  have e8 : lfix (fX8_sells_b47 now) (fun _ _ _ _ _ _ _ _ _ => none) FU k 0 g (nI i) (nI j) (nI q) 0 0 0 = some (bs (enB a w n i j q) T, nI 1, 0, vp_updL g 0 (nI (fb_ct (enB a w n i j q) T)).toInt64) := by
    refine l_acc0 (F := fX8_sells_b47 now) (fun rc t => rc k 0 g (nI i) (nI j) (nI q) (bs (enB a w n i j q) t) (nI (fb_ct (enB a w n i j q) t)) (nI t)) T (by omega) _ (fun rc t ht => ?_) (fun rc => ?_)
    · show fX8_sells_b47 now rc _ _ _ _ _ _ _ _ _ = _
      unfold fX8_sells_b47
      rw [ald2 hx, obs, if_neg (nI_ge ht (by omega)), inc8 hn h hD hx ht hij, obs, wi8 hD hx ht hq, obs, prc8 hn h hij hq, obs, am8 hD hx ht hq, obs, ws8 hD hx ht, obs, pk_mul, pk_mul, pk_mul, bs, fb_ct_succ]
      simp only [obs, nI_1]
      unfold enB
      by_cases h9 : nI (prc n i j q * a (3 * t + q) * wS w t) < nI (inC a n t i j * w (3 * t + q))
      · rw [if_neg (fa_of_lt h9).2.1, decide_eq_false (fun e => e h9)]; rfl
      · rw [if_pos (fa_of_nlt h9), decide_eq_true h9]; rfl
    · show fX8_sells_b47 now rc _ _ _ _ _ _ _ _ _ = _
      unfold fX8_sells_b47
      rw [ald2 hx, obs, if_pos (nI_le (Nat.le_refl _) (by omega)), tell8_0]
      simp only [bd2, obs]
  rw [e7, e8]
  exact ⟨_, _, _, _, _, _, rfl, rfl, RW.t1 f g _⟩
end SLS
