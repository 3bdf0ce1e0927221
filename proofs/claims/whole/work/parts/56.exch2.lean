/-! An exchange: what reference and class make of it. -/
section EXM
def RX (T : Nat) (a w : Nat → Nat) (now : Nat → Int32) : Prop := now 2 = nI T ∧ ∀ q, q < 3 * T → now (3 + q) = nI (a q) ∧ now (15 + q) = nI (w q)
variable {n T : Nat} {a w : Nat → Nat} {now : Nat → Int32}
theorem am8 (hD : DG T a w) (h : RX T a w now) {t q : Nat} (ht : t < T) (hq : q < 3) : fX8_amount now (nI t) (nI q) = some (nI (a (3 * t + q))) := by
  have := hD.1
  unfold fX8_amount
  rw [show (3 : Int32) + 3 * nI t + nI q = nI (3 + (3 * t + q)) by rw [show (3 : Int32) = nI 3 from rfl, pk_mul, nI_add, nI_add, Nat.add_assoc], ald_in (by omega) (by decide), obs, (h.2 _ (by omega)).1]
theorem wi8 (hD : DG T a w) (h : RX T a w now) {t q : Nat} (ht : t < T) (hq : q < 3) : fX8_wish now (nI t) (nI q) = some (nI (w (3 * t + q))) := by
  have := hD.1
  unfold fX8_wish
  rw [show (15 : Int32) + 3 * nI t + nI q = nI (15 + (3 * t + q)) by rw [show (3 : Int32) = nI 3 from rfl, show (15 : Int32) = nI 15 from rfl, pk_mul, nI_add, nI_add, Nat.add_assoc], ald_in (by omega) (by decide), obs, (h.2 _ (by omega)).2]
theorem ws8 (hD : DG T a w) (h : RX T a w now) {t : Nat} (ht : t < T) : fX8_wishes now (nI t) = some (nI (wS w t)) := by
  have e0 : fX8_wish now (nI t) 0 = some (nI (w (3 * t))) := wi8 hD h ht (q := 0) (by decide)
  have e1 : fX8_wish now (nI t) 1 = some (nI (w (3 * t + 1))) := wi8 hD h ht (q := 1) (by decide)
  have e2 : fX8_wish now (nI t) 2 = some (nI (w (3 * t + 2))) := wi8 hD h ht (q := 2) (by decide)
  unfold fX8_wishes
  rw [e0, obs, e1, obs, e2, obs, nI_add, nI_add]; rfl
theorem inc3 (a : Nat → Nat) (n t i j : Nat) : fb_sm (fun h => prc n i j h * a (3 * t + h)) 3 = inC a n t i j := by
  rw [fb_sm_succ, fb_sm_succ, fb_sm_succ]
  simp [fb_sm, prc, inC]
theorem inc8 (hn : n < 17) (h0 : now 0 = nI n) (hD : DG T a w) (h : RX T a w now) {t i j : Nat} (ht : t < T) (hij : i + j ≤ n) : fX8_income now (nI t) (nI i) (nI j) = some (nI (inC a n t i j)) := by
  unfold fX8_income
  rw [← inc3]
  refine l_acc0 (F := fX8_income_b6 now) (fun rc q => rc (nI t) (nI i) (nI j) (nI (fb_sm (fun h => prc n i j h * a (3 * t + h)) q)) (nI q)) 3 (by decide) _ (fun rc q hq => ?_) (fun rc => rfl)
  show fX8_income_b6 now rc _ _ _ _ _ = _
  unfold fX8_income_b6
  rw [if_neg (show ¬ (3 : Int32) ≤ nI q from nI_ge hq (by decide)), prc8 hn h0 hij hq, obs, am8 hD h ht hq, obs, obs, obs, nI_1, pk_mul, nI_add, fb_sm_succ]
theorem ald2 (h : RX T a w now) : ald 189 2 now = some (nI T) := by
  rw [← h.1]; exact ald_in (i := 2) (by decide) (by decide)
theorem ex8 (hn : n < 17) (h0 : now 0 = nI n) (hD : DG T a w) (h : RX T a w now) : EX8 now (qX T a w) n := fun i j q hij hq => by
  have hT := hD.1
  have hd := pW_bd hD
  unfold fX8_excessOf
  have e2 : lfix (fX8_excessOf_b43 now) (fun _ _ _ _ _ _ _ => none) FU (nI i) (nI j) (nI q) (nI (pW w T)) 0 0 0 = some (zI (qv (qX T a w) n i j q)) := by
    refine l_acc0 (F := fX8_excessOf_b43 now) (fun rc t => rc (nI i) (nI j) (nI q) (nI (pW w T)) (nI (eP T a w n i j q t)) (nI (hA a q t)) (nI t)) T (by omega) _ (fun rc t ht => ?_) (fun rc => ?_)
    · show fX8_excessOf_b43 now rc _ _ _ _ _ _ _ = _
      unfold fX8_excessOf_b43
      have hw := dg_wS hD ht
      have hdv : dvI (nI (pW w T)) (nI (wS w t)) = some (nI (pWo w t T)) := by
        unfold dvI
        rw [if_neg (nI_n0 (by omega) (by omega)), pk_div (by omega) (by omega) (by omega), (pWo_bd hD ht).2]
      rw [ald2 h, obs, if_neg (nI_ge ht (by omega)), inc8 hn h0 hD h ht hij, obs, wi8 hD h ht hq, obs, ws8 hD h ht, obs, hdv, obs, obs, am8 hD h ht hq, obs, obs, obs, nI_1, pk_mul, pk_mul, nI_add, nI_add]
      rfl
    · show fX8_excessOf_b43 now rc _ _ _ _ _ _ _ = _
      unfold fX8_excessOf_b43
      have b1 := eP_le hD hn hij hq
      have b2 := eM_le hD hn hij hq
      rw [ald2 h, obs, if_pos (nI_le (Nat.le_refl _) (by omega)), prc8 hn h0 hij hq, obs, pk_mul, pk_mul, nI_zI _ _ (by omega) (by omega)]
      unfold qv qX
      rw [qE_sum T a w hij hq T]
  refine l_acc0 (F := fX8_excessOf_b6 now) (fun rc t => rc (nI i) (nI j) (nI q) (nI (pW w t)) (nI t)) T (by omega) _ (fun rc t ht => ?_) (fun rc => ?_)
  · show fX8_excessOf_b6 now rc _ _ _ _ _ = _
    unfold fX8_excessOf_b6
    rw [ald2 h, obs, if_neg (nI_ge ht (by omega)), ws8 hD h ht, obs, obs, obs, nI_1, pk_mul, pW]
  · show fX8_excessOf_b6 now rc _ _ _ _ _ = _
    unfold fX8_excessOf_b6
    rw [ald2 h, obs, if_pos (nI_le (Nat.le_refl _) (by omega))]
    exact e2
/-- the class's own arrays -/
def RO (T : Nat) (a : Nat → Nat) (o : Nat → Int32) : Prop := ∀ q, q < 3 * T → o q = nI (a q)
variable {o wd : Nat → Int32} {P : Nat → Int64}
theorem am7 (hT : T ≤ 4) (ho : RO T a o) {t q : Nat} (ht : t < T) (hq : q < 3) : fX4_amount o (nI t) (nI q) = some (nI (a (3 * t + q))) := by
  unfold fX4_amount
  rw [obs, show (3 : Int32) * nI t + nI q = nI (3 * t + q) by rw [show (3 : Int32) = nI 3 from rfl, pk_mul, nI_add], if_neg (nI_pos (by omega)), if_neg (show ¬ (12 : Int32) ≤ nI (3 * t + q) from nI_ge (show 3 * t + q < 12 by omega) (by decide)), ald_in (by omega) (by decide), obs, ho _ (by omega)]
theorem wi7 (hT : T ≤ 4) (ho : RO T w wd) {t q : Nat} (ht : t < T) (hq : q < 3) : fX4_wish wd (nI t) (nI q) = some (nI (w (3 * t + q))) := by
  unfold fX4_wish
  rw [obs, show (3 : Int32) * nI t + nI q = nI (3 * t + q) by rw [show (3 : Int32) = nI 3 from rfl, pk_mul, nI_add], if_neg (nI_pos (by omega)), if_neg (show ¬ (12 : Int32) ≤ nI (3 * t + q) from nI_ge (show 3 * t + q < 12 by omega) (by decide)), ald_in (by omega) (by decide), obs, ho _ (by omega)]
theorem ws7 (hT : T ≤ 4) (ho : RO T w wd) {t : Nat} (ht : t < T) : fX4_wishes wd (nI t) = some (nI (wS w t)) := by
  have e0 : fX4_wish wd (nI t) 0 = some (nI (w (3 * t))) := wi7 hT ho ht (q := 0) (by decide)
  have e1 : fX4_wish wd (nI t) 1 = some (nI (w (3 * t + 1))) := wi7 hT ho ht (q := 1) (by decide)
  have e2 : fX4_wish wd (nI t) 2 = some (nI (w (3 * t + 2))) := wi7 hT ho ht (q := 2) (by decide)
  unfold fX4_wishes
  rw [e0, obs, e1, obs, e2, obs, nI_add, nI_add]; rfl
theorem pw7 (hD : DG T a w) (ho : RO T w wd) (x : Int32) (u : Nat) (hx : ∀ t, t < T → (nI t = x ↔ t = u)) : fX4_productWithout (nI T) wd x = some (zL (pWo w u T)) := by
  have hT := hD.1
  unfold fX4_productWithout
  refine l_acc0 (F := fX4_productWithout_b5 (nI T) wd) (fun rc t => rc x (zL (pWo w u t)) (nI t)) T (by omega) _ (fun rc t ht => ?_) (fun rc => ?_)
  · show fX4_productWithout_b5 (nI T) wd rc _ _ _ = _
    unfold fX4_productWithout_b5 fX4_productWithout_b32
    have hw := dg_wS hD ht
    have e9 := nI_w (k := wS w t) (by omega)
    rw [if_neg (nI_ge ht (by omega)), ws7 hT ho ht]
    simp only [obs, nI_1, pWo, e9]
    by_cases h1 : t = u
    · rw [if_pos ((hx t ht).mpr h1), if_pos h1, Nat.mul_one, Int64.mul_one]
    · rw [if_neg (fun e => h1 ((hx t ht).mp e)), if_neg h1, zL_mul, Int.natCast_mul]
  · show fX4_productWithout_b5 (nI T) wd rc _ _ _ = _
    unfold fX4_productWithout_b5
    rw [if_pos (nI_le (Nat.le_refl _) (by omega))]
/-- pulls written down so far -/
def plF (Q : Nat → Nat → Int) (P : Nat → Int64) (q : Nat) : Nat → Int64 := fun k => if k < q then zL (Q (k / 3) (k % 3)) else P k
theorem plF_s (Q : Nat → Nat → Int) (P : Nat → Int64) (q : Nat) : vp_updL (plF Q P q) q (zL (Q (q / 3) (q % 3))) = plF Q P (q + 1) := by
  funext k
  unfold vp_updL plF
  by_cases h1 : k = q
  · simp [h1]
  · by_cases h2 : k < q
    · simp [h1, h2, show k < q + 1 by omega]
    · simp [h1, h2, show ¬ k < q + 1 by omega]
theorem plF_0 (Q : Nat → Nat → Int) (P : Nat → Int64) : plF Q P 0 = P := by funext k; simp [plF]
theorem plF_9 (Q : Nat → Nat → Int) (P : Nat → Int64) : PUL (plF Q P 9) Q := fun q hq h hh => by
  unfold plF
  rw [if_pos (by omega), show (3 * q + h) / 3 = q by omega, show (3 * q + h) % 3 = h by omega]
theorem qE_s (t q h : Nat) : qE T a w (t + 1) q h = qE T a w t q h + ((((a (3 * t + h) * w (3 * t + q) * pWo w t T : Nat) : Int)) - (if q = h then ((pW w T * a (3 * t + q) : Nat) : Int) else 0)) := fb_si_succ _ _
theorem setPulls7 (hD : DG T a w) (ho : RO T a o) (hw : RO T w wd) : fX4_setPulls (nI T) o wd P = some (plF (qX T a w) P 9) := by
  have hT := hD.1
  have hd := pW_bd hD
  unfold fX4_setPulls
  have e0 : fX4_productWithout (nI T) wd (-1) = some (zL (pW w T)) := by
    rw [pw7 hD hw (-1) 100 (fun t ht => ⟨fun e => absurd e (nI_m1 (by omega)), fun e => by omega⟩), pWo_ge w 100 T (by omega)]
  rw [e0, obs]
  have key := l_acc0 (F := fX4_setPulls_b8 (nI T) o wd) (z := fun _ _ _ => none) (fun rc q => rc (plF (qX T a w) P (3 * q)) (zL (pW w T)) (nI q)) 3 (by decide) (some (plF (qX T a w) P 9)) (fun rc q hq => ?_) (fun rc => rfl)
  · rw [plF_0] at key
    exact key
  · show fX4_setPulls_b8 (nI T) o wd rc _ _ _ = _
    unfold fX4_setPulls_b8
    rw [if_neg (show ¬ (3 : Int32) ≤ nI q from nI_ge hq (by decide))]
    refine l_acc0 (F := fX4_setPulls_b16 (nI T) o wd rc) (z := fun _ _ _ _ => none) (fun r h => r (plF (qX T a w) P (3 * q + h)) (zL (pW w T)) (nI q) (nI h)) 3 (by decide) _ (fun r h hh => ?_) (fun r => ?_)
    · show fX4_setPulls_b16 (nI T) o wd rc r _ _ _ _ = _
      unfold fX4_setPulls_b16
      rw [if_neg (show ¬ (3 : Int32) ≤ nI h from nI_ge hh (by decide))]
      refine l_acc0 (F := fX4_setPulls_b28 (nI T) o wd rc r) (z := fun _ _ _ _ _ _ => none) (fun s t => s (plF (qX T a w) P (3 * q + h)) (zL (pW w T)) (nI q) (nI h) (zL (qE T a w t q h)) (nI t)) T (by omega) _ (fun s t ht => ?_) (fun s => ?_)
      · show fX4_setPulls_b28 (nI T) o wd rc r s _ _ _ _ _ _ = _
        unfold fX4_setPulls_b28 fX4_setPulls_b88
        have ha := (hD.2 (3 * t + h) (by omega)).1
        have ha2 := (hD.2 (3 * t + q) (by omega)).1
        have hw2 := (hD.2 (3 * t + q) (by omega)).2.2
        have hm : a (3 * t + h) * w (3 * t + q) ≤ 81 := Nat.mul_le_mul ha hw2
        rw [if_neg (nI_ge ht (by omega)), am7 hT ho ht hh, obs, wi7 hT hw ht hq, obs, pw7 hD hw (nI t) t (fun u hu => nI_eq (by omega) (by omega)), obs, am7 hT ho ht hq, pk_mul, nI_w (by omega)]
        have e9 := nI_w (k := a (3 * t + q)) (by omega)
        simp only [obs, nI_1, zL_mul, zL_add, e9]
        rw [qE_s]
        by_cases h1 : q = h
        · rw [if_pos (by rw [h1]), if_pos h1, zL_sub]
          congr 2
          simp only [Int.natCast_mul]
          omega
        · rw [if_neg (fun e => h1 ((nI_eq (by omega) (by omega)).mp e)), if_neg h1, show (0 : Int64) = zL 0 from rfl, zL_sub]
          congr 2
          simp only [Int.natCast_mul]
          omega
      · show fX4_setPulls_b28 (nI T) o wd rc r s _ _ _ _ _ _ = _
        unfold fX4_setPulls_b28
        rw [if_pos (nI_le (Nat.le_refl _) (by omega)), show (3 : Int32) * nI q + nI h = nI (3 * q + h) by rw [show (3 : Int32) = nI 3 from rfl, pk_mul, nI_add], astL_in (by omega) (by decide), obs, obs, nI_1]
        have e := plF_s (qX T a w) P (3 * q + h)
        rw [show (3 * q + h) / 3 = q by omega, show (3 * q + h) % 3 = h by omega] at e
        rw [show zL (qE T a w T q h) = zL (qX T a w q h) from rfl, e, Nat.add_assoc]
    · show fX4_setPulls_b16 (nI T) o wd rc r _ _ _ _ = _
      unfold fX4_setPulls_b16
      rw [if_pos (show (3 : Int32) ≤ nI 3 by decide), obs, nI_1]; rfl
end EXM
