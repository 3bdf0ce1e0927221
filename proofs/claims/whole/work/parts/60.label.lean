/-! The label by a rule. -/
section LBR
variable {n : Nat} {m now : Nat → Int32} {P : Nat → Int64} {Q : Nat → Nat → Int}
/-- the good of the least pull among the first t that have a price -/
def bg (Q : Nat → Nat → Int) (n i j : Nat) : Nat → Option Nat
  | 0 => none
  | t + 1 => if prc n i j t = 0 then bg Q n i j t else match bg Q n i j t with
    | none => some t
    | some b => if qv Q n i j t < qv Q n i j b then some t else some b
theorem bg_ok {i j : Nat} : ∀ t, (∀ b, bg Q n i j t = some b → b < t ∧ 0 < prc n i j b) ∧ (bg Q n i j t = none → ∀ q, q < t → prc n i j q = 0) := by
  intro t
  induction t with
  | zero => exact ⟨fun b h => (by cases h), fun _ q hq => by omega⟩
  | succ t ih =>
    rw [bg]
    by_cases h0 : prc n i j t = 0
    · rw [if_pos h0]
      refine ⟨fun b hb => ?_, fun hb q hq => ?_⟩
      · have := ih.1 b hb; omega
      · by_cases h1 : q = t
        · rw [h1]; exact h0
        · exact ih.2 hb q (by omega)
    · rw [if_neg h0]
      cases hb : bg Q n i j t with
      | none => exact ⟨fun b h => (by cases h; omega), fun h => (by cases h)⟩
      | some c =>
        have hc := ih.1 c hb
        simp only
        refine ⟨fun b h => ?_, fun h => ?_⟩
        · split at h
          · cases h; omega
          · cases h; omega
        · split at h <;> cases h
theorem bg_some (hn1 : 1 ≤ n) {i j : Nat} (hij : i + j ≤ n) : ∃ b, bg Q n i j 3 = some b ∧ b < 3 ∧ 0 < prc n i j b := by
  cases h : bg Q n i j 3 with
  | some b => exact ⟨b, rfl, (bg_ok 3).1 b h⟩
  | none =>
    exfalso
    have h0 := (bg_ok 3).2 h 0 (by decide)
    have h1 := (bg_ok 3).2 h 1 (by decide)
    have h2 := (bg_ok 3).2 h 2 (by decide)
    have e0 : prc n i j 0 = i := rfl
    have e1 : prc n i j 1 = j := rfl
    have e2 : prc n i j 2 = n - i - j := rfl
    omega
/-- the first good with a price that is pulled to it -/
def fgB (Q : Nat → Nat → Int) (n i j t : Nat) : Bool := decide (0 < prc n i j t) && decide (qv Q n i j t ≤ 0)
def lbN (kd : Int32) (Q : Nat → Nat → Int) (n i j : Nat) : Nat := if kd = 2 then (fs (fgB Q n i j) 3).getD 0 else (bg Q n i j 3).getD 0
def lsQ (Q : Nat → Nat → Int) (n i j : Nat) (s : Option Nat) : Int64 := match s with | none => 0 | some b => zL (qv Q n i j b)
theorem lab7s (hn : n < 17) (hP : PUL P Q) (hB : BQ Q) {i j t : Nat} {kd : Int32} (hij : i + j ≤ n) (ht : t < 3) (hno : kd = 2 → fgB Q n i j t = false) (rc : Int32 → Int32 → Int32 → Int64 → Int32 → Option Int32) : fX4_labelFor_b9 kd P (nI n) rc (nI i) (nI j) (oI (bg Q n i j t)) (lsQ Q n i j (bg Q n i j t)) (nI t) = rc (nI i) (nI j) (oI (bg Q n i j (t + 1))) (lsQ Q n i j (bg Q n i j (t + 1))) (nI (t + 1)) := by
  unfold fX4_labelFor_b9 fX4_labelFor_b58 fX4_labelFor_b72
  have hpl := prc_le (q := t) hn hij
  have hb := hB n i j t hn hij ht
  rw [if_neg (show ¬ (3 : Int32) ≤ nI t from nI_ge ht (by decide)), prc7 n hn i (by omega) j (by omega) t ht, obs, pull7 hn hP hij ht, obs]
  simp only [obs, nI_1]
  rw [bg]
  by_cases h0 : prc n i j t = 0
  · rw [h0, if_pos (show nI 0 = (0 : Int32) from rfl), if_pos rfl]
  · rw [if_neg (nI_n0 (by omega) (by omega)), if_neg h0]
    have hkd : kd = 2 → ¬ qv Q n i j t ≤ 0 := fun e h9 => by
      have := hno e
      unfold fgB at this
      rw [decide_eq_true (show 0 < prc n i j t by omega), decide_eq_true h9] at this
      cases this
    have step : (if oI (bg Q n i j t) = -1 then rc (nI i) (nI j) (nI t) (zL (qv Q n i j t)) (nI (t + 1)) else if 0 ≤ lg_cmp (zL (qv Q n i j t)) (lsQ Q n i j (bg Q n i j t)) then rc (nI i) (nI j) (oI (bg Q n i j t)) (lsQ Q n i j (bg Q n i j t)) (nI (t + 1)) else rc (nI i) (nI j) (nI t) (zL (qv Q n i j t)) (nI (t + 1))) = rc (nI i) (nI j) (oI (match bg Q n i j t with | none => some t | some b => if qv Q n i j t < qv Q n i j b then some t else some b)) (lsQ Q n i j (match bg Q n i j t with | none => some t | some b => if qv Q n i j t < qv Q n i j b then some t else some b)) (nI (t + 1)) := by
      cases hb2 : bg Q n i j t with
      | none => rw [if_pos oIn]; rfl
      | some b =>
        have hbt := ((bg_ok t).1 b hb2).1
        have hbb := hB n i j b hn hij (by omega)
        rw [if_neg (oI_e (by omega))]
        show (if 0 ≤ lg_cmp (zL (qv Q n i j t)) (zL (qv Q n i j b)) then _ else _) = _
        by_cases h9 : qv Q n i j t < qv Q n i j b
        · rw [if_neg (fun e => by have := (zL_le hbb.1 hbb.2 hb.1 hb.2).mp ((lg_cmp_ge _ _).mp e); omega)]
          simp only [if_pos h9]; rfl
        · rw [if_pos ((lg_cmp_ge _ _).mpr ((zL_le hbb.1 hbb.2 hb.1 hb.2).mpr (by omega)))]
          simp only [if_neg h9]
    by_cases h2 : kd = 2
    · rw [if_pos h2, if_pos (show 0 < lg_cmp (zL (qv Q n i j t)) 0 from (lg_cmp_gt _ _).mpr ((zL_lt (a := 0) (by omega) (by omega) hb.1 hb.2).mpr (by have := hkd h2; omega)))]
      exact step
    · rw [if_neg h2]
      exact step
/-- the class's label -/
theorem lab7 (hn : n < 17) (hn1 : 1 ≤ n) (hP : PUL P Q) (hB : BQ Q) {kd : Int32} {i j : Nat} (hij : i + j ≤ n) (hm : kd = 2 → ∃ b, fs (fgB Q n i j) 3 = some b) : fX4_labelFor kd P (nI n) (nI i) (nI j) = some (nI (lbN kd Q n i j)) := by
  unfold fX4_labelFor lbN
  by_cases h2 : kd = 2
  · obtain ⟨b, hb⟩ := hm h2
    have key := l_fs (F := fX4_labelFor_b9 kd P (nI n)) (z := fun _ _ _ _ _ => none) (fun rc t => rc (nI i) (nI j) (oI (bg Q n i j t)) (lsQ Q n i j (bg Q n i j t)) (nI t)) (fun t => some (nI t)) (fgB Q n i j) 3 (by decide) (fun rc t ht hp => lab7s hn hP hB hij ht (fun _ => hp) rc) (fun rc t ht hp => ?_) (some (oI (bg Q n i j 3))) (fun rc => rfl)
    · rw [hb] at key
      rw [if_pos h2, hb]
      exact key
    · show fX4_labelFor_b9 kd P (nI n) rc _ _ _ _ _ = _
      unfold fX4_labelFor_b9
      have hpl := prc_le (q := t) hn hij
      have hbd := hB n i j t hn hij ht
      have hp1 : 0 < prc n i j t ∧ qv Q n i j t ≤ 0 := by simpa [fgB] using hp
      rw [if_neg (show ¬ (3 : Int32) ≤ nI t from nI_ge ht (by decide)), prc7 n hn i (by omega) j (by omega) t ht, obs, pull7 hn hP hij ht, if_neg (nI_n0 (by omega) (by omega)), obs, if_pos h2, if_neg (fun e : 0 < lg_cmp (zL (qv Q n i j t)) 0 => by have := (zL_lt (a := 0) (by omega) (by omega) hbd.1 hbd.2).mp ((lg_cmp_gt _ _).mp e); omega)]
  · obtain ⟨b, hb, -, -⟩ := bg_some (Q := Q) hn1 hij
    rw [if_neg h2]
    refine l_acc0 (F := fX4_labelFor_b9 kd P (nI n)) (fun rc t => rc (nI i) (nI j) (oI (bg Q n i j t)) (lsQ Q n i j (bg Q n i j t)) (nI t)) 3 (by decide) _ (fun rc t ht => lab7s hn hP hB hij ht (fun e => absurd e h2) rc) (fun rc => ?_)
    show some (oI (bg Q n i j 3)) = _
    rw [hb]; rfl
/-- the reference's, by exchange -/
theorem byEx8 (hn : n < 17) (hn1 : 1 ≤ n) (h : now 0 = nI n) (hE : EX8 now Q n) (hB : BQ Q) {i j : Nat} (hij : i + j ≤ n) : fX8_byExchange now (nI i) (nI j) = some (nI (lbN 1 Q n i j)) := by
  unfold fX8_byExchange lbN
  obtain ⟨b, hb, -, -⟩ := bg_some (Q := Q) hn1 hij
  rw [if_neg (show ¬ (1 : Int32) = 2 by decide)]
  refine l_acc0 (F := fX8_byExchange_b5 now) (fun rc t => rc (nI i) (nI j) (oI (bg Q n i j t)) (nI t)) 3 (by decide) _ (fun rc t ht => ?_) (fun rc => ?_)
  · show fX8_byExchange_b5 now rc _ _ _ _ = _
    unfold fX8_byExchange_b5 fX8_byExchange_b48
    have hbd := hB n i j t hn hij ht
    rw [if_neg (show ¬ (3 : Int32) ≤ nI t from nI_ge ht (by decide)), can8 hn h hij ht, obs, ifb, hE i j t hij ht]
    simp only [obs, nI_1]
    rw [bg]
    by_cases h0 : prc n i j t = 0
    · rw [decide_eq_false (show ¬ 0 < prc n i j t by omega), if_neg (show ¬ false = true by decide), if_pos h0]
    · rw [decide_eq_true (show 0 < prc n i j t by omega), if_pos rfl, if_neg h0]
      cases hb2 : bg Q n i j t with
      | none => rw [if_pos oIn]; rfl
      | some c =>
        have hbt := ((bg_ok t).1 c hb2).1
        have hbb := hB n i j c hn hij (by omega)
        rw [if_neg (oI_e (by omega)), show oI (some c) = nI c from rfl, hE i j c hij (by omega), obs]
        by_cases h9 : qv Q n i j t < qv Q n i j c
        · rw [if_neg (fun e => by have := (zI_le hbb.1 hbb.2 hbd.1 hbd.2).mp e; omega)]
          simp only [if_pos h9]; rfl
        · rw [if_pos ((zI_le hbb.1 hbb.2 hbd.1 hbd.2).mpr (by omega))]
          simp only [if_neg h9]; rfl
  · show some (oI (bg Q n i j 3)) = _
    rw [hb]; rfl
/-- a map: nine digits, its columns' sum -/
def MX (M : Nat → Nat) (S : Nat) : Prop := (∀ q, q < 9 → M q ≤ 9) ∧ M 0 + M 3 + M 6 = S ∧ M 1 + M 4 + M 7 = S ∧ M 2 + M 5 + M 8 = S
def qM (M : Nat → Nat) (S : Nat) (q h : Nat) : Int := (M (3 * q + h) : Int) - (if q = h then (S : Int) else 0)
def RMp (M : Nat → Nat) (now : Nat → Int32) : Prop := ∀ q, q < 9 → now (27 + q) = nI (M q)
def mpd (M : Nat → Nat) (n i j q : Nat) : Nat := M (3 * q) * i + M (3 * q + 1) * j + M (3 * q + 2) * (n - i - j)
theorem qM_v (M : Nat → Nat) (S : Nat) {i j q : Nat} (hq : q < 3) : qv (qM M S) n i j q = (mpd M n i j q : Int) - ((S * prc n i j q : Nat) : Int) := by
  have h3 : q = 0 ∨ q = 1 ∨ q = 2 := by omega
  unfold qv qM mpd
  generalize hk : n - i - j = d
  rcases h3 with rfl | rfl | rfl
  · rw [if_pos rfl, if_neg (by decide), if_neg (by decide), show prc n i j 0 = i from rfl]
    simp only [Nat.mul_zero, Nat.zero_add, Int.natCast_add, Int.natCast_mul]
    grind
  · rw [if_neg (by decide), if_pos rfl, if_neg (by decide), show prc n i j 1 = j from rfl]
    simp only [Nat.add_zero, Int.natCast_add, Int.natCast_mul]
    grind
  · rw [if_neg (by decide), if_neg (by decide), if_pos rfl, show prc n i j 2 = d from hk]
    simp only [Nat.add_zero, Int.natCast_add, Int.natCast_mul]
    grind
theorem mpd_le {M : Nat → Nat} {S : Nat} (h : MX M S) (hn : n < 17) {i j q : Nat} (hij : i + j ≤ n) (hq : q < 3) : mpd M n i j q ≤ 144 ∧ S * prc n i j q ≤ 432 := by
  have h0 := h.1 (3 * q) (by omega)
  have h1 := h.1 (3 * q + 1) (by omega)
  have h2 := h.1 (3 * q + 2) (by omega)
  have q0 := Nat.mul_le_mul_right i h0
  have q1 := Nat.mul_le_mul_right j h1
  have q2 := Nat.mul_le_mul_right (n - i - j) h2
  have s1 := h.1 0 (by decide)
  have s2 := h.1 3 (by decide)
  have s3 := h.1 6 (by decide)
  have s4 := h.2.1
  refine ⟨?_, ?_⟩
  · unfold mpd; omega
  · exact Nat.le_trans (Nat.mul_le_mul (show S ≤ 27 by omega) (prc_le hn hij)) (by decide)
theorem qM_bd {M : Nat → Nat} {S : Nat} (h : MX M S) : BQ (qM M S) := fun n i j q hn hij hq => by
  rw [qM_v M S hq]
  have := mpd_le h hn hij hq
  omega
theorem fg_some {M : Nat → Nat} {S : Nat} (h : MX M S) (hn : n < 17) (hn1 : 1 ≤ n) {i j : Nat} (hij : i + j ≤ n) : ∃ b, fs (fgB (qM M S) n i j) 3 = some b ∧ b < 3 ∧ 0 < prc n i j b := by
  cases hf : fs (fgB (qM M S) n i j) 3 with
  | some b =>
    obtain ⟨h1, h2, -⟩ := fs_lt hf
    have : 0 < prc n i j b ∧ qv (qM M S) n i j b ≤ 0 := by simpa [fgB] using h2
    exact ⟨b, rfl, h1, this.1⟩
  | none =>
    exfalso
    have hall : ∀ q, q < 3 → fgB (qM M S) n i j q = false := fun q hq => by
      rcases fs_cases (fgB (qM M S) n i j) 3 with ⟨c, -, -, -, h4⟩ | ⟨h1, -⟩
      · rw [hf] at h4; cases h4
      · exact h1 q hq
    have hx : ∀ q, q < 3 → 0 < prc n i j q → S * prc n i j q < mpd M n i j q := fun q hq hp => by
      have h1 := hall q hq
      have h2 : ¬ qv (qM M S) n i j q ≤ 0 := by simpa [fgB, hp] using h1
      rw [qM_v M S hq] at h2
      omega
    have hz : ∀ q, q < 3 → S * prc n i j q ≤ mpd M n i j q := fun q hq => by
      by_cases hp : 0 < prc n i j q
      · have := hx q hq hp; omega
      · rw [show prc n i j q = 0 by omega, Nat.mul_zero]; exact Nat.zero_le _
    have hsum : mpd M n i j 0 + mpd M n i j 1 + mpd M n i j 2 = S * prc n i j 0 + S * prc n i j 1 + S * prc n i j 2 := by
      have e0 : prc n i j 0 = i := rfl
      have e1 : prc n i j 1 = j := rfl
      have e2 : prc n i j 2 = n - i - j := rfl
      rw [e0, e1, e2]
      unfold mpd
      generalize n - i - j = d
      obtain ⟨-, h1, h2, h3⟩ := h
      show M 0 * i + M 1 * j + M 2 * d + (M 3 * i + M 4 * j + M 5 * d) + (M 6 * i + M 7 * j + M 8 * d) = S * i + S * j + S * d
      have g1 : S * i = M 0 * i + M 3 * i + M 6 * i := by rw [← h1, Nat.add_mul, Nat.add_mul]
      have g2 : S * j = M 1 * j + M 4 * j + M 7 * j := by rw [← h2, Nat.add_mul, Nat.add_mul]
      have g3 : S * d = M 2 * d + M 5 * d + M 8 * d := by rw [← h3, Nat.add_mul, Nat.add_mul]
      omega
    have z0 := hz 0 (by decide)
    have z1 := hz 1 (by decide)
    have z2 := hz 2 (by decide)
    have e0 : prc n i j 0 = i := rfl
    have e1 : prc n i j 1 = j := rfl
    have e2 : prc n i j 2 = n - i - j := rfl
    have hpos : 0 < prc n i j 0 ∨ 0 < prc n i j 1 ∨ 0 < prc n i j 2 := by omega
    rcases hpos with hp | hp | hp
    · have := hx 0 (by decide) hp; omega
    · have := hx 1 (by decide) hp; omega
    · have := hx 2 (by decide) hp; omega
theorem mapped8 (hn : n < 17) (h : now 0 = nI n) {M : Nat → Nat} (hM : RMp M now) {i j q : Nat} (hij : i + j ≤ n) (hq : q < 3) : fX8_mapped now (nI i) (nI j) (nI q) = some (nI (mpd M n i j q)) := by
  unfold fX8_mapped
  have e3 : fb_sm (fun h => M (3 * q + h) * prc n i j h) 3 = mpd M n i j q := by
    rw [fb_sm_succ, fb_sm_succ, fb_sm_succ]
    simp [fb_sm, prc, mpd]
  rw [← e3]
  refine l_acc0 (F := fX8_mapped_b6 now) (fun rc t => rc (nI i) (nI j) (nI q) (nI (fb_sm (fun h => M (3 * q + h) * prc n i j h) t)) (nI t)) 3 (by decide) _ (fun rc t ht => ?_) (fun rc => rfl)
  show fX8_mapped_b6 now rc _ _ _ _ _ = _
  unfold fX8_mapped_b6
  rw [if_neg (show ¬ (3 : Int32) ≤ nI t from nI_ge ht (by decide)), show (27 : Int32) + 3 * nI q + nI t = nI (27 + (3 * q + t)) by rw [show (3 : Int32) = nI 3 from rfl, show (27 : Int32) = nI 27 from rfl, pk_mul, nI_add, nI_add, Nat.add_assoc], ald_in (by omega) (by decide), obs, hM _ (by omega), prc8 hn h hij ht, obs, obs, obs, nI_1, pk_mul, nI_add, fb_sm_succ]
theorem mapSum8 {M : Nat → Nat} {S : Nat} (hX : MX M S) (hM : RMp M now) : fX8_mapSum now 0 = some (nI S) := by
  unfold fX8_mapSum
  have a0 : ald 189 ((27 : Int32) + 0) now = some (nI (M 0)) := by rw [← hM 0 (by decide)]; exact ald_in (i := 27) (by decide) (by decide)
  have a1 : ald 189 ((30 : Int32) + 0) now = some (nI (M 3)) := by rw [← hM 3 (by decide)]; exact ald_in (i := 30) (by decide) (by decide)
  have a2 : ald 189 ((33 : Int32) + 0) now = some (nI (M 6)) := by rw [← hM 6 (by decide)]; exact ald_in (i := 33) (by decide) (by decide)
  rw [a0, obs, a1, obs, a2, obs, nI_add, nI_add, hX.2.1]
theorem byMap8 (hn : n < 17) (hn1 : 1 ≤ n) (h : now 0 = nI n) {M : Nat → Nat} {S : Nat} (hX : MX M S) (hM : RMp M now) {i j : Nat} (hij : i + j ≤ n) : fX8_byMap now (nI i) (nI j) = some (nI (lbN 2 (qM M S) n i j)) := by
  obtain ⟨b, hb, hb3, hbp⟩ := fg_some hX hn hn1 hij
  obtain ⟨h1, h2, h3⟩ := fs_lt hb
  unfold fX8_byMap lbN
  rw [if_pos rfl, hb]
  have step : ∀ rc t, t < 3 → fX8_byMap_b2 now rc (nI i) (nI j) (nI t) = if fgB (qM M S) n i j t then some (nI t) else rc (nI i) (nI j) (nI (t + 1)) := fun rc t ht => by
    have hl := mpd_le hX hn hij ht
    unfold fX8_byMap_b2
    rw [can8 hn h hij ht, obs, ifb, mapped8 hn h hM hij ht, obs, mapSum8 hX hM, obs, prc8 hn h hij ht, obs, obs, pk_mul, nI_1]
    unfold fgB
    rw [qM_v M S ht]
    by_cases h0 : 0 < prc n i j t
    · rw [decide_eq_true h0, if_pos rfl]
      by_cases h9 : mpd M n i j t ≤ S * prc n i j t
      · rw [if_pos (nI_le h9 (by omega)), decide_eq_true (by omega)]; rfl
      · rw [if_neg (nI_ge (by omega) (by omega)), decide_eq_false (by omega)]; rfl
    · rw [decide_eq_false h0, if_neg (by decide)]; rfl
  refine l_acc0 (F := fX8_byMap_b2 now) (fun rc t => rc (nI i) (nI j) (nI t)) b (by omega) _ (fun rc t ht => ?_) (fun rc => ?_)
  · show fX8_byMap_b2 now rc _ _ _ = _
    rw [step rc t (by omega), h3 t ht]; rfl
  · show fX8_byMap_b2 now rc _ _ _ = _
    rw [step rc b h1, h2]; rfl
end LBR
