/-! The six cells round a point; what another label does. -/
section RND
/-- cell number q round the point (i, j) -/
def rcN (n i j q : Nat) : Option Nat :=
  if q = 0 then (if i + j < n then some (2 * (n * i + j)) else none)
  else if q = 1 then (if 0 < i then some (2 * (n * (i - 1) + j)) else none)
  else if q = 2 then (if 0 < j then some (2 * (n * i + (j - 1))) else none)
  else if q = 3 then (if 0 < i ∧ 0 < j then some (2 * (n * (i - 1) + (j - 1)) + 1) else none)
  else if q = 4 then (if 0 < j ∧ i + j < n then some (2 * (n * i + (j - 1)) + 1) else none)
  else (if 0 < i ∧ i + j < n then some (2 * (n * (i - 1) + j) + 1) else none)
set_option maxRecDepth 100000 in
theorem rc_okB : ∀ n, n < 17 → ∀ i, i < n + 1 → ∀ j, j < n + 1 - i → ∀ q, q < 6 → (match rcN n i j q with | none => true | some c => cel n c && decide (co n c (q % 3) = pl n i j) && decide (c % 2 = q / 3)) = true := by decide +kernel
set_option maxRecDepth 100000 in
theorem co_rcB : ∀ n, n < 17 → ∀ c, c < 2 * n * n → cel n c = true → ∀ k, k < 3 → rcN n (iP n (co n c k)) (jP n (co n c k)) (k + 3 * (c % 2)) = some c := by decide +kernel
set_option maxRecDepth 100000 in
theorem co_neB : ∀ n, n < 17 → ∀ c, c < 2 * n * n → cel n c = true → ¬ co n c 0 = co n c 1 ∧ ¬ co n c 0 = co n c 2 ∧ ¬ co n c 1 = co n c 2 := by decide +kernel
theorem co_ne (n : Nat) (hn : n < 17) (c : Nat) (hc : c < 2 * n * n) (hcl : cel n c = true) (k : Nat) (hk : k < 3) (k2 : Nat) (hk2 : k2 < 3) (hne : ¬ k = k2) : ¬ co n c k = co n c k2 := by
  obtain ⟨h1, h2, h3⟩ := co_neB n hn c hc hcl
  have q1 : k = 0 ∨ k = 1 ∨ k = 2 := by omega
  have q2 : k2 = 0 ∨ k2 = 1 ∨ k2 = 2 := by omega
  rcases q1 with rfl | rfl | rfl <;> rcases q2 with rfl | rfl | rfl
  · exact absurd rfl hne
  · exact h1
  · exact h2
  · exact fun e => h1 e.symm
  · exact absurd rfl hne
  · exact h3
  · exact fun e => h2 e.symm
  · exact fun e => h3 e.symm
  · exact absurd rfl hne
/-- does the cell c lie at the point p -/
def rdB (n p c : Nat) : Bool := decide (co n c 0 = p) || (decide (co n c 1 = p) || decide (co n c 2 = p))
variable {n : Nat} {m now : Nat → Int32} {l k : Int32} {f g : Nat → Int64}
theorem rc_ok (hn : n < 17) {i j q c : Nat} (hij : i + j ≤ n) (hq : q < 6) (h : rcN n i j q = some c) : cel n c = true ∧ co n c (q % 3) = pl n i j ∧ c % 2 = q / 3 := by
  have h1 := rc_okB n hn i (by omega) j (by omega) q hq
  rw [h] at h1
  simp only [Bool.and_eq_true, decide_eq_true_eq] at h1
  exact ⟨h1.1.1, h1.1.2, h1.2⟩
theorem rd_rc (hn : n < 17) {i j c : Nat} (hij : i + j ≤ n) (hcl : cel n c = true) (h : rdB n (pl n i j) c = true) : ∃ q, q < 6 ∧ rcN n i j q = some c := by
  have key : ∀ k, k < 3 → co n c k = pl n i j → ∃ q, q < 6 ∧ rcN n i j q = some c := fun k hk e => by
    have h1 := co_rcB n hn c (cel_ij hcl).1 hcl k hk
    rw [e, iP_pl n hn i (by omega) j (by omega), jP_pl n hn i (by omega) j (by omega)] at h1
    exact ⟨k + 3 * (c % 2), by omega, h1⟩
  have h2 : co n c 0 = pl n i j ∨ co n c 1 = pl n i j ∨ co n c 2 = pl n i j := by simpa [rdB] using h
  rcases h2 with h2 | h2 | h2
  · exact key 0 (by decide) h2
  · exact key 1 (by decide) h2
  · exact key 2 (by decide) h2
def rcG (n i j : Nat) (G : Nat → Bool) (q : Nat) : Bool := match rcN n i j q with | none => false | some c => G c
/-- counting round a point -/
theorem round_ct (hn : n < 17) {i j : Nat} (hij : i + j ≤ n) (G : Nat → Bool) (hG : ∀ c, G c = true → cel n c = true) : fb_ct (fun c => G c && rdB n (pl n i j) c) (2 * n * n) = fb_ct (rcG n i j G) 6 := by
  have inj : ∀ q q' c, q < 6 → q' < 6 → rcN n i j q = some c → rcN n i j q' = some c → q = q' := fun q q' c hq hq' h h' => by
    obtain ⟨a1, a2, a3⟩ := rc_ok hn hij hq h
    obtain ⟨b1, b2, b3⟩ := rc_ok hn hij hq' h'
    have hd := a2.trans b2.symm
    have : q % 3 = q' % 3 := by
      have hx := (cel_ij a1).1
      have d1 := co_rcB n hn c hx a1 (q % 3) (Nat.mod_lt _ (by decide))
      have d2 := co_rcB n hn c hx a1 (q' % 3) (Nat.mod_lt _ (by decide))
      by_cases h9 : q % 3 = q' % 3
      · exact h9
      · exfalso
        have h10 := co_ne n hn c hx a1 (q % 3) (Nat.mod_lt _ (by decide)) (q' % 3) (Nat.mod_lt _ (by decide)) h9
        exact h10 hd
    omega
  apply Nat.le_antisymm
  · refine ct_inj (fun c => (fs (fun q => decide (rcN n i j q = some c)) 6).getD 0) (fun c hc hp => ?_) (fun c d hc hd hp hq heq => ?_)
    · rw [Bool.and_eq_true] at hp
      obtain ⟨q, h1, h2⟩ := rd_rc hn hij (hG c hp.1) hp.2
      rcases fs_cases (fun q => decide (rcN n i j q = some c)) 6 with ⟨q', b1, b2, -, b4⟩ | ⟨b1, -⟩
      · simp only [b4, Option.getD_some]
        refine ⟨b1, ?_⟩
        unfold rcG
        rw [of_decide_eq_true b2]; exact hp.1
      · have := b1 q h1
        simp only [h2, decide_true] at this; cases this
    · rw [Bool.and_eq_true] at hp hq
      obtain ⟨q, h1, h2⟩ := rd_rc hn hij (hG c hp.1) hp.2
      obtain ⟨q', h3, h4⟩ := rd_rc hn hij (hG d hq.1) hq.2
      have e1 : fs (fun q => decide (rcN n i j q = some c)) 6 = some q := fs_some (decide_eq_true h2) (fun r hr => decide_eq_false (fun e => by have := inj r q c (by omega) h1 e h2; omega)) h1
      have e2 : fs (fun q => decide (rcN n i j q = some d)) 6 = some q' := fs_some (decide_eq_true h4) (fun r hr => decide_eq_false (fun e => by have := inj r q' d (by omega) h3 e h4; omega)) h3
      simp only [e1, e2, Option.getD_some] at heq
      rw [heq, h4] at h2
      exact (Option.some.inj h2).symm
  · refine ct_inj (fun q => (rcN n i j q).getD 0) (fun q hq hp => ?_) (fun q q' hq hq' hp hp' heq => ?_)
    · unfold rcG at hp
      cases h : rcN n i j q with
      | none => rw [h] at hp; cases hp
      | some c =>
        simp only [h] at hp
        obtain ⟨a1, a2, a3⟩ := rc_ok hn hij hq h
        simp only [Option.getD_some]
        refine ⟨(cel_ij a1).1, ?_⟩
        have : rdB n (pl n i j) c = true := by
          unfold rdB
          have h4 : q % 3 = 0 ∨ q % 3 = 1 ∨ q % 3 = 2 := by omega
          rcases h4 with h4 | h4 | h4 <;> rw [h4] at a2 <;> simp [a2]
        rw [hp, this]; rfl
    · unfold rcG at hp hp'
      cases h : rcN n i j q with
      | none => rw [h] at hp; cases hp
      | some c =>
        cases h' : rcN n i j q' with
        | none => rw [h'] at hp'; cases hp'
        | some d =>
          simp only [h, h', Option.getD_some] at heq
          rw [heq] at h
          exact inj q q' d hq hq' h h'
theorem fub_out {p c : Nat} {x : Int32} (h : rdB n p c = false) : tn n (upd m p x) c = tn n m c := by
  have h2 : ¬ co n c 0 = p ∧ ¬ co n c 1 = p ∧ ¬ co n c 2 = p := by simpa [rdB] using h
  unfold tn tr3 upd
  rw [if_neg h2.1, if_neg h2.2.1, if_neg h2.2.2]
theorem fub_out2 {p c : Nat} {x : Int32} (h : rdB n p c = false) : fub n (upd m p x) c = fub n m c := by
  unfold fub
  rw [fub_out h]
/-- what a change of one label does to the count -/
theorem gain_ct (hn : n < 17) {i j : Nat} (hij : i + j ≤ n) (x : Int32) : fmn n (upd m (pl n i j) x) + fb_ct (rcG n i j (fub n m)) 6 = fmn n m + fb_ct (rcG n i j (fub n (upd m (pl n i j) x))) 6 := by
  have split : ∀ M, fmn n M = fb_ct (fun c => fub n M c && rdB n (pl n i j) c) (2 * n * n) + fb_ct (fun c => fub n M c && !rdB n (pl n i j) c) (2 * n * n) := fun M => by
    unfold fmn
    rw [← fb_ct_or (fun k _ h => by
      cases h9 : rdB n (pl n i j) k <;> simp [h9] at h)]
    refine fb_ct_cong (fun k _ => ?_)
    cases rdB n (pl n i j) k <;> simp
  have rest : fb_ct (fun c => fub n (upd m (pl n i j) x) c && !rdB n (pl n i j) c) (2 * n * n) = fb_ct (fun c => fub n m c && !rdB n (pl n i j) c) (2 * n * n) := fb_ct_cong (fun c _ => by
    cases h : rdB n (pl n i j) c with
    | true => simp
    | false => rw [fub_out2 h])
  rw [split m, split (upd m (pl n i j) x), rest, round_ct hn hij (fub n (upd m (pl n i j) x)) (fun c h => fub_c h), round_ct hn hij (fub n m) (fun c h => fub_c h)]
  omega
/-- those that are full then and not now -/
theorem fresh_ct (hn : n < 17) {i j : Nat} (hij : i + j ≤ n) (x : Int32) : fb_ct (fun c => fub n (upd m (pl n i j) x) c && !fub n m c) (2 * n * n) = fb_ct (rcG n i j (fun c => fub n (upd m (pl n i j) x) c && !fub n m c)) 6 := by
  rw [← round_ct hn hij _ (fun c h => by
    rw [Bool.and_eq_true] at h
    exact fub_c h.1)]
  refine fb_ct_cong (fun c _ => ?_)
  cases h : rdB n (pl n i j) c with
  | true => simp
  | false => rw [fub_out2 h]; simp
theorem nI_m1p (i : Nat) (h : 0 < i) : nI i + -1 = nI (i - 1) := by
  rw [← Int32.sub_eq_add_neg, show (1 : Int32) = nI 1 from rfl, pk_sub h]
theorem tat_neg (a b d : Int32) (h : a < 0 ∨ b < 0) : fX1_turnAt (nI n) m a b d = some 0 := by
  unfold fX1_turnAt
  rcases h with h | h
  · rw [if_pos h]
  · rw [if_pos h]
    split <;> rfl
theorem tat_far {i j d : Nat} (hi : i < 100) (hj : j < 100) (hd : d < 100) (hn : n < 100) (h : n ≤ i + j + d) : fX1_turnAt (nI n) m (nI i) (nI j) (nI d) = some 0 := by
  unfold fX1_turnAt
  rw [if_neg (nI_pos (by omega)), if_neg (nI_pos (by omega)), nI_add, nI_add, if_neg (nI_nlt h (by omega))]
theorem turnR7 (hn : n < 17) {i j q : Nat} (hij : i + j ≤ n) (hq : q < 6) : fX1_turnRound (nI n) m (nI i) (nI j) (nI q) = some (match rcN n i j q with | none => 0 | some c => tn n m c) := by
  have h3 : q = 0 ∨ q = 1 ∨ q = 2 ∨ q = 3 ∨ q = 4 ∨ q = 5 := by omega
  unfold fX1_turnRound
  rw [if_neg (nI_pos (by omega)), if_pos (show nI q < 6 from nI_lt (b := 6) hq (by decide)), ald_in hq (by decide), ald_in hq (by decide), ald_in hq (by decide), obs, obs, obs]
  have hneg : nI 0 + -1 < 0 := by decide
  rcases h3 with rfl | rfl | rfl | rfl | rfl | rfl
  · show (fX1_turnAt (nI n) m (nI i + 0) (nI j + 0) 0).bind _ = _
    rw [Int32.add_zero, Int32.add_zero]
    by_cases h : i + j < n
    · rw [tat0 hn h, obs, show rcN n i j 0 = some (2 * (n * i + j)) by simp [rcN, h]]
    · have := tat_far (n := n) (m := m) (i := i) (j := j) (d := 0) (by omega) (by omega) (by decide) (by omega) (by omega)
      rw [show fX1_turnAt (nI n) m (nI i) (nI j) 0 = some 0 from this, obs, show rcN n i j 0 = none by simp [rcN, h]]
  · show (fX1_turnAt (nI n) m (nI i + -1) (nI j + 0) 0).bind _ = _
    rw [Int32.add_zero]
    by_cases h : 0 < i
    · rw [nI_m1p i h, tat0 hn (by omega), obs, show rcN n i j 1 = some (2 * (n * (i - 1) + j)) by simp [rcN, h]]
    · have : i = 0 := by omega
      subst this
      rw [tat_neg _ _ _ (Or.inl hneg), obs]; rfl
  · show (fX1_turnAt (nI n) m (nI i + 0) (nI j + -1) 0).bind _ = _
    rw [Int32.add_zero]
    by_cases h : 0 < j
    · rw [nI_m1p j h, tat0 hn (by omega), obs, show rcN n i j 2 = some (2 * (n * i + (j - 1))) by simp [rcN, h]]
    · have : j = 0 := by omega
      subst this
      rw [tat_neg _ _ _ (Or.inr hneg), obs]; rfl
  · show (fX1_turnAt (nI n) m (nI i + -1) (nI j + -1) 1).bind _ = _
    by_cases h : 0 < i
    · by_cases h2 : 0 < j
      · rw [nI_m1p i h, nI_m1p j h2, tat1 hn (by omega), obs, show rcN n i j 3 = some (2 * (n * (i - 1) + (j - 1)) + 1) by simp [rcN, h, h2]]
      · have : j = 0 := by omega
        subst this
        rw [tat_neg _ _ _ (Or.inr hneg), obs, show rcN n i 0 3 = none by simp [rcN]]
    · have : i = 0 := by omega
      subst this
      rw [tat_neg _ _ _ (Or.inl hneg), obs, show rcN n 0 j 3 = none by simp [rcN]]
  · show (fX1_turnAt (nI n) m (nI i + 0) (nI j + -1) 1).bind _ = _
    rw [Int32.add_zero]
    by_cases h : 0 < j
    · rw [nI_m1p j h]
      by_cases h2 : i + j < n
      · rw [tat1 hn (by omega), obs, show rcN n i j 4 = some (2 * (n * i + (j - 1)) + 1) by simp [rcN, h, h2]]
      · have := tat_far (n := n) (m := m) (i := i) (j := j - 1) (d := 1) (by omega) (by omega) (by decide) (by omega) (by omega)
        rw [show fX1_turnAt (nI n) m (nI i) (nI (j - 1)) 1 = some 0 from this, obs, show rcN n i j 4 = none by simp [rcN, h2]]
    · have : j = 0 := by omega
      subst this
      rw [tat_neg _ _ _ (Or.inr hneg), obs, show rcN n i 0 4 = none by simp [rcN]]
  · show (fX1_turnAt (nI n) m (nI i + -1) (nI j + 0) 1).bind _ = _
    rw [Int32.add_zero]
    by_cases h : 0 < i
    · rw [nI_m1p i h]
      by_cases h2 : i + j < n
      · rw [tat1 hn (by omega), obs, show rcN n i j 5 = some (2 * (n * (i - 1) + j) + 1) by simp [rcN, h, h2]]
      · have := tat_far (n := n) (m := m) (i := i - 1) (j := j) (d := 1) (by omega) (by omega) (by decide) (by omega) (by omega)
        rw [show fX1_turnAt (nI n) m (nI (i - 1)) (nI j) 1 = some 0 from this, obs, show rcN n i j 5 = none by simp [rcN, h2]]
    · have : i = 0 := by omega
      subst this
      rw [tat_neg _ _ _ (Or.inl hneg), obs, show rcN n 0 j 5 = none by simp [rcN]]
theorem fullR7 (hn : n < 17) {i j : Nat} (hij : i + j ≤ n) : fX1_fullRound (nI n) m (nI i) (nI j) = some (nI (fb_ct (rcG n i j (fub n m)) 6)) := by
  unfold fX1_fullRound
  refine l_acc0 (F := fX1_fullRound_b5 (nI n) m) (fun rc q => rc (nI i) (nI j) (nI (fb_ct (rcG n i j (fub n m)) q)) (nI q)) 6 (by decide) _ (fun rc q hq => ?_) (fun rc => rfl)
  show fX1_fullRound_b5 (nI n) m rc _ _ _ _ = _
  unfold fX1_fullRound_b5 fX1_fullRound_b29
  rw [if_neg (show ¬ (6 : Int32) ≤ nI q from nI_ge hq (by decide)), turnR7 hn hij hq, obs, fb_ct_succ]
  simp only [obs, nI_1]
  have e : rcG n i j (fub n m) q = (match rcN n i j q with | none => false | some c => fub n m c) := rfl
  rw [e]
  cases h : rcN n i j q with
  | none => simp
  | some c =>
    by_cases h1 : tn n m c = 0
    · have hf : fub n m c = false := by simp [fub, h1]
      simp [h1, hf]
    · have hf : fub n m c = true := by simp [fub, h1]
      simp [h1, hf]
theorem putn7 {p : Nat} (hp : p < 153) (x : Int32) : fX1_putNumber m (nI p) x = some (upd m p x) := by
  unfold fX1_putNumber
  rw [if_neg (nI_pos (by omega)), if_neg (show ¬ (153 : Int32) ≤ nI p from nI_ge hp (by decide)), ast_in hp (by decide), obs]
theorem put7 (hn : n < 17) {i j : Nat} (hij : i + j ≤ n) (x : Int32) : fX1_put (nI n) m (nI i) (nI j) x = some (upd m (pl n i j) x) := by
  have h1 := pts_pl n hn i (by omega) (by omega) j (by omega) (by omega)
  have h2 := pts_le n hn
  unfold fX1_put
  rw [num7 n hn i (by omega) j (by omega) (by omega), obs, putn7 (by omega), obs]
theorem upd_back (p : Nat) (x : Int32) : upd (upd m p x) p (m p) = m := by
  rw [fa_upd_twice, fa_upd_same rfl]
theorem gain7 (hn : n < 17) {i j : Nat} (hij : i + j ≤ n) (x : Int32) : fX1_gain (nI n) m (nI i) (nI j) x = some (nI (fmn n (upd m (pl n i j) x)) - nI (fmn n m), m) := by
  unfold fX1_gain
  rw [lat7 hn hij, obs, fullR7 hn hij, obs, put7 hn hij, obs, fullR7 hn hij, obs, put7 hn hij, obs, upd_back]
  have h := gain_ct (m := m) hn hij x
  have h1 : nI (fmn n (upd m (pl n i j) x)) + nI (fb_ct (rcG n i j (fub n m)) 6) = nI (fmn n m) + nI (fb_ct (rcG n i j (fub n (upd m (pl n i j) x))) 6) := by rw [nI_add, nI_add, h]
  generalize nI (fmn n (upd m (pl n i j) x)) = a at *
  generalize nI (fmn n m) = b at *
  generalize nI (fb_ct (rcG n i j (fub n m)) 6) = c at *
  generalize nI (fb_ct (rcG n i j (fub n (upd m (pl n i j) x))) 6) = d at *
  have : d - c = a - b := by
    have e1 : a = b + d - c := by rw [← h1, Int32.add_sub_cancel]
    rw [e1, Int32.add_comm b d, Int32.sub_eq_add_neg (d + b) c, Int32.add_assoc, Int32.add_comm b, ← Int32.add_assoc, ← Int32.sub_eq_add_neg, Int32.add_sub_cancel]
  rw [this]
end RND
