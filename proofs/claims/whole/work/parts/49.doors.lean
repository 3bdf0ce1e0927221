/-! doors. -/
section DRC
theorem ct_inj {p q : Nat → Bool} {N M : Nat} (φ : Nat → Nat) (h1 : ∀ c, c < N → p c = true → φ c < M ∧ q (φ c) = true) (h2 : ∀ c d, c < N → d < N → p c = true → p d = true → φ c = φ d → c = d) : fb_ct p N ≤ fb_ct q M := by
  refine fb_holes (fb_ct q M) (fb_ct p N) (fun i => fb_ct q (φ (tk p N i))) (fun i hi => ?_) (fun i j hij hj => ?_)
  · obtain ⟨a1, a2, -⟩ := tk_ok hi
    obtain ⟨b1, b2⟩ := h1 _ a1 a2
    have e : fb_ct q (φ (tk p N i) + 1) = fb_ct q (φ (tk p N i)) + 1 := by rw [fb_ct_succ, b2]; rfl
    have := fb_ct_mono q (show φ (tk p N i) + 1 ≤ M from b1)
    omega
  · obtain ⟨a1, a2, a3⟩ := tk_ok (show i < fb_ct p N by omega)
    obtain ⟨c1, c2, c3⟩ := tk_ok hj
    intro e
    have e2 := fb_ct_kth_one (h1 _ a1 a2).2 (h1 _ c1 c2).2 e
    have e3 := h2 _ _ a1 c1 a2 c2 e2
    rw [e3] at a3
    omega
theorem sm_ct (p : Nat → Bool) : ∀ N, fb_sm (fun c => if p c then 1 else 0) N = fb_ct p N := by
  intro N
  induction N with
  | zero => rfl
  | succ N ih => rw [fb_sm_succ, ih, fb_ct_succ]
set_option maxRecDepth 100000 in
theorem dn_bey : ∀ n, n < 17 → ∀ c, c < 2 * n * n → cel n c = true → c % 2 = 1 → ∀ e, e < 3 → (bey n c e).isSome = true := by decide +kernel
variable {n : Nat} {m now : Nat → Int32} {v : Nat} {l k : Int32} {f g : Nat → Int64}
/-- how many of the first k edges are doors -/
def own (n : Nat) (m : Nat → Int32) (v c k : Nat) : Nat := fb_ct (fun e => db n m v c e) k
theorem own3 (c : Nat) : own n m v c 3 = (if db n m v c 0 then 1 else 0) + (if db n m v c 1 then 1 else 0) + (if db n m v c 2 then 1 else 0) := by
  unfold own
  rw [fb_ct_succ, fb_ct_succ, fb_ct_succ]
  simp [fb_ct]
theorem own_le2 (hn : n < 17) (hl : VL n m) (hv : v < 3) {c : Nat} (hcl : cel n c = true) : own n m v c 3 ≤ 2 := by
  have h := db3 hn hl hv hcl
  rw [own3]
  cases h0 : db n m v c 0 <;> cases h1 : db n m v c 1 <;> cases h2 : db n m v c 2 <;> simp
  exact h ⟨h0, h1, h2⟩
def dUp (n : Nat) (m : Nat → Int32) (v e c : Nat) : Bool := cel n c && decide (c % 2 = 0) && db n m v c e
def dDn (n : Nat) (m : Nat → Int32) (v e c : Nat) : Bool := cel n c && decide (c % 2 = 1) && db n m v c e
def dIn (n : Nat) (m : Nat → Int32) (v e c : Nat) : Bool := dUp n m v e c && (bey n c e).isSome
def dRm (n : Nat) (m : Nat → Int32) (v e c : Nat) : Bool := dUp n m v e c && !(bey n c e).isSome
theorem up_split (e N : Nat) : fb_ct (dUp n m v e) N = fb_ct (dIn n m v e) N + fb_ct (dRm n m v e) N := by
  rw [← fb_ct_or (fun k _ h => by
    unfold dIn dRm at h
    cases h9 : (bey n k e).isSome <;> simp [h9] at h)]
  refine fb_ct_cong (fun k _ => ?_)
  unfold dIn dRm
  cases (bey n k e).isSome <;> simp
theorem and3 {a b c : Bool} : (a && b && c) = true ↔ a = true ∧ b = true ∧ c = true := by
  cases a <;> cases b <;> cases c <;> simp
theorem dn_in (hn : n < 17) (hv : v < 3) {e : Nat} (he : e < 3) : fb_ct (dDn n m v e) (2 * n * n) = fb_ct (dIn n m v e) (2 * n * n) := by
  have gd : ∀ c, cel n c = true → c % 2 = 1 → ∃ c', bey n c e = some c' := fun c hc h1 => by
    have := dn_bey n hn c (cel_ij hc).1 hc h1 e he
    cases h9 : bey n c e with
    | none => rw [h9] at this; cases this
    | some c' => exact ⟨c', rfl⟩
  apply Nat.le_antisymm
  · refine ct_inj (fun c => (bey n c e).getD 0) (fun c hc hp => ?_) (fun c d hc hd hp hq heq => ?_)
    · obtain ⟨a1, a2, a3⟩ := and3.mp hp
      obtain ⟨c', hb⟩ := gd c a1 (of_decide_eq_true a2)
      obtain ⟨b1, b2, b3, -⟩ := bey_ok hn a1 he hb
      simp only [hb, Option.getD_some]
      refine ⟨(cel_ij b1).1, ?_⟩
      unfold dIn dUp
      have a2 : c % 2 = 1 := of_decide_eq_true a2
      rw [b1, b2, db_bey hn a1 he hb, a3, decide_eq_true (show c' % 2 = 0 by omega)]; rfl
    · obtain ⟨a1, a2, a3⟩ := and3.mp hp
      obtain ⟨b1, b2, b3⟩ := and3.mp hq
      obtain ⟨c', hb⟩ := gd c a1 (of_decide_eq_true a2)
      obtain ⟨d', hb2⟩ := gd d b1 (of_decide_eq_true b2)
      simp only [hb, hb2, Option.getD_some] at heq
      have q1 := (bey_ok hn a1 he hb).2.1
      have q2 := (bey_ok hn b1 he hb2).2.1
      rw [heq, q2] at q1
      exact (Option.some.inj q1).symm
  · have gi : ∀ c, dIn n m v e c = true → cel n c = true ∧ c % 2 = 0 ∧ db n m v c e = true ∧ ∃ c', bey n c e = some c' := fun c h => by
      unfold dIn dUp at h
      rw [Bool.and_eq_true] at h
      obtain ⟨a1, a2, a3⟩ := and3.mp h.1
      refine ⟨a1, of_decide_eq_true a2, a3, ?_⟩
      cases h9 : bey n c e with
      | none => rw [h9] at h; cases h.2
      | some c' => exact ⟨c', rfl⟩
    refine ct_inj (fun c => (bey n c e).getD 0) (fun c hc hp => ?_) (fun c d hc hd hp hq heq => ?_)
    · obtain ⟨a1, a2, a3, c', hb⟩ := gi c hp
      obtain ⟨b1, b2, b3, -⟩ := bey_ok hn a1 he hb
      simp only [hb, Option.getD_some]
      refine ⟨(cel_ij b1).1, ?_⟩
      unfold dDn
      rw [b1, db_bey hn a1 he hb, a3, decide_eq_true (show c' % 2 = 1 by omega)]; rfl
    · obtain ⟨a1, -, -, c', hb⟩ := gi c hp
      obtain ⟨b1, -, -, d', hb2⟩ := gi d hq
      simp only [hb, hb2, Option.getD_some] at heq
      have q1 := (bey_ok hn a1 he hb).2.1
      have q2 := (bey_ok hn b1 he hb2).2.1
      rw [heq, q2] at q1
      exact (Option.some.inj q1).symm
theorem rm_ok (hn : n < 17) (hp : SPR n m) (hv : v < 3) {e : Nat} (he : e < 3) {c : Nat} (h : dRm n m v e c = true) : e = (v + 1) % 3 ∧ sc n v (stp n v c) = c ∧ stp n v c < n ∧ ob n m v (stp n v c) = true := by
  unfold dRm dUp at h
  rw [Bool.and_eq_true] at h
  obtain ⟨a1, a2, a3⟩ := and3.mp h.1
  have hb : bey n c e = none := by
    cases h9 : bey n c e with
    | none => rfl
    | some c' => rw [h9] at h; cases h.2
  exact rim_door hn hp hv a1 he hb a3
theorem rm_ct (hn : n < 17) (hp : SPR n m) (hv : v < 3) {e : Nat} (he : e < 3) : fb_ct (dRm n m v e) (2 * n * n) = if e = (v + 1) % 3 then fb_ct (ob n m v) n else 0 := by
  by_cases h1 : e = (v + 1) % 3
  · rw [if_pos h1]
    apply Nat.le_antisymm
    · refine ct_inj (fun c => stp n v c) (fun c hc h => ?_) (fun c d hc hd h h2 heq => ?_)
      · obtain ⟨-, a2, a3, a4⟩ := rm_ok hn hp hv he h
        exact ⟨a3, a4⟩
      · obtain ⟨-, a2, a3, a4⟩ := rm_ok hn hp hv he h
        obtain ⟨-, b2, b3, b4⟩ := rm_ok hn hp hv he h2
        rw [← a2, ← b2, heq]
    · refine ct_inj (fun t => sc n v t) (fun t ht h => ?_) (fun t u ht hu h h2 heq => ?_)
      · obtain ⟨b1, b2, b3⟩ := sc_ok n hn v hv t ht
        refine ⟨(cel_ij b1).1, ?_⟩
        unfold dRm dUp
        have : db n m v (sc n v t) ((v + 1) % 3) = true := h
        rw [h1, b1, b3, this, decide_eq_true b2]; rfl
      · rw [← stp_sc n hn v hv t ht, ← stp_sc n hn v hv u hu, heq]
  · rw [if_neg h1]
    exact fb_ct_zero.mpr (fun c hc => by
      cases h9 : dRm n m v e c with
      | false => rfl
      | true => exact absurd (rm_ok hn hp hv he h9).1 h1)
/-- doors of cells up -/
def dU (n : Nat) (m : Nat → Int32) (v N : Nat) : Nat := fb_sm (fun c => if cel n c && decide (c % 2 = 0) then own n m v c 3 else 0) N
def d1 (n : Nat) (m : Nat → Int32) (v N : Nat) : Nat := fb_ct (fun c => cel n c && decide (own n m v c 3 = 1)) N
def d2 (n : Nat) (m : Nat → Int32) (v N : Nat) : Nat := fb_ct (fun c => cel n c && decide (own n m v c 3 = 2)) N
theorem doors_sum (hn : n < 17) (hp : SPR n m) (hv : v < 3) : d1 n m v (2 * n * n) + 2 * d2 n m v (2 * n * n) + fb_ct (ob n m v) n = 2 * dU n m v (2 * n * n) := by
  have hU : ∀ N, dU n m v N = fb_ct (dUp n m v 0) N + fb_ct (dUp n m v 1) N + fb_ct (dUp n m v 2) N := fun N => by
    unfold dU
    rw [← sm_ct, ← sm_ct, ← sm_ct, ← fb_sm_add, ← fb_sm_add]
    refine fb_sm_cong (fun c _ => ?_)
    unfold dUp
    cases (cel n c && decide (c % 2 = 0)) with
    | false => rfl
    | true => simp only [if_true, Bool.true_and, own3]
  have hT : ∀ N, d1 n m v N + 2 * d2 n m v N = (fb_ct (dUp n m v 0) N + fb_ct (dUp n m v 1) N + fb_ct (dUp n m v 2) N) + (fb_ct (dDn n m v 0) N + fb_ct (dDn n m v 1) N + fb_ct (dDn n m v 2) N) := by
    intro N
    unfold d1 d2
    induction N with
    | zero => rfl
    | succ N ih =>
      rw [fb_ct_succ, fb_ct_succ, fb_ct_succ, fb_ct_succ, fb_ct_succ, fb_ct_succ, fb_ct_succ, fb_ct_succ]
      have key : (if (cel n N && decide (own n m v N 3 = 1)) then 1 else 0) + 2 * (if (cel n N && decide (own n m v N 3 = 2)) then 1 else 0) = ((if dUp n m v 0 N then 1 else 0) + (if dUp n m v 1 N then 1 else 0) + (if dUp n m v 2 N then 1 else 0)) + ((if dDn n m v 0 N then 1 else 0) + (if dDn n m v 1 N then 1 else 0) + (if dDn n m v 2 N then 1 else 0)) := by
        unfold dUp dDn
        cases hcl : cel n N with
        | false => rfl
        | true =>
          have h2 := own_le2 hn hp.vl hv hcl
          have h3 := own3 (n := n) (m := m) (v := v) N
          have h4 : N % 2 = 0 ∨ N % 2 = 1 := by omega
          have h5 : (if (true && decide (own n m v N 3 = 1)) then 1 else 0) + 2 * (if (true && decide (own n m v N 3 = 2)) then 1 else 0) = own n m v N 3 := by
            have : own n m v N 3 = 0 ∨ own n m v N 3 = 1 ∨ own n m v N 3 = 2 := by omega
            rcases this with q | q | q <;> rw [q] <;> rfl
          rw [h5, h3]
          rcases h4 with q | q
          · rw [q]; simp
          · rw [q]; simp
      omega
  rw [hT, hU]
  have i0 := up_split (n := n) (m := m) (v := v) 0 (2 * n * n)
  have i1 := up_split (n := n) (m := m) (v := v) 1 (2 * n * n)
  have i2 := up_split (n := n) (m := m) (v := v) 2 (2 * n * n)
  have j0 := dn_in (m := m) hn hv (e := 0) (by decide)
  have j1 := dn_in (m := m) hn hv (e := 1) (by decide)
  have j2 := dn_in (m := m) hn hv (e := 2) (by decide)
  have k0 := rm_ct hn hp hv (e := 0) (by decide)
  have k1 := rm_ct hn hp hv (e := 1) (by decide)
  have k2 := rm_ct hn hp hv (e := 2) (by decide)
  have h3 : v = 0 ∨ v = 1 ∨ v = 2 := by omega
  rcases h3 with rfl | rfl | rfl
  · rw [if_neg (by decide)] at k0 k2
    rw [if_pos (by decide)] at k1
    omega
  · rw [if_neg (by decide)] at k0 k1
    rw [if_pos (by decide)] at k2
    omega
  · rw [if_neg (by decide)] at k1 k2
    rw [if_pos (by decide)] at k0
    omega
theorem doorMany8 (hn : n < 17) (h : R8 n m now) {c : Nat} (hcl : cel n c = true) : fX8_doorMany now (nI c) (nI v) = some (nI (own n m v c 3)) := by
  unfold fX8_doorMany
  refine l_acc0 (F := fX8_doorMany_b5 now) (fun rc i => rc (nI c) (nI v) (nI (own n m v c i)) (nI i)) 3 (by decide) _ (fun rc i hi => ?_) (fun rc => rfl)
  show fX8_doorMany_b5 now rc _ _ _ _ = _
  unfold fX8_doorMany_b5 fX8_doorMany_b28
  rw [if_neg (show ¬ (3 : Int32) ≤ nI i from nI_ge hi (by decide)), door8 hn h v hcl hi]
  simp only [obs, ifb, nI_1]
  have : own n m v c (i + 1) = own n m v c i + (if db n m v c i then 1 else 0) := fb_ct_succ _ _
  rw [this]
  cases db n m v c i with
  | false => rw [if_neg (by decide), Int32.add_zero]; rfl
  | true => rw [if_pos rfl]; rfl
theorem dU_le (hn : n < 17) (hl : VL n m) (hv : v < 3) : ∀ N, dU n m v N ≤ 2 * N := by
  intro N
  induction N with
  | zero => exact Nat.le_refl _
  | succ N ih =>
    unfold dU at ih ⊢
    rw [fb_sm_succ]
    have : (if cel n N && decide (N % 2 = 0) then own n m v N 3 else 0) ≤ 2 := by
      cases hcl : cel n N with
      | false => simp
      | true =>
        have := own_le2 hn hl hv hcl
        split <;> omega
    omega
theorem own_s (c i : Nat) : own n m v c (i + 1) = own n m v c i + (if db n m v c i then 1 else 0) := fb_ct_succ _ _
theorem m_doors (hn : n < 17) (h : R8 n m now) (hp : SPR n m) (hr : RW l f k g) (b8 t8 : Int32) (oc od : Nat → Int32) (x : Int32) :
    ∃ r l' f' b8' k' t8' oc' od' g', fX7_doors (nI n) m l f x = some (r, l', f') ∧ fX8_doors now b8 k t8 oc od g x = some (r, b8', k', t8', oc', od', g') ∧ RW l' f' k' g' := by
  have h512 := nbs_le n hn
  unfold fX7_doors fX8_doors
  rcases good_cases x with ⟨v, hv, rfl, e1, -, e2⟩ | ⟨e1, -, e2⟩
  rotate_left
  · rw [e1, e2, obs, obs, if_pos rfl, if_pos rfl]
    exact ⟨_, _, _, _, _, _, _, _, _, rfl, rfl, hr⟩
  rw [e1, e2, obs, obs, if_neg (by decide), if_neg (by decide), layOuter8 hn h hv]
  simp only [bd3, obs]
  generalize gth (fun t => nI (sc n v t)) (ob n m v) oc n = oc'
  generalize gth (fun _ => nI ((v + 1) % 3)) (ob n m v) od n = od'
  have e7 : lfix (fX7_doors_b28 (nI n) m) (fun _ _ _ _ _ _ _ => none) FU l f (nI v) 0 0 0 0 = some (nI (dU n m v (2 * n * n)), nI 2, vp_updL (vp_updL f 0 (nI (d1 n m v (2 * n * n))).toInt64) 1 (nI (d2 n m v (2 * n * n))).toInt64) := by
    refine l_acc0 (F := fX7_doors_b28 (nI n) m) (fun rc i => rc l f (nI v) (nI (dU n m v i)) (nI (d1 n m v i)) (nI (d2 n m v i)) (nI i)) (2 * n * n) (by omega) _ (fun rc i hi => ?_) (fun rc => ?_)
    · show fX7_doors_b28 (nI n) m rc _ _ _ _ _ _ _ = _
      unfold fX7_doors_b28
      rw [nbs7 n hn, obs, if_neg (nI_ge hi (by omega)), isc7 n hn i hi, obs, ifb]
      cases hcl : cel n i with
      | false =>
        rw [if_neg (by decide), obs, nI_1]
        have q1 : dU n m v (i + 1) = dU n m v i := by unfold dU; rw [fb_sm_succ, hcl]; rfl
        have q2 : d1 n m v (i + 1) = d1 n m v i := by unfold d1; rw [fb_ct_succ, hcl]; rfl
        have q3 : d2 n m v (i + 1) = d2 n m v i := by unfold d2; rw [fb_ct_succ, hcl]; rfl
        rw [q1, q2, q3]
      | true =>
        rw [if_pos rfl]
        have q1 : dU n m v (i + 1) = dU n m v i + (if i % 2 = 0 then own n m v i 3 else 0) := by unfold dU; rw [fb_sm_succ, hcl]; simp
        have q2 : d1 n m v (i + 1) = d1 n m v i + (if own n m v i 3 = 1 then 1 else 0) := by unfold d1; rw [fb_ct_succ, hcl]; simp
        have q3 : d2 n m v (i + 1) = d2 n m v i + (if own n m v i 3 = 2 then 1 else 0) := by unfold d2; rw [fb_ct_succ, hcl]; simp
        have ho := own_le2 hn hp.vl hv hcl
        have key := l_acc0 (F := fX7_doors_b55 (nI n) m rc) (z := fun _ _ _ _ _ _ _ _ _ => none) (fun r e => r l f (nI v) (nI (dU n m v i + if i % 2 = 0 then own n m v i e else 0)) (nI (d1 n m v i)) (nI (d2 n m v i)) (nI i) (nI (own n m v i e)) (nI e)) 3 (by decide) (rc l f (nI v) (nI (dU n m v (i + 1))) (nI (d1 n m v (i + 1))) (nI (d2 n m v (i + 1))) (nI (i + 1))) (fun r e he => ?_) (fun r => ?_)
        · rw [show (dU n m v i + if i % 2 = 0 then own n m v i 0 else 0) = dU n m v i by rw [show own n m v i 0 = 0 from rfl]; split <;> rfl] at key
          exact key
        · show fX7_doors_b55 (nI n) m rc r _ _ _ _ _ _ _ _ _ = _
          unfold fX7_doors_b55 fX7_doors_b93
          rw [if_neg (show ¬ (3 : Int32) ≤ nI e from nI_ge he (by decide)), door7 hn v hcl he, obs, ifb, own_s, and1 i (by omega)]
          simp only [obs, nI_1]
          cases db n m v i e with
          | false => rw [if_neg (by decide)]; rfl
          | true =>
            rw [if_pos rfl]
            by_cases h2 : i % 2 = 0
            · rw [h2, if_pos (show nI 0 = (0 : Int32) from rfl)]; simp only [if_true, Nat.add_assoc]
            · rw [show i % 2 = 1 by omega, if_neg (show ¬ nI 1 = (0 : Int32) by decide), Int32.add_zero]; rfl
        · show fX7_doors_b55 (nI n) m rc r _ _ _ _ _ _ _ _ _ = _
          unfold fX7_doors_b55 fX7_doors_b114 fX7_doors_b130
          rw [if_pos (show (3 : Int32) ≤ nI 3 by decide), q1, q2, q3]
          simp only [obs, nI_1]
          have : own n m v i 3 = 0 ∨ own n m v i 3 = 1 ∨ own n m v i 3 = 2 := by omega
          rcases this with q | q | q <;> rw [q]
          · rw [if_neg (by decide), if_neg (by decide), Int32.add_zero, Int32.add_zero]; rfl
          · rw [if_pos (by decide), if_neg (by decide), Int32.add_zero]; rfl
          · rw [if_neg (by decide), if_pos (by decide), Int32.add_zero]; rfl
    · show fX7_doors_b28 (nI n) m rc _ _ _ _ _ _ _ = _
      unfold fX7_doors_b28
      rw [nbs7 n hn, obs, if_pos (nI_le (Nat.le_refl _) (by omega)), tell7_2]
      simp only [bd2, obs]
  have hsum := doors_sum hn hp hv
  have hU := dU_le hn hp.vl hv (2 * n * n)
  have e8 : lfix (fX8_doors_b26 now) (fun _ _ _ _ _ _ _ _ _ _ => none) FU (nI (fb_ct (ob n m v) n)) k 0 oc' od' g (nI v) 0 0 0 = some (nI (dU n m v (2 * n * n)), nI (fb_ct (ob n m v) n), nI 2, 0, oc', od', vp_updL (vp_updL g 0 (nI (d1 n m v (2 * n * n))).toInt64) 1 (nI (d2 n m v (2 * n * n))).toInt64) := by
    refine l_acc0 (F := fX8_doors_b26 now) (fun rc i => rc (nI (fb_ct (ob n m v) n)) k 0 oc' od' g (nI v) (nI (d1 n m v i)) (nI (d2 n m v i)) (nI i)) (2 * n * n) (by omega) _ (fun rc i hi => ?_) (fun rc => ?_)
    · show fX8_doors_b26 now rc _ _ _ _ _ _ _ _ _ _ = _
      unfold fX8_doors_b26 fX8_doors_b55 fX8_doors_b69 fX8_doors_b83
      rw [nbs8 hn h.1, obs, if_neg (nI_ge hi (by omega)), isc8 hn h.1 hi, obs, ifb]
      simp only [obs, nI_1]
      cases hcl : cel n i with
      | false =>
        have q2 : d1 n m v (i + 1) = d1 n m v i := by unfold d1; rw [fb_ct_succ, hcl]; rfl
        have q3 : d2 n m v (i + 1) = d2 n m v i := by unfold d2; rw [fb_ct_succ, hcl]; rfl
        rw [if_neg (by decide), if_neg (by decide), if_neg (by decide), q2, q3, Int32.add_zero, Int32.add_zero]
      | true =>
        have q2 : d1 n m v (i + 1) = d1 n m v i + (if own n m v i 3 = 1 then 1 else 0) := by unfold d1; rw [fb_ct_succ, hcl]; simp
        have q3 : d2 n m v (i + 1) = d2 n m v i + (if own n m v i 3 = 2 then 1 else 0) := by unfold d2; rw [fb_ct_succ, hcl]; simp
        have ho := own_le2 hn hp.vl hv hcl
        rw [if_pos rfl, doorMany8 hn h hcl, obs, q2, q3]
        have : own n m v i 3 = 0 ∨ own n m v i 3 = 1 ∨ own n m v i 3 = 2 := by omega
        rcases this with q | q | q <;> rw [q]
        · rw [if_neg (by decide), if_neg (by decide), Int32.add_zero, Int32.add_zero]; rfl
        · rw [if_pos (by decide), if_neg (by decide), Int32.add_zero]; rfl
        · rw [if_neg (by decide), if_pos (by decide), Int32.add_zero]; rfl
    · show fX8_doors_b26 now rc _ _ _ _ _ _ _ _ _ _ = _
      unfold fX8_doors_b26
      have hq : (nI (d1 n m v (2 * n * n)) + 2 * nI (d2 n m v (2 * n * n)) + nI (fb_ct (ob n m v) n)) / 2 = nI (dU n m v (2 * n * n)) := by
        rw [show (2 : Int32) = nI 2 from rfl, pk_mul, nI_add, nI_add, hsum, pk_div (by omega) (by decide) (by decide), Nat.mul_div_cancel_left _ (by decide)]
      rw [nbs8 hn h.1, obs, if_pos (nI_le (Nat.le_refl _) (by omega)), tell8_0, hq]
      simp only [bd2, obs, tell8 (q := 1) (by decide)]
  rw [e7, e8]
  exact ⟨_, _, _, _, _, _, _, _, _, rfl, rfl, RW.t2 f g _ _⟩
end DRC
