/-! Ways through doors. -/
section WAY
/-- Sperner's condition: each point's label is a good that has a price there -/
def SPR (n : Nat) (m : Nat → Int32) : Prop := ∀ p, p < pts n → ∃ g, g < 3 ∧ m p = nI g ∧ 0 < prc n (iP n p) (jP n p) g
theorem SPR.vl {n : Nat} {m : Nat → Int32} (h : SPR n m) : VL n m := fun p hp => by
  obtain ⟨g, hg, e, -⟩ := h p hp
  have : g = 0 ∨ g = 1 ∨ g = 2 := by omega
  rw [e]
  rcases this with rfl | rfl | rfl
  · exact Or.inl rfl
  · exact Or.inr (Or.inl rfl)
  · exact Or.inr (Or.inr rfl)
def nd (n : Nat) (m : Nat → Int32) (v c e : Nat) : Option Nat := fs (fun k => !decide (k = e) && db n m v c k) 3
def wst (n : Nat) (m : Nat → Int32) (v : Nat) (s : Nat × Nat) : Option (Nat × Nat) :=
  match nd n m v s.1 s.2 with
  | none => none
  | some e => match bey n s.1 e with
    | none => none
    | some c => some (c, e)
def wk (n : Nat) (m : Nat → Int32) (v : Nat) (s : Nat × Nat) : Nat → Option (Nat × Nat)
  | 0 => some s
  | i + 1 => match wk n m v s i with
    | none => none
    | some t => wst n m v t
def stp (n v c : Nat) : Nat := if v = 1 then c / 2 / n else c / 2 % n
set_option maxRecDepth 100000 in
theorem bey_okB : ∀ n, n < 17 → ∀ c, c < 2 * n * n → cel n c = true → ∀ e, e < 3 → (match bey n c e with | none => true | some c' => cel n c' && decide (bey n c' e = some c) && decide (¬ c' % 2 = c % 2) && decide (co n c' ((e + 1) % 3) = co n c ((e + 2) % 3)) && decide (co n c' ((e + 2) % 3) = co n c ((e + 1) % 3))) = true := by decide +kernel
set_option maxRecDepth 100000 in
theorem rim_okB : ∀ n, n < 17 → ∀ c, c < 2 * n * n → cel n c = true → ∀ e, e < 3 → (match bey n c e with | some _ => true | none => decide (prc n (iP n (co n c ((e + 1) % 3))) (jP n (co n c ((e + 1) % 3))) ((e + 2) % 3) = 0) && decide (prc n (iP n (co n c ((e + 2) % 3))) (jP n (co n c ((e + 2) % 3))) ((e + 2) % 3) = 0) && decide (sc n ((e + 2) % 3) (stp n ((e + 2) % 3) c) = c) && decide (stp n ((e + 2) % 3) c < n)) = true := by decide +kernel
set_option maxRecDepth 100000 in
theorem stp_sc : ∀ n, n < 17 → ∀ v, v < 3 → ∀ t, t < n → stp n v (sc n v t) = t := by decide +kernel
theorem bey_ok {n c e c' : Nat} (hn : n < 17) (hcl : cel n c = true) (he : e < 3) (hb : bey n c e = some c') : cel n c' = true ∧ bey n c' e = some c ∧ ¬ c' % 2 = c % 2 ∧ co n c' ((e + 1) % 3) = co n c ((e + 2) % 3) ∧ co n c' ((e + 2) % 3) = co n c ((e + 1) % 3) := by
  have h := bey_okB n hn c (cel_ij hcl).1 hcl e he
  rw [hb] at h
  simp only [Bool.and_eq_true, decide_eq_true_eq] at h
  exact ⟨h.1.1.1.1, h.1.1.1.2, h.1.1.2, h.1.2, h.2⟩
variable {n : Nat} {m : Nat → Int32} {v : Nat}
theorem db_bey {c e c' : Nat} (hn : n < 17) (hcl : cel n c = true) (he : e < 3) (hb : bey n c e = some c') : db n m v c' e = db n m v c e := by
  obtain ⟨-, -, -, h1, h2⟩ := bey_ok hn hcl he hb
  unfold db
  rw [h1, h2, Bool.and_assoc, Bool.and_assoc]
  congr 1
  · exact decide_eq_decide.mpr ⟨fun h e => h e.symm, fun h e => h e.symm⟩
  · rw [Bool.and_comm]
/-- never three doors -/
theorem db3 (hn : n < 17) (hl : VL n m) (hv : v < 3) {c : Nat} (hcl : cel n c = true) : ¬ (db n m v c 0 = true ∧ db n m v c 1 = true ∧ db n m v c 2 = true) := by
  have h0 := vl_co hn hl hcl (k := 0) (by decide)
  have h1 := vl_co hn hl hcl (k := 1) (by decide)
  have h2 := vl_co hn hl hcl (k := 2) (by decide)
  have h3 : v = 0 ∨ v = 1 ∨ v = 2 := by omega
  unfold db
  show ¬ ((decide (¬ m (co n c 1) = m (co n c 2)) && decide (¬ m (co n c 1) = nI v) && decide (¬ m (co n c 2) = nI v)) = true ∧ (decide (¬ m (co n c 2) = m (co n c 0)) && decide (¬ m (co n c 2) = nI v) && decide (¬ m (co n c 0) = nI v)) = true ∧ (decide (¬ m (co n c 0) = m (co n c 1)) && decide (¬ m (co n c 0) = nI v) && decide (¬ m (co n c 1) = nI v)) = true)
  generalize m (co n c 0) = a at *
  generalize m (co n c 1) = b at *
  generalize m (co n c 2) = d at *
  rcases h0 with rfl | rfl | rfl <;> rcases h1 with rfl | rfl | rfl <;> rcases h2 with rfl | rfl | rfl <;> rcases h3 with rfl | rfl | rfl <;> decide
theorem nd_some {c e e' : Nat} (h : nd n m v c e = some e') : e' < 3 ∧ ¬ e' = e ∧ db n m v c e' = true := by
  obtain ⟨h1, h2, -⟩ := fs_lt h
  have h3 : ¬ e' = e ∧ db n m v c e' = true := by simpa using h2
  exact ⟨h1, h3.1, h3.2⟩
/-- of two doors each is the other's other one -/
theorem nd_two (hn : n < 17) (hl : VL n m) (hv : v < 3) {c e e' : Nat} (hcl : cel n c = true) (h1 : e < 3) (h2 : e' < 3) (hne : ¬ e' = e) (d1 : db n m v c e = true) (d2 : db n m v c e' = true) : nd n m v c e = some e' := by
  have h3 := db3 hn hl hv hcl
  refine fs_some (by simp [hne, d2]) (fun q hq => ?_) h2
  by_cases hqe : q = e
  · simp [hqe]
  · have : db n m v c q = false := by
      cases h9 : db n m v c q with
      | false => rfl
      | true =>
        exfalso
        apply h3
        have hall : ∀ k, k < 3 → db n m v c k = true := fun k hk => by
          have : k = q ∨ k = e ∨ k = e' := by omega
          rcases this with rfl | rfl | rfl
          · exact h9
          · exact d1
          · exact d2
        exact ⟨hall 0 (by decide), hall 1 (by decide), hall 2 (by decide)⟩
    simp [this]
/-- a state of a way: a cell, and one of its doors -/
def SV (n : Nat) (m : Nat → Int32) (v : Nat) (s : Nat × Nat) : Prop := cel n s.1 = true ∧ s.2 < 3 ∧ db n m v s.1 s.2 = true
theorem wst_some (hn : n < 17) {s t : Nat × Nat} (hs : SV n m v s) (h : wst n m v s = some t) : SV n m v t ∧ nd n m v s.1 s.2 = some t.2 ∧ bey n s.1 t.2 = some t.1 ∧ bey n t.1 t.2 = some s.1 ∧ ¬ t.2 = s.2 ∧ db n m v s.1 t.2 = true ∧ ¬ t.1 = s.1 := by
  unfold wst at h
  cases h1 : nd n m v s.1 s.2 with
  | none => rw [h1] at h; cases h
  | some e =>
    rw [h1] at h
    obtain ⟨a1, a2, a3⟩ := nd_some h1
    cases h2 : bey n s.1 e with
    | none => simp only [h2] at h; cases h
    | some c =>
      simp only [h2] at h
      cases h
      obtain ⟨b1, b2, b3, -⟩ := bey_ok hn hs.1 a1 h2
      exact ⟨⟨b1, a1, by rw [db_bey hn hs.1 a1 h2]; exact a3⟩, rfl, h2, b2, a2, a3, fun e9 => b3 (by simp only at e9; rw [e9])⟩
theorem wst_inj (hn : n < 17) (hl : VL n m) (hv : v < 3) {s t u : Nat × Nat} (hs : SV n m v s) (ht : SV n m v t) (h1 : wst n m v s = some u) (h2 : wst n m v t = some u) : s = t := by
  obtain ⟨a0, a1, -, a2, a3, a4, -⟩ := wst_some hn hs h1
  obtain ⟨-, b1, -, b2, b3, b4, -⟩ := wst_some hn ht h2
  have e1 : s.1 = t.1 := by rw [a2] at b2; exact Option.some.inj b2
  have e2 : s.2 = t.2 := by
    apply Classical.byContradiction
    intro hne
    have d1 := hs.2.2
    have d2 := ht.2.2
    rw [← e1] at d2
    have h3 := db3 hn hl hv hs.1
    apply h3
    have hall : ∀ k, k < 3 → db n m v s.1 k = true := fun k hk => by
      have q1 := hs.2.1
      have q2 := ht.2.1
      have q3 := a0.2.1
      have : k = s.2 ∨ k = t.2 ∨ k = u.2 := by omega
      rcases this with rfl | rfl | rfl
      · exact d1
      · exact d2
      · exact a4
    exact ⟨hall 0 (by decide), hall 1 (by decide), hall 2 (by decide)⟩
  exact Prod.ext e1 e2
theorem wk_sv (hn : n < 17) {s : Nat × Nat} (hs : SV n m v s) : ∀ {i : Nat} {t : Nat × Nat}, wk n m v s i = some t → SV n m v t := by
  intro i
  induction i with
  | zero => intro t h; cases h; exact hs
  | succ i ih =>
    intro t h
    rw [wk] at h
    cases h1 : wk n m v s i with
    | none => rw [h1] at h; cases h
    | some u => rw [h1] at h; exact (wst_some hn (ih h1) h).1
theorem wk_pre {s : Nat × Nat} {i : Nat} {t : Nat × Nat} (h : wk n m v s (i + 1) = some t) : ∃ u, wk n m v s i = some u ∧ wst n m v u = some t := by
  rw [wk] at h
  cases h1 : wk n m v s i with
  | none => rw [h1] at h; cases h
  | some u => rw [h1] at h; exact ⟨u, rfl, h⟩
/-- states never come again -/
theorem wk_ne (hn : n < 17) (hl : VL n m) (hv : v < 3) {s : Nat × Nat} (hs : SV n m v s) (hnp : ∀ u, SV n m v u → ¬ wst n m v u = some s) : ∀ (i j : Nat) (a b : Nat × Nat), i < j → wk n m v s i = some a → wk n m v s j = some b → ¬ a = b := by
  intro i
  induction i with
  | zero =>
    intro j a b hij ha hb e
    obtain ⟨j', rfl⟩ : ∃ j', j = j' + 1 := ⟨j - 1, by omega⟩
    obtain ⟨u, h1, h2⟩ := wk_pre hb
    cases ha
    rw [← e] at h2
    exact hnp u (wk_sv hn hs h1) h2
  | succ i ih =>
    intro j a b hij ha hb e
    obtain ⟨j', rfl⟩ : ∃ j', j = j' + 1 := ⟨j - 1, by omega⟩
    obtain ⟨u, h1, h2⟩ := wk_pre hb
    obtain ⟨w, h3, h4⟩ := wk_pre ha
    rw [← e] at h2
    exact ih j' w u (by omega) h3 h1 (wst_inj hn hl hv (wk_sv hn hs h3) (wk_sv hn hs h1) h4 h2)
/-- cells never come again -/
theorem wk_cell (hn : n < 17) (hl : VL n m) (hv : v < 3) {s : Nat × Nat} (hs : SV n m v s) (hnp : ∀ u, SV n m v u → ¬ wst n m v u = some s) : ∀ (d i j : Nat) (a b : Nat × Nat), j = i + d + 1 → wk n m v s i = some a → wk n m v s j = some b → ¬ a.1 = b.1 := by
  intro d
  induction d using Nat.strongRecOn with
  | ind d ih =>
    intro i j a b hj ha hb e
    have hne := wk_ne hn hl hv hs hnp i j a b (by omega) ha hb
    have sa := wk_sv hn hs ha
    have sb := wk_sv hn hs hb
    have e2 : ¬ b.2 = a.2 := fun h => hne (Prod.ext e h.symm)
    have db2 : db n m v a.1 b.2 = true := by rw [e]; exact sb.2.2
    have hnd : nd n m v a.1 a.2 = some b.2 := nd_two hn hl hv sa.1 sa.2.1 sb.2.1 e2 sa.2.2 db2
    obtain ⟨j', rfl⟩ : ∃ j', j = j' + 1 := ⟨j - 1, by omega⟩
    obtain ⟨u, hu, hub⟩ := wk_pre hb
    have su := wk_sv hn hs hu
    obtain ⟨-, b1, b2, b3, b4, b5, b6⟩ := wst_some hn su hub
    -- from a one goes through b.2 to u.1
    have hbey : bey n a.1 b.2 = some u.1 := by rw [e]; exact b3
    have hnext : wk n m v s (i + 1) = some (u.1, b.2) := by
      rw [wk, ha]
      simp only [wst, hnd, hbey]
    by_cases hd : d = 0
    · subst hd
      have : j' = i := by omega
      subst this
      rw [ha] at hu
      cases hu
      exact b6 e.symm
    · by_cases hd1 : d = 1
      · subst hd1
        have : j' = i + 1 := by omega
        subst this
        rw [hnext] at hu
        have hu2 : (u.1, b.2) = u := Option.some.inj hu
        have hu3 : b.2 = u.2 := by
          have := congrArg Prod.snd hu2
          exact this
        exact b4 hu3
      · exact ih (d - 2) (by omega) (i + 1) j' (u.1, b.2) u (by omega) hnext hu rfl
/-- a way that has no cell ahead of it comes to an end -/
theorem wk_end (hn : n < 17) (hl : VL n m) (hv : v < 3) {s : Nat × Nat} (hs : SV n m v s) (hnp : ∀ u, SV n m v u → ¬ wst n m v u = some s) : ∃ L, 1 ≤ L ∧ L ≤ 512 ∧ wk n m v s L = none ∧ ∀ i, i < L → ∃ t, wk n m v s i = some t := by
  have h512 := nbs_le n hn
  have hex : ∃ k, wk n m v s k = none := by
    apply Classical.byContradiction
    intro h
    have hall : ∀ i, ∃ t, wk n m v s i = some t := fun i => by
      cases h1 : wk n m v s i with
      | none => exact absurd ⟨i, h1⟩ h
      | some t => exact ⟨t, rfl⟩
    have hle := fb_holes 512 513 (fun i => ((wk n m v s i).getD (0, 0)).1) (fun i hi => by
      obtain ⟨t, ht⟩ := hall i
      have := (cel_ij (wk_sv hn hs ht).1).1
      simp only [ht, Option.getD_some]; omega) (fun i j hij hj => by
      obtain ⟨t, ht⟩ := hall i
      obtain ⟨u, hu⟩ := hall j
      simp only [ht, hu, Option.getD_some]
      exact wk_cell hn hl hv hs hnp (j - i - 1) i j t u (by omega) ht hu)
    omega
  obtain ⟨L, h1, h2⟩ := pk_least _ hex
  have h3 : ∀ i, i < L → ∃ t, wk n m v s i = some t := fun i hi => by
    cases h4 : wk n m v s i with
    | none => exact absurd h4 (h2 i hi)
    | some t => exact ⟨t, rfl⟩
  refine ⟨L, ?_, ?_, h1, h3⟩
  · cases L with
    | zero => cases h1
    | succ L => omega
  · exact fb_holes 512 L (fun i => ((wk n m v s i).getD (0, 0)).1) (fun i hi => by
      obtain ⟨t, ht⟩ := h3 i hi
      have := (cel_ij (wk_sv hn hs ht).1).1
      simp only [ht, Option.getD_some]; omega) (fun i j hij hj => by
      obtain ⟨t, ht⟩ := h3 i (by omega)
      obtain ⟨u, hu⟩ := h3 j hj
      simp only [ht, hu, Option.getD_some]
      exact wk_cell hn hl hv hs hnp (j - i - 1) i j t u (by omega) ht hu)
/-- a door on the rim is an outer one -/
theorem rim_door (hn : n < 17) (hp : SPR n m) (hv : v < 3) {c e : Nat} (hcl : cel n c = true) (he : e < 3) (hb : bey n c e = none) (hd : db n m v c e = true) : e = (v + 1) % 3 ∧ sc n v (stp n v c) = c ∧ stp n v c < n ∧ ob n m v (stp n v c) = true := by
  have hc := (cel_ij hcl).1
  have h := rim_okB n hn c hc hcl e he
  rw [hb] at h
  simp only [Bool.and_eq_true, decide_eq_true_eq] at h
  obtain ⟨⟨⟨z1, z2⟩, z3⟩, z4⟩ := h
  have k1 := co_lt n hn c hc hcl ((e + 1) % 3) (Nat.mod_lt _ (by decide))
  have k2 := co_lt n hn c hc hcl ((e + 2) % 3) (Nat.mod_lt _ (by decide))
  obtain ⟨g1, hg1, eg1, pg1⟩ := hp _ k1
  obtain ⟨g2, hg2, eg2, pg2⟩ := hp _ k2
  have hd2 : ¬ m (co n c ((e + 1) % 3)) = m (co n c ((e + 2) % 3)) ∧ ¬ m (co n c ((e + 1) % 3)) = nI v ∧ ¬ m (co n c ((e + 2) % 3)) = nI v := by
    have : ((decide (¬ m (co n c ((e + 1) % 3)) = m (co n c ((e + 2) % 3)))) && decide (¬ m (co n c ((e + 1) % 3)) = nI v) && decide (¬ m (co n c ((e + 2) % 3)) = nI v)) = true := hd
    simp only [Bool.and_eq_true, decide_eq_true_eq] at this
    exact ⟨this.1.1, this.1.2, this.2⟩
  have n1 : ¬ g1 = (e + 2) % 3 := fun q => by rw [q] at pg1; omega
  have n2 : ¬ g2 = (e + 2) % 3 := fun q => by rw [q] at pg2; omega
  have n3 : ¬ g1 = g2 := fun q => hd2.1 (by rw [eg1, eg2, q])
  have n4 : ¬ g1 = v := fun q => hd2.2.1 (by rw [eg1, q])
  have n5 : ¬ g2 = v := fun q => hd2.2.2 (by rw [eg2, q])
  have ev : v = (e + 2) % 3 := by omega
  have ee : e = (v + 1) % 3 := by omega
  rw [← ev] at z3 z4
  refine ⟨ee, z3, z4, ?_⟩
  unfold ob
  rw [z3, ← ee]; exact hd
end WAY
