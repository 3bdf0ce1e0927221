/-! leads: class and reference. -/
section LDM
variable {n : Nat} {m now : Nat → Int32} {v : Nat}
/-- the class's search: remaining rounds, cell and door one leaves it by, count -/
def cto (n : Nat) (m : Nat → Int32) (v a o : Nat) : Nat → (Nat × Nat) → Nat → Option Nat
  | 0, _, _ => none
  | k + 1, x, j => match bey n x.1 x.2 with
    | none => none
    | some c => if c = o then some j else if c = a then none else match nd n m v c x.2 with
      | none => none
      | some e => cto n m v a o k (c, e) (j + 1)
theorem cto7 (hn : n < 17) {a o : Nat} (ha : cel n a = true) (ho : cel n o = true) : ∀ (k j : Nat) (x : Nat × Nat) (fuel : Nat), j + k = 513 → cel n x.1 = true → x.2 < 3 → k < fuel → lfix (fX0_cellsTo_b10 (nI n) m) (fun _ _ _ _ _ _ => none) fuel (nI v) (nI a) (nI o) (nI x.1) (nI x.2) (nI j) = some (oI (cto n m v a o k x j)) := by
  have h512 := nbs_le n hn
  have ha2 := (cel_ij ha).1
  have ho2 := (cel_ij ho).1
  intro k
  induction k with
  | zero =>
    intro j x fuel hj hx hx2 hf
    obtain ⟨q, rfl⟩ : ∃ q, fuel = q + 1 := ⟨fuel - 1, by omega⟩
    rw [lfix]
    unfold fX0_cellsTo_b10
    rw [if_pos (show (512 : Int32) < nI j from nI_lt (a := 512) (by omega) (by omega))]
    rfl
  | succ k ih =>
    intro j x fuel hj hx hx2 hf
    obtain ⟨q, rfl⟩ : ∃ q, fuel = q + 1 := ⟨fuel - 1, by omega⟩
    have hxc := (cel_ij hx).1
    rw [lfix]
    generalize hR : lfix (fX0_cellsTo_b10 (nI n) m) (fun _ _ _ _ _ _ => none) q = R
    unfold fX0_cellsTo_b10
    rw [if_neg (show ¬ (512 : Int32) < nI j from nI_nlt (a := 512) (by omega) (by decide)), bey7 n hn _ hxc hx _ hx2, obs, cto]
    cases hb : bey n x.1 x.2 with
    | none =>
      rw [if_neg (show ¬ oI none = nI o from fun e => nI_m1 (show o < 2 ^ 31 by omega) e.symm), if_pos oIn]; rfl
    | some c =>
      obtain ⟨b1, -, -, -, -⟩ := bey_ok hn hx hx2 hb
      have hc := (cel_ij b1).1
      simp only [show oI (some c) = nI c from rfl]
      by_cases h1 : c = o
      · rw [if_pos (by rw [h1])]; simp only [h1, if_true]; rfl
      · rw [if_neg (fun e => h1 ((nI_eq (by omega) (by omega)).mp e)), if_neg (nI_m1 (by omega))]
        by_cases h2 : c = a
        · rw [if_pos (by rw [h2])]; simp only [if_neg h1, h2, if_true]
          rw [if_neg (by rw [← h2]; exact h1)]; rfl
        · rw [if_neg (fun e => h2 ((nI_eq (by omega) (by omega)).mp e)), nextDoor7 hn b1 _ (hx_e hx2), obs]
          simp only [if_neg h1, if_neg h2]
          cases hd : nd n m v c x.2 with
          | none => rw [if_pos oIn]; rfl
          | some e =>
            obtain ⟨q1, -, -⟩ := nd_some hd
            rw [if_neg (oI_e (by omega)), obs, nI_1]
            rw [← hR]
            exact ih (j + 1) (c, e) q (by omega) b1 q1 (by omega)
theorem cto_sound {a o : Nat} : ∀ (k j : Nat) (x : Nat × Nat) (r : Nat), cto n m v a o k x j = some r → ∃ i c u, r = j + i ∧ i < k ∧ bey n x.1 x.2 = some c ∧ wk n m v (c, x.2) i = some u ∧ u.1 = o := by
  intro k
  induction k with
  | zero => intro j x r h; cases h
  | succ k ih =>
    intro j x r h
    rw [cto] at h
    cases hb : bey n x.1 x.2 with
    | none => simp only [hb] at h; cases h
    | some c =>
      simp only [hb] at h
      by_cases h1 : c = o
      · rw [if_pos h1] at h
        exact ⟨0, c, (c, x.2), by have := Option.some.inj h; omega, by omega, rfl, rfl, h1⟩
      · rw [if_neg h1] at h
        by_cases h2 : c = a
        · rw [if_pos h2] at h; cases h
        · rw [if_neg h2] at h
          cases hd : nd n m v c x.2 with
          | none => simp only [hd] at h; cases h
          | some e =>
            simp only [hd] at h
            obtain ⟨i, c', u, h3, h4, h5, h6, h7⟩ := ih (j + 1) (c, e) r h
            refine ⟨i + 1, c, u, by omega, by omega, rfl, ?_, h7⟩
            have hw : wst n m v (c, x.2) = some (c', e) := by simp only [wst, hd, h5]
            exact wk_first hw h6
theorem cto_comp {a o i : Nat} {s : Nat × Nat} (hbef : ∀ b, b < i → ∃ t, wk n m v s b = some t ∧ ¬ t.1 = o ∧ ¬ t.1 = a) {u : Nat × Nat} (hu : wk n m v s i = some u) (huo : u.1 = o) (hi : i + 2 ≤ 512) : ∀ d b, b + d = i → ∀ (t x : Nat × Nat), wk n m v s b = some t → bey n x.1 x.2 = some t.1 → x.2 = t.2 → cto n m v a o (511 - b) x (b + 2) = some (i + 2) := by
  intro d
  induction d with
  | zero =>
    intro b hb t x ht hx hx2
    have : b = i := by omega
    subst this
    rw [hu] at ht
    cases ht
    rw [show 511 - b = (510 - b) + 1 by omega, cto, hx]
    simp only [huo, if_true]
  | succ d ih =>
    intro b hb t x ht hx hx2
    obtain ⟨t', h1, h2, h3⟩ := hbef b (by omega)
    rw [h1] at ht
    cases ht
    rw [show 511 - b = (511 - (b + 1)) + 1 by omega, cto, hx]
    simp only [if_neg h2, if_neg h3]
    have hnx : ∃ w, wk n m v s (b + 1) = some w := by
      by_cases h4 : b + 1 = i
      · rw [h4]; exact ⟨u, hu⟩
      · obtain ⟨w, hw, -⟩ := hbef (b + 1) (by omega)
        exact ⟨w, hw⟩
    obtain ⟨w, hw⟩ := hnx
    have hw2 := hw
    rw [wk, h1] at hw2
    have hw2 : wst n m v t = some w := hw2
    unfold wst at hw2
    cases hd : nd n m v t.1 t.2 with
    | none => simp only [hd] at hw2; cases hw2
    | some e =>
      simp only [hd] at hw2
      cases hb2 : bey n t.1 e with
      | none => simp only [hb2] at hw2; cases hw2
      | some c =>
        simp only [hb2] at hw2
        have hw3 : (c, e) = w := Option.some.inj hw2
        subst hw3
        rw [hx2, hd]
        exact ih (b + 1) (by omega) (c, e) (t.1, e) hw hb2 rfl
/-- the least of what the doors tell -/
def mnO (cur r : Option Nat) : Option Nat := match r with
  | none => cur
  | some x => match cur with
    | none => some x
    | some y => if y ≤ x then some y else some x
def mnE (n : Nat) (m : Nat → Int32) (v a o : Nat) : Nat → Option Nat
  | 0 => none
  | e + 1 => if db n m v a e then mnO (mnE n m v a o e) (cto n m v a o 511 (a, e) 2) else mnE n m v a o e
theorem mnE_ok {a o : Nat} : ∀ i, (mnE n m v a o i = none → ∀ e, e < i → db n m v a e = true → cto n m v a o 511 (a, e) 2 = none) ∧ (∀ y, mnE n m v a o i = some y → (∃ e, e < i ∧ db n m v a e = true ∧ cto n m v a o 511 (a, e) 2 = some y) ∧ ∀ e, e < i → db n m v a e = true → ∀ z, cto n m v a o 511 (a, e) 2 = some z → y ≤ z) := by
  intro i
  induction i with
  | zero => exact ⟨fun _ e he => by omega, fun y h => by cases h⟩
  | succ i ih =>
    rw [mnE]
    cases hd : db n m v a i with
    | false =>
      rw [if_neg (by decide)]
      refine ⟨fun h e he hde => ?_, fun y h => ?_⟩
      · by_cases h1 : e = i
        · subst h1; rw [hd] at hde; cases hde
        · exact ih.1 h e (by omega) hde
      · obtain ⟨⟨e, h1, h2⟩, h3⟩ := ih.2 y h
        refine ⟨⟨e, by omega, h2⟩, fun e he hde => ?_⟩
        by_cases h1 : e = i
        · subst h1; rw [hd] at hde; cases hde
        · exact h3 e (by omega) hde
    | true =>
      rw [if_pos rfl]
      cases hc : cto n m v a o 511 (a, i) 2 with
      | none =>
        refine ⟨fun h e he hde => ?_, fun y h => ?_⟩
        · by_cases h1 : e = i
          · subst h1; exact hc
          · exact ih.1 h e (by omega) hde
        · obtain ⟨⟨e, h1, h2⟩, h3⟩ := ih.2 y h
          refine ⟨⟨e, by omega, h2⟩, fun e he hde z hz => ?_⟩
          by_cases h1 : e = i
          · subst h1; rw [hc] at hz; cases hz
          · exact h3 e (by omega) hde z hz
      | some x =>
        cases hm : mnE n m v a o i with
        | none =>
          refine ⟨fun h => (by cases h), fun y h => ?_⟩
          have hy : x = y := Option.some.inj h
          subst hy
          refine ⟨⟨i, by omega, hd, hc⟩, fun e he hde z hz => ?_⟩
          by_cases h1 : e = i
          · subst h1; rw [hc] at hz; cases hz; exact Nat.le_refl _
          · rw [ih.1 hm e (by omega) hde] at hz; cases hz
        | some w =>
          obtain ⟨⟨e0, a1, a2, a3⟩, a4⟩ := ih.2 w hm
          by_cases hwx : w ≤ x
          · have e9 : mnO (some w) (some x) = some w := by simp only [mnO, if_pos hwx]
            rw [e9]
            refine ⟨fun h => (by cases h), fun y h => ?_⟩
            have hy : w = y := Option.some.inj h
            subst hy
            refine ⟨⟨e0, by omega, a2, a3⟩, fun e he hde z hz => ?_⟩
            by_cases h1 : e = i
            · subst h1; rw [hc] at hz; cases hz; exact hwx
            · exact a4 e (by omega) hde z hz
          · have e9 : mnO (some w) (some x) = some x := by simp only [mnO, if_neg hwx]
            rw [e9]
            refine ⟨fun h => (by cases h), fun y h => ?_⟩
            have hy : x = y := Option.some.inj h
            subst hy
            refine ⟨⟨i, by omega, hd, hc⟩, fun e he hde z hz => ?_⟩
            by_cases h1 : e = i
            · subst h1; rw [hc] at hz; cases hz; exact Nat.le_refl _
            · have := a4 e (by omega) hde z hz; omega
def o2 (o : Option Nat) : Int32 := match o with | none => -2 | some x => nI x
theorem mnE_le {a o i y : Nat} (h : mnE n m v a o i = some y) : y ≤ 513 := by
  obtain ⟨⟨e, -, -, h3⟩, -⟩ := (mnE_ok i).2 y h
  obtain ⟨j, c, u, h4, h5, -⟩ := cto_sound _ _ _ _ h3
  omega
theorem nI_m2 {q : Nat} (h : q < 2 ^ 31) : ¬ nI q = -2 := fun e => by
  have h4 := nI_pos h
  rw [e] at h4
  exact absurd (by decide) h4
theorem lead7 (hn : n < 17) {a o : Nat} (ha : cel n a = true) (ho : cel n o = true) : lfix (fX7_leads_b50 (nI n) m) (fun _ _ _ _ _ => none) FU (nI a) (nI o) (nI v) (-2) 0 = some (o2 (mnE n m v a o 3)) := by
  refine l_acc0 (F := fX7_leads_b50 (nI n) m) (fun rc i => rc (nI a) (nI o) (nI v) (o2 (mnE n m v a o i)) (nI i)) 3 (by decide) _ (fun rc i hi => ?_) (fun rc => ?_)
  · show fX7_leads_b50 (nI n) m rc _ _ _ _ _ = _
    unfold fX7_leads_b50 fX7_leads_b108 fX0_cellsTo
    rw [if_neg (show ¬ (3 : Int32) ≤ nI i from nI_ge hi (by decide)), door7 hn v ha hi, obs, ifb, mnE]
    have e1 := cto7 (m := m) (v := v) hn ha ho 511 2 (a, i) FU (by decide) ha hi (fu_lt (by decide))
    have e1 : lfix (fX0_cellsTo_b10 (nI n) m) (fun _ _ _ _ _ _ => none) FU (nI v) (nI a) (nI o) (nI a) (nI i) 2 = _ := e1
    rw [e1, obs, obs, nI_1]
    cases hd : db n m v a i with
    | false => rw [if_neg (by decide)]; rfl
    | true =>
      rw [if_pos rfl, if_pos rfl]
      cases hc : cto n m v a o 511 (a, i) 2 with
      | none => rw [if_pos oIn]; rfl
      | some x =>
        obtain ⟨j, -, -, h4, h5, -⟩ := cto_sound _ _ _ _ hc
        rw [if_neg (oI_e (by omega))]
        cases hm : mnE n m v a o i with
        | none => rw [if_pos (show o2 none = -2 from rfl)]; rfl
        | some y =>
          have hy := mnE_le hm
          rw [if_neg (show ¬ o2 (some y) = -2 from nI_m2 (by omega))]
          show (if nI y ≤ nI x then _ else _) = _
          by_cases h9 : y ≤ x
          · rw [if_pos (nI_le h9 (by omega))]
            simp only [mnO, if_pos h9]
          · rw [if_neg (nI_ge (show x < y by omega) (by omega))]
            simp only [mnO, if_neg h9]; rfl
  · rfl
/-- the reference's marks: one door, one cell, one step -/
def ste (n : Nat) (m : Nat → Int32) (v s c e : Nat) (G : Nat → Int32) : Nat → Int32 := fun x => if G x = 0 ∧ db n m v c e = true ∧ bey n c e = some x then nI (s + 1) else G x
def stc (n : Nat) (m : Nat → Int32) (v s c : Nat) (G : Nat → Int32) : Nat → Int32 := fun x => if G x = 0 ∧ G c = nI s ∧ nbB n m v c x = true then nI (s + 1) else G x
def sts (n : Nat) (m : Nat → Int32) (v s : Nat) (G : Nat → Int32) : Nat → Int32 := itk (fun c => stc n m v s c) G (2 * n * n)
theorem nI_n0 {q : Nat} (h : q < 2 ^ 31) (h2 : 1 ≤ q) : ¬ nI q = 0 := fun e => by
  have := (nI_eq (a := q) (b := 0) h (by decide)).mp e
  omega
theorem ste3 {s c : Nat} (hs : s < 1000) {G : Nat → Int32} (hG : G c = nI s) : itk (fun e => ste n m v s c e) G 3 = stc n m v s c G := by
  funext x
  have h1 : ¬ nI (s + 1) = 0 := nI_n0 (by omega) (by omega)
  show ste n m v s c 2 (ste n m v s c 1 (ste n m v s c 0 G)) x = _
  unfold stc
  rw [hG]
  by_cases h0 : G x = 0
  · have hb := nbB_iff (n := n) (m := m) (v := v) (c := c) (x := x)
    by_cases d0 : db n m v c 0 = true ∧ bey n c 0 = some x
    · have : nbB n m v c x = true := hb.mpr ⟨0, by decide, d0⟩
      simp [ste, h0, d0, h1, this]
    · by_cases d1 : db n m v c 1 = true ∧ bey n c 1 = some x
      · have : nbB n m v c x = true := hb.mpr ⟨1, by decide, d1⟩
        simp [ste, h0, d0, d1, h1, this]
      · by_cases d2 : db n m v c 2 = true ∧ bey n c 2 = some x
        · have : nbB n m v c x = true := hb.mpr ⟨2, by decide, d2⟩
          simp [ste, h0, d0, d1, d2, h1, this]
        · have : ¬ nbB n m v c x = true := fun h9 => by
            obtain ⟨e, q1, q2⟩ := hb.mp h9
            have h4 : e = 0 ∨ e = 1 ∨ e = 2 := by omega
            rcases h4 with rfl | rfl | rfl
            · exact d0 q2
            · exact d1 q2
            · exact d2 q2
          simp [ste, h0, d0, d1, d2, this]
  · simp [ste, h0]
/-- marked ones are cells -/
def CZ (n : Nat) (G : Nat → Int32) : Prop := ∀ x, x < 512 → ¬ G x = 0 → cel n x = true
theorem CZ_stc (hn : n < 17) {s c : Nat} (hs : s < 1000) (hs1 : 1 ≤ s) (hc : c < 512) {G : Nat → Int32} (h : CZ n G) : CZ n (stc n m v s c G) := fun x hx hne => by
  unfold stc at hne
  by_cases h1 : G x = 0 ∧ G c = nI s ∧ nbB n m v c x = true
  · have hcc : cel n c = true := h c hc (by rw [h1.2.1]; exact nI_n0 (by omega) hs1)
    obtain ⟨e, q1, q2, q3⟩ := nbB_iff.mp h1.2.2
    exact (bey_ok hn hcc q1 q3).1
  · rw [if_neg h1] at hne
    exact h x hx hne
theorem CZ_stcs (hn : n < 17) {s : Nat} (hs : s < 1000) (hs1 : 1 ≤ s) {G : Nat → Int32} (h : CZ n G) : ∀ C, C ≤ 512 → CZ n (itk (fun c => stc n m v s c) G C) := by
  intro C
  induction C with
  | zero => intro _; exact h
  | succ C ih => intro hC; exact CZ_stc hn hs hs1 (by omega) (ih (by omega))
theorem CZ_sts (hn : n < 17) {s : Nat} (hs : s < 1000) (hs1 : 1 ≤ s) {G : Nat → Int32} (h : CZ n G) : CZ n (sts n m v s G) := CZ_stcs hn hs hs1 h _ (nbs_le n hn)
theorem stc_all {s : Nat} (hs : s < 1000) (hs1 : 1 ≤ s) (G : Nat → Int32) : ∀ C x, itk (fun c => stc n m v s c) G C x = if G x = 0 ∧ ¬ fb_ct (fun c => decide (G c = nI s) && nbB n m v c x) C = 0 then nI (s + 1) else G x := by
  have n1 : ¬ nI (s + 1) = 0 := nI_n0 (by omega) (by omega)
  have n2 : ¬ (0 : Int32) = nI s := fun e => nI_n0 (show s < 2 ^ 31 by omega) hs1 e.symm
  have n3 : ¬ nI (s + 1) = nI s := fun e => by
    have := (nI_eq (a := s + 1) (b := s) (by omega) (by omega)).mp e
    omega
  intro C
  induction C with
  | zero => intro x; rw [if_neg (by simp [fb_ct])]; rfl
  | succ C ih =>
    intro x
    rw [itk]
    have hC : itk (fun c => stc n m v s c) G C C = nI s ↔ G C = nI s := by
      rw [ih C]
      split
      · next h => rw [h.1]; exact ⟨fun e => absurd e n3, fun e => absurd e n2⟩
      · exact Iff.rfl
    unfold stc
    rw [fb_ct_succ]
    have e : itk (fun c => stc n m v s c) G C x = if G x = 0 ∧ ¬ fb_ct (fun c => decide (G c = nI s) && nbB n m v c x) C = 0 then nI (s + 1) else G x := ih x
    have hC : itk (fun c => stc n m v s c) G C C = nI s ↔ G C = nI s := hC
    show (if itk (fun c => stc n m v s c) G C x = 0 ∧ itk (fun c => stc n m v s c) G C C = nI s ∧ nbB n m v C x = true then nI (s + 1) else itk (fun c => stc n m v s c) G C x) = _
    generalize itk (fun c => stc n m v s c) G C C = q at *
    generalize itk (fun c => stc n m v s c) G C x = w at *
    generalize fb_ct (fun c => decide (G c = nI s) && nbB n m v c x) C = y at *
    subst e
    by_cases h0 : G x = 0
    · by_cases hy : y = 0
      · by_cases h1 : G C = nI s
        · by_cases h2 : nbB n m v C x = true
          · simp [h0, hy, h1, h2, hC.mpr h1]
          · simp [h0, hy, h1, h2]
        · have : ¬ q = nI s := fun e => h1 (hC.mp e)
          simp [h0, hy, h1, this]
      · simp [h0, hy, n1]
    · simp [h0]
/-- the marks told by levels -/
def fv (n : Nat) (m : Nat → Int32) (v a s x : Nat) : Int32 := match lv n m v a x s with | none => 0 | some j => nI (j + 1)
theorem fv_step (hn : n < 17) (hl : VL n m) (hv : v < 3) {a s : Nat} (ha : cel n a = true) (hs : s < 512) {G : Nat → Int32} (hG : ∀ x, x < 512 → G x = fv n m v a (s + 1) x) : ∀ x, x < 512 → sts n m v (s + 1) G x = fv n m v a (s + 1 + 1) x := by
  have h512 := nbs_le n hn
  intro x hx
  have hlv : ∀ c, lv n m v a c (s + 1) = some s ↔ fv n m v a (s + 1) c = nI (s + 1) := fun c => by
    unfold fv
    cases h : lv n m v a c (s + 1) with
    | none => exact ⟨fun e => (by cases e), fun e => absurd e.symm (nI_n0 (show s + 1 < 2 ^ 31 by omega) (by omega))⟩
    | some j =>
      have hj := (fs_lt h).1
      refine ⟨fun e => by rw [Option.some.inj e], fun e => ?_⟩
      have := (nI_eq (a := j + 1) (b := s + 1) (by omega) (by omega)).mp e
      rw [show j = s by omega]
  unfold sts
  rw [stc_all (by omega) (by omega), hG x hx]
  unfold fv
  cases h : lv n m v a x (s + 1) with
  | some j =>
    have h2 : lv n m v a x (s + 1 + 1) = some j := by
      unfold lv at h ⊢
      rw [fs, h]
    simp only [h2]
    have hj := (fs_lt h).1
    rw [if_neg (fun e => nI_n0 (show j + 1 < 2 ^ 31 by omega) (by omega) e.1)]
  | none =>
    have hiff := lv_next hn hl hv ha h
    have h2 : lv n m v a x (s + 1 + 1) = if alB n m v a (s + 1) x then some (s + 1) else none := by
      unfold lv at h ⊢
      rw [fs, h]
    rw [h2]
    cases hb : alB n m v a (s + 1) x with
    | true =>
      obtain ⟨c, q1, q2, q3⟩ := hiff.mpr hb
      have : ¬ fb_ct (fun c => decide (G c = nI (s + 1)) && nbB n m v c x) (2 * n * n) = 0 := fun e => by
        have := fb_ct_zero.mp e c q1
        rw [hG c (by omega), (hlv c).mp q2, q3] at this
        simp at this
      rw [if_pos ⟨rfl, this⟩]; rfl
    | false =>
      have : fb_ct (fun c => decide (G c = nI (s + 1)) && nbB n m v c x) (2 * n * n) = 0 := fb_ct_zero.mpr (fun c hc => by
        cases h9 : (decide (G c = nI (s + 1)) && nbB n m v c x) with
        | false => rfl
        | true =>
          have h8 : G c = nI (s + 1) ∧ nbB n m v c x = true := by simpa using h9
          have := hiff.mp ⟨c, hc, (hlv c).mpr (by rw [← hG c (by omega)]; exact h8.1), h8.2⟩
          rw [hb] at this; cases this)
      rw [if_neg (fun e => e.2 this)]; rfl
end LDM
