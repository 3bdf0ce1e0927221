/-! Walks. -/
section WKS
/-- a loop that ends within two rounds behind its last count -/
theorem l_accT {τ ρ : Type} {F : τ → τ} {z : τ} (ap : τ → Nat → ρ) (N : Nat) (fin : ρ) (hs : ∀ rc i, i < N → ap (F rc) i = ap rc (i + 1)) (he : ∀ rc, ap (F (F rc)) N = fin) :
    ∀ (k i fuel : Nat), i + k = N → k + 1 < fuel → ap (lfix F z fuel) i = fin := by
  intro k
  induction k with
  | zero =>
    intro i fuel h1 h2
    obtain ⟨f, rfl⟩ : ∃ f, fuel = f + 1 + 1 := ⟨fuel - 2, by omega⟩
    have : i = N := by omega
    subst this
    exact he _
  | succ k ih =>
    intro i fuel h1 h2
    obtain ⟨f, rfl⟩ : ∃ f, fuel = f + 1 := ⟨fuel - 1, by omega⟩
    have e : ap (lfix F z (f + 1)) i = ap (lfix F z f) (i + 1) := hs _ i (by omega)
    exact e.trans (ih (i + 1) f (by omega) (by omega))
variable {n : Nat} {m now : Nat → Int32} {v : Nat} {l k : Int32} {f g : Nat → Int64}
/-- the next door, x being the one that one came through (-1: none) -/
theorem nextDoor7 (hn : n < 17) {c e : Nat} (hcl : cel n c = true) (x : Int32) (hx : ∀ q, q < 3 → (nI q = x ↔ q = e)) : fX0_nextDoor (nI n) m (nI c) (nI v) x = some (oI (nd n m v c e)) := by
  unfold fX0_nextDoor nd
  have key := l_fs (F := fX0_nextDoor_b3 (nI n) m) (z := fun _ _ _ _ => none) (fun rc i => rc (nI c) (nI v) x (nI i)) (fun j => some (nI j)) (fun q => !decide (q = e) && db n m v c q) 3 (by decide) (fun rc i hi hp => ?_) (fun rc i hi hp => ?_) (some (-1)) (fun rc => ?_)
  · refine key.trans ?_
    generalize fs _ _ = o
    cases o <;> rfl
  · show fX0_nextDoor_b3 (nI n) m rc _ _ _ _ = _
    unfold fX0_nextDoor_b3
    rw [if_neg (show ¬ (3 : Int32) ≤ nI i from nI_ge hi (by decide))]
    by_cases h1 : i = e
    · rw [if_pos ((hx i hi).mpr h1), obs, nI_1]
    · rw [if_neg (fun h2 => h1 ((hx i hi).mp h2)), door7 hn v hcl hi, obs, ifb]
      have : db n m v c i = false := by simpa [h1] using hp
      rw [this, if_neg (by decide), obs, nI_1]
  · show fX0_nextDoor_b3 (nI n) m rc _ _ _ _ = _
    unfold fX0_nextDoor_b3
    have hp1 : ¬ i = e ∧ db n m v c i = true := by simpa using hp
    rw [if_neg (show ¬ (3 : Int32) ≤ nI i from nI_ge hi (by decide)), if_neg (fun h2 => hp1.1 ((hx i hi).mp h2)), door7 hn v hcl hi, obs, ifb, hp1.2, if_pos rfl]
  · rfl
theorem otherDoor8 (hn : n < 17) (h : R8 n m now) {c e : Nat} (hcl : cel n c = true) (x : Int32) (hx : ∀ q, q < 3 → (nI q = x ↔ q = e)) : fX8_otherDoor now (nI c) x (nI v) = some (oI (nd n m v c e)) := by
  unfold fX8_otherDoor nd
  have key := l_fs (F := fX8_otherDoor_b3 now) (z := fun _ _ _ _ => none) (fun rc i => rc (nI c) x (nI v) (nI i)) (fun j => some (nI j)) (fun q => !decide (q = e) && db n m v c q) 3 (by decide) (fun rc i hi hp => ?_) (fun rc i hi hp => ?_) (some (-1)) (fun rc => ?_)
  · refine key.trans ?_
    generalize fs _ _ = o
    cases o <;> rfl
  · show fX8_otherDoor_b3 now rc _ _ _ _ = _
    unfold fX8_otherDoor_b3
    rw [if_neg (show ¬ (3 : Int32) ≤ nI i from nI_ge hi (by decide))]
    by_cases h1 : i = e
    · rw [if_pos ((hx i hi).mpr h1), obs, nI_1]
    · rw [if_neg (fun h2 => h1 ((hx i hi).mp h2)), door8 hn h v hcl hi, obs, ifb]
      have : db n m v c i = false := by simpa [h1] using hp
      rw [this, if_neg (by decide), obs, nI_1]
  · show fX8_otherDoor_b3 now rc _ _ _ _ = _
    unfold fX8_otherDoor_b3
    have hp1 : ¬ i = e ∧ db n m v c i = true := by simpa using hp
    rw [if_neg (show ¬ (3 : Int32) ≤ nI i from nI_ge hi (by decide)), if_neg (fun h2 => hp1.1 ((hx i hi).mp h2)), door8 hn h v hcl hi, obs, ifb, hp1.2, if_pos rfl]
  · rfl
theorem hx_e {e : Nat} (he : e < 3) : ∀ q, q < 3 → (nI q = nI e ↔ q = e) := fun q hq => nI_eq (by omega) (by omega)
theorem hx_m : ∀ q, q < 3 → (nI q = (-1 : Int32) ↔ q = 3) := by decide +kernel
theorem oIn : oI none = -1 := rfl
theorem oI_e {c : Nat} (h : c < 2 ^ 31) : ¬ oI (some c) = -1 := fun e => by
  have := (oI_none (o := some c) (fun d hd => by cases hd; exact h)).mp e
  cases this
/-- a way's length -/
def WL (n : Nat) (m : Nat → Int32) (v : Nat) (s : Nat × Nat) (L : Nat) : Prop := 1 ≤ L ∧ L ≤ 512 ∧ wk n m v s L = none ∧ ∀ i, i < L → ∃ t, wk n m v s i = some t
def wc (n : Nat) (m : Nat → Int32) (v : Nat) (s : Nat × Nat) (i : Nat) : Nat × Nat := (wk n m v s i).getD (0, 0)
theorem WL.at {s : Nat × Nat} {L i : Nat} (h : WL n m v s L) (hi : i < L) : wk n m v s i = some (wc n m v s i) := by
  obtain ⟨t, ht⟩ := h.2.2.2 i hi
  rw [wc, ht]; rfl
theorem WL.sv {s : Nat × Nat} {L i : Nat} (h : WL n m v s L) (hn : n < 17) (hs : SV n m v s) (hi : i < L) : SV n m v (wc n m v s i) := wk_sv hn hs (h.at hi)
/-- the way as it is written down: the first i cells -/
def wy (n : Nat) (m : Nat → Int32) (v : Nat) (s : Nat × Nat) (w : Nat → Int32) (i : Nat) : Nat → Int32 := fun j => if j < i then nI (wc n m v s j).1 else w j
theorem wy_s (s : Nat × Nat) (w : Nat → Int32) (i : Nat) : upd (wy n m v s w i) i (nI (wc n m v s i).1) = wy n m v s w (i + 1) := by
  funext j
  unfold upd wy
  by_cases h1 : j = i
  · subst h1; simp
  · by_cases h2 : j < i
    · simp [h1, h2, show j < i + 1 by omega]
    · simp [h1, h2, show ¬ j < i + 1 by omega]
theorem wy_0 (s : Nat × Nat) (w : Nat → Int32) : wy n m v s w 0 = w := by
  funext j; simp [wy]
/-- does the way come out -/
def wo (n : Nat) (m : Nat → Int32) (v : Nat) (s : Nat × Nat) (L : Nat) : Bool := (nd n m v (wc n m v s (L - 1)).1 (wc n m v s (L - 1)).2).isSome
theorem WL.step {s : Nat × Nat} {L i : Nat} (h : WL n m v s L) (hi : i + 1 < L) : ∃ e, nd n m v (wc n m v s i).1 (wc n m v s i).2 = some e ∧ bey n (wc n m v s i).1 e = some (wc n m v s (i + 1)).1 ∧ (wc n m v s (i + 1)).2 = e := by
  have h1 := h.at hi
  have h2 := h.at (show i < L by omega)
  rw [wk, h2] at h1
  have h1 : wst n m v (wc n m v s i) = some (wc n m v s (i + 1)) := h1
  unfold wst at h1
  cases h3 : nd n m v (wc n m v s i).1 (wc n m v s i).2 with
  | none => rw [h3] at h1; cases h1
  | some e =>
    simp only [h3] at h1
    cases h4 : bey n (wc n m v s i).1 e with
    | none => simp only [h4] at h1; cases h1
    | some c =>
      simp only [h4] at h1
      have h5 := Option.some.inj h1
      refine ⟨e, rfl, ?_, ?_⟩
      · rw [← h5]; exact h4
      · rw [← h5]
theorem WL.last {s : Nat × Nat} {L : Nat} (h : WL n m v s L) : nd n m v (wc n m v s (L - 1)).1 (wc n m v s (L - 1)).2 = none ∨ ∃ e, nd n m v (wc n m v s (L - 1)).1 (wc n m v s (L - 1)).2 = some e ∧ bey n (wc n m v s (L - 1)).1 e = none := by
  obtain ⟨a1, a2, a3, a4⟩ := h
  have h2 := WL.at ⟨a1, a2, a3, a4⟩ (show L - 1 < L by omega)
  have h1 : wk n m v s (L - 1 + 1) = none := by rw [show L - 1 + 1 = L by omega]; exact a3
  rw [wk, h2] at h1
  have h1 : wst n m v (wc n m v s (L - 1)) = none := h1
  unfold wst at h1
  cases h3 : nd n m v (wc n m v s (L - 1)).1 (wc n m v s (L - 1)).2 with
  | none => exact Or.inl rfl
  | some e =>
    right
    simp only [h3] at h1
    cases h4 : bey n (wc n m v s (L - 1)).1 e with
    | none => exact ⟨e, rfl, h4⟩
    | some c => simp only [h4] at h1; cases h1
theorem follow7 (hn : n < 17) {s : Nat × Nat} {L : Nat} (hs : SV n m v s) (hL : WL n m v s L) (a b : Int32) (w : Nat → Int32) : fX0_follow (nI n) m a b w (nI v) (nI s.1) (nI s.2) = some (bI (wo n m v s L), nI L, wy n m v s w L) := by
  have h512 := nbs_le n hn
  have hL1 := hL.1
  have hL2 := hL.2.1
  unfold fX0_follow
  have e0 : wc n m v s 0 = s := rfl
  have body : ∀ rc i, i < L → fX0_follow_b17 (nI n) m rc 0 (nI i) (wy n m v s w i) (nI v) (nI (wc n m v s i).1) (nI (wc n m v s i).2) = if oI (nd n m v (wc n m v s i).1 (wc n m v s i).2) = -1 then some (0, nI (i + 1), wy n m v s w (i + 1)) else (fX1_beyond (nI n) (nI (wc n m v s i).1) (oI (nd n m v (wc n m v s i).1 (wc n m v s i).2))).bind fun v4 => rc 0 (nI (i + 1)) (wy n m v s w (i + 1)) (nI v) v4 (oI (nd n m v (wc n m v s i).1 (wc n m v s i).2)) := fun rc i hi => by
    have sv := hL.sv hn hs hi
    have hc := (cel_ij sv.1).1
    unfold fX0_follow_b17
    rw [if_neg (show ¬ nI (wc n m v s i).1 = -1 from oI_e (by omega)), if_neg (show ¬ (512 : Int32) ≤ nI i from nI_ge (show i < 512 by omega) (by decide)), ast_in (by omega) (by decide), obs, obs, nI_1, wy_s, nextDoor7 hn sv.1 _ (hx_e sv.2.1), obs]
  have key := l_accT (F := fX0_follow_b17 (nI n) m) (z := fun _ _ _ _ _ _ => none) (fun rc i => rc 0 (nI i) (wy n m v s w i) (nI v) (nI (wc n m v s i).1) (nI (wc n m v s i).2)) (L - 1) (some (bI (wo n m v s L), nI L, wy n m v s w L)) (fun rc i hi => ?_) (fun rc => ?_) (L - 1) 0 FU (by omega) (fu_lt (by omega))
  · rw [wy_0, e0] at key
    exact key
  · show fX0_follow_b17 (nI n) m rc _ _ _ _ _ _ = _
    rw [body rc i (by omega)]
    obtain ⟨e, h1, h2, h3⟩ := hL.step (show i + 1 < L by omega)
    obtain ⟨q1, -, -⟩ := nd_some h1
    have sv := hL.sv hn hs (show i < L by omega)
    rw [h1, if_neg (oI_e (by omega)), show oI (some e) = nI e from rfl, bey7 n hn _ (cel_ij sv.1).1 sv.1 e q1, obs, h2, h3]; rfl
  · show fX0_follow_b17 (nI n) m (fX0_follow_b17 (nI n) m rc) _ _ _ _ _ _ = _
    rw [body _ (L - 1) (by omega), show L - 1 + 1 = L by omega]
    have sv := hL.sv hn hs (show L - 1 < L by omega)
    unfold wo
    rcases hL.last with h1 | ⟨e, h1, h2⟩
    · rw [h1, if_pos oIn]; rfl
    · obtain ⟨q1, -, -⟩ := nd_some h1
      rw [h1, if_neg (oI_e (by omega)), show oI (some e) = nI e from rfl, bey7 n hn _ (cel_ij sv.1).1 sv.1 e q1, obs, h2]
      unfold fX0_follow_b17
      rw [if_pos oIn]; rfl
/-- where the way came out, by number -/
def wx (n : Nat) (m : Nat → Int32) (v : Nat) (s : Nat × Nat) (L : Nat) : Int32 := if wo n m v s L then nI (fb_ct (ob n m v) (stp n v (wc n m v s (L - 1)).1)) else -1
theorem outerOf8 (hn : n < 17) (hv : v < 3) (oc od : Nat → Int32) {t : Nat} (ht : t < n) (ho : ob n m v t = true) : fX8_outerOf (nI (fb_ct (ob n m v) n)) (gth (fun t => nI (sc n v t)) (ob n m v) oc n) (gth (fun _ => nI ((v + 1) % 3)) (ob n m v) od n) (nI (sc n v t)) (nI ((v + 1) % 3)) = some (nI (fb_ct (ob n m v) t)) := by
  unfold fX8_outerOf
  have h512 := nbs_le n hn
  have hcn := fb_ct_le (ob n m v) n
  have hlt : fb_ct (ob n m v) t < fb_ct (ob n m v) n := by
    have h1 : fb_ct (ob n m v) (t + 1) = fb_ct (ob n m v) t + 1 := by rw [fb_ct_succ, ho]; rfl
    have := fb_ct_mono (ob n m v) (show t + 1 ≤ n from ht)
    omega
  have hk : ∀ j, j < fb_ct (ob n m v) n → ∃ u, u < n ∧ ob n m v u = true ∧ fb_ct (ob n m v) u = j ∧ gth (fun t => nI (sc n v t)) (ob n m v) oc n j = nI (sc n v u) ∧ gth (fun _ => nI ((v + 1) % 3)) (ob n m v) od n j = nI ((v + 1) % 3) := fun j hj => by
    obtain ⟨u, h1, h2, h3⟩ := fb_ct_kth hj
    refine ⟨u, h1, h2, h3, ?_, ?_⟩
    · rw [← h3, gth_at _ _ oc h2 h1]
    · rw [← h3, gth_at _ _ od h2 h1]
  have hsl : ∀ u, u < n → sc n v u < 2 ^ 31 := fun u hu => by
    have := (cel_ij (sc_ok n hn v hv u hu).1).1
    omega
  generalize gth (fun t => nI (sc n v t)) (ob n m v) oc n = oc' at *
  generalize gth (fun _ => nI ((v + 1) % 3)) (ob n m v) od n = od' at *
  have key := l_fs (F := fX8_outerOf_b2 (nI (fb_ct (ob n m v) n)) oc' od') (z := fun _ _ _ => none) (fun rc i => rc (nI (sc n v t)) (nI ((v + 1) % 3)) (nI i)) (fun j => some (nI j)) (fun j => decide (j = fb_ct (ob n m v) t)) (fb_ct (ob n m v) n) (by omega) (fun rc i hi hp => ?_) (fun rc i hi hp => ?_) (some (-1)) (fun rc => ?_)
  · refine key.trans ?_
    rw [fs_some (j := fb_ct (ob n m v) t) (by simp) (fun q hq => by simp; omega) hlt]
  · show fX8_outerOf_b2 _ oc' od' rc _ _ _ = _
    unfold fX8_outerOf_b2
    obtain ⟨u, h1, h2, h3, h4, h5⟩ := hk i hi
    have hne : ¬ sc n v u = sc n v t := fun e => by
      have e2 := congrArg (stp n v) e
      rw [stp_sc n hn v hv u h1, stp_sc n hn v hv t ht] at e2
      rw [e2] at h3
      simp [h3] at hp
    rw [if_neg (nI_ge hi (by omega)), ald_in (by omega) (by decide), obs, h4, if_neg (fun e => hne ((nI_eq (hsl u h1) (hsl t ht)).mp e)), obs, nI_1]
  · show fX8_outerOf_b2 _ oc' od' rc _ _ _ = _
    unfold fX8_outerOf_b2
    obtain ⟨u, h1, h2, h3, h4, h5⟩ := hk i hi
    have hp1 : i = fb_ct (ob n m v) t := by simpa using hp
    have e : u = t := fb_ct_kth_one h2 ho (by rw [h3, hp1])
    rw [if_neg (nI_ge hi (by omega)), ald_in (by omega) (by decide), obs, h4, e, if_pos rfl, ald_in (by omega) (by decide), obs, h5, if_pos rfl]
  · show fX8_outerOf_b2 _ oc' od' rc _ _ _ = _
    unfold fX8_outerOf_b2
    rw [if_pos (nI_le (Nat.le_refl _) (by omega))]
theorem goIn8 (hn : n < 17) (h : R8 n m now) (hp : SPR n m) (hv : v < 3) {s : Nat × Nat} {L : Nat} (hs : SV n m v s) (hL : WL n m v s L) (oc od : Nat → Int32) (a b : Int32) (w : Nat → Int32) : fX8_goIn (nI (fb_ct (ob n m v) n)) now (gth (fun t => nI (sc n v t)) (ob n m v) oc n) (gth (fun _ => nI ((v + 1) % 3)) (ob n m v) od n) a b w (nI s.1) (nI s.2) (nI v) = some (wx n m v s L, nI L, wy n m v s w L) := by
  have h512 := nbs_le n hn
  have hL1 := hL.1
  have hL2 := hL.2.1
  unfold fX8_goIn
  have e0 : wc n m v s 0 = s := rfl
  have hout := fun t ht ho => outerOf8 (n := n) (m := m) (v := v) hn hv oc od (t := t) ht ho
  generalize gth (fun t => nI (sc n v t)) (ob n m v) oc n = oc' at *
  generalize gth (fun _ => nI ((v + 1) % 3)) (ob n m v) od n = od' at *
  generalize nI (fb_ct (ob n m v) n) = om at *
  have body : ∀ rc i, i < L → fX8_goIn_b16 om now oc' od' rc (-1) (nI i) (wy n m v s w i) (nI v) (nI (wc n m v s i).1) (nI (wc n m v s i).2) = if oI (nd n m v (wc n m v s i).1 (wc n m v s i).2) = -1 then fX8_goIn_b76 om now oc' od' rc (-1) (nI (i + 1)) (wy n m v s w (i + 1)) (nI v) (oI (nd n m v (wc n m v s i).1 (wc n m v s i).2)) (nI (wc n m v s i).1) (-1) else (fX8_beyond now (nI (wc n m v s i).1) (oI (nd n m v (wc n m v s i).1 (wc n m v s i).2))).bind fun v4 => fX8_goIn_b76 om now oc' od' rc (-1) (nI (i + 1)) (wy n m v s w (i + 1)) (nI v) (oI (nd n m v (wc n m v s i).1 (wc n m v s i).2)) (nI (wc n m v s i).1) v4 := fun rc i hi => by
    have sv := hL.sv hn hs hi
    have hc := (cel_ij sv.1).1
    unfold fX8_goIn_b16
    rw [if_neg (show ¬ nI (wc n m v s i).1 = -1 from oI_e (by omega)), ast_in (by omega) (by decide), obs, obs, nI_1, wy_s, otherDoor8 hn h sv.1 _ (hx_e sv.2.1), obs]
  have key := l_accT (F := fX8_goIn_b16 om now oc' od') (z := fun _ _ _ _ _ _ => none) (fun rc i => rc (-1) (nI i) (wy n m v s w i) (nI v) (nI (wc n m v s i).1) (nI (wc n m v s i).2)) (L - 1) (some (wx n m v s L, nI L, wy n m v s w L)) (fun rc i hi => ?_) (fun rc => ?_) (L - 1) 0 FU (by omega) (fu_lt (by omega))
  · rw [wy_0, e0] at key
    exact key
  · show fX8_goIn_b16 om now oc' od' rc _ _ _ _ _ _ = _
    rw [body rc i (by omega)]
    obtain ⟨e, h1, h2, h3⟩ := hL.step (show i + 1 < L by omega)
    obtain ⟨q1, -, -⟩ := nd_some h1
    have sv := hL.sv hn hs (show i < L by omega)
    have sv2 := hL.sv hn hs (show i + 1 < L by omega)
    have hc2 := (cel_ij sv2.1).1
    rw [h1, if_neg (oI_e (by omega)), show oI (some e) = nI e from rfl, bey8 hn h.1 (cel_ij sv.1).1 sv.1 q1, obs, h2, h3]
    unfold fX8_goIn_b76 fX8_goIn_b102
    rw [if_neg (show ¬ nI e = -1 from oI_e (by omega)), if_neg (oI_e (by omega))]; rfl
  · show fX8_goIn_b16 om now oc' od' (fX8_goIn_b16 om now oc' od' rc) _ _ _ _ _ _ = _
    rw [body _ (L - 1) (by omega), show L - 1 + 1 = L by omega]
    have sv := hL.sv hn hs (show L - 1 < L by omega)
    unfold wx wo
    rcases hL.last with h1 | ⟨e, h1, h2⟩
    · rw [h1, if_pos oIn]
      unfold fX8_goIn_b76 fX8_goIn_b102
      rw [if_pos oIn]
      unfold fX8_goIn_b16
      rw [if_pos rfl]; rfl
    · obtain ⟨q1, -, q3⟩ := nd_some h1
      obtain ⟨r1, r2, r3, r4⟩ := rim_door hn hp hv sv.1 q1 h2 q3
      have ho := hout _ r3 r4
      rw [r2, ← r1] at ho
      rw [h1, if_neg (oI_e (by omega)), show oI (some e) = nI e from rfl, bey8 hn h.1 (cel_ij sv.1).1 sv.1 q1, obs, h2]
      unfold fX8_goIn_b76 fX8_goIn_b102
      rw [if_neg (show ¬ nI e = -1 from oI_e (by omega)), if_pos oIn, ho, obs]
      unfold fX8_goIn_b16
      rw [if_pos oIn]; rfl
end WKS
