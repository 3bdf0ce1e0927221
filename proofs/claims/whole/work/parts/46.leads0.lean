/-! leads. -/
section LDS
variable {n : Nat} {m now : Nat → Int32} {v : Nat}
theorem wk_add (s : Nat × Nat) (a : Nat) : ∀ b, wk n m v s (a + b) = (match wk n m v s a with | none => none | some t => wk n m v t b) := by
  intro b
  induction b with
  | zero =>
    rw [Nat.add_zero]
    cases wk n m v s a <;> rfl
  | succ b ih =>
    rw [← Nat.add_assoc, wk, ih]
    cases wk n m v s a with
    | none => rfl
    | some t => show _ = wk n m v t (b + 1); rw [wk]
theorem wk_before {s t : Nat × Nat} {i : Nat} (h : wk n m v s i = some t) {a : Nat} (ha : a ≤ i) : ∃ u, wk n m v s a = some u ∧ wk n m v u (i - a) = some t := by
  have e := wk_add (n := n) (m := m) (v := v) s a (i - a)
  rw [show a + (i - a) = i by omega, h] at e
  cases h1 : wk n m v s a with
  | none => rw [h1] at e; cases e
  | some u => rw [h1] at e; exact ⟨u, rfl, e.symm⟩
theorem wk_first {s t u : Nat × Nat} {i : Nat} (h : wst n m v s = some u) (h2 : wk n m v u i = some t) : wk n m v s (i + 1) = some t := by
  have e := wk_add (n := n) (m := m) (v := v) s 1 i
  have e1 : wk n m v s 1 = some u := by rw [wk]; exact h
  rw [e1] at e
  rw [Nat.add_comm i 1, e]; exact h2
/-- the way from a through its door e comes to x as cell number k behind a -/
def eB (n : Nat) (m : Nat → Int32) (v a k x e : Nat) : Bool := db n m v a e && (match bey n a e with | none => false | some c => (match wk n m v (c, e) k with | none => false | some t => decide (t.1 = x)))
def alB (n : Nat) (m : Nat → Int32) (v a : Nat) : Nat → Nat → Bool
  | 0, x => decide (x = a)
  | k + 1, x => eB n m v a k x 0 || (eB n m v a k x 1 || eB n m v a k x 2)
theorem eB_iff {a k x e : Nat} : eB n m v a k x e = true ↔ ∃ c t, db n m v a e = true ∧ bey n a e = some c ∧ wk n m v (c, e) k = some t ∧ t.1 = x := by
  unfold eB
  constructor
  · intro h
    cases hd : db n m v a e with
    | false => rw [hd] at h; cases h
    | true =>
      rw [hd] at h
      cases hb : bey n a e with
      | none => simp only [hb] at h; cases h
      | some c =>
        simp only [hb, Bool.true_and] at h
        cases hw : wk n m v (c, e) k with
        | none => simp only [hw] at h; cases h
        | some t => simp only [hw] at h; exact ⟨c, t, rfl, rfl, hw, of_decide_eq_true h⟩
  · intro ⟨c, t, h1, h2, h3, h4⟩
    simp only [h1, h2, h3, h4, Bool.true_and, decide_true]
theorem alB_succ {a k x : Nat} : alB n m v a (k + 1) x = true ↔ ∃ e c t, e < 3 ∧ db n m v a e = true ∧ bey n a e = some c ∧ wk n m v (c, e) k = some t ∧ t.1 = x := by
  rw [alB]
  constructor
  · intro h
    have h2 : eB n m v a k x 0 = true ∨ eB n m v a k x 1 = true ∨ eB n m v a k x 2 = true := by
      simpa using h
    rcases h2 with h2 | h2 | h2
    · obtain ⟨c, t, h3⟩ := eB_iff.mp h2; exact ⟨0, c, t, by decide, h3⟩
    · obtain ⟨c, t, h3⟩ := eB_iff.mp h2; exact ⟨1, c, t, by decide, h3⟩
    · obtain ⟨c, t, h3⟩ := eB_iff.mp h2; exact ⟨2, c, t, by decide, h3⟩
  · intro ⟨e, c, t, h1, h2⟩
    have h3 : eB n m v a k x e = true := eB_iff.mpr ⟨c, t, h2⟩
    have h4 : e = 0 ∨ e = 1 ∨ e = 2 := by omega
    rcases h4 with rfl | rfl | rfl <;> simp [h3]
/-- next to each other through a door -/
def nbB (n : Nat) (m : Nat → Int32) (v c x : Nat) : Bool := (db n m v c 0 && decide (bey n c 0 = some x)) || ((db n m v c 1 && decide (bey n c 1 = some x)) || (db n m v c 2 && decide (bey n c 2 = some x)))
theorem nbB_iff {c x : Nat} : nbB n m v c x = true ↔ ∃ e, e < 3 ∧ db n m v c e = true ∧ bey n c e = some x := by
  unfold nbB
  constructor
  · intro h
    have h2 : (db n m v c 0 = true ∧ bey n c 0 = some x) ∨ (db n m v c 1 = true ∧ bey n c 1 = some x) ∨ (db n m v c 2 = true ∧ bey n c 2 = some x) := by simpa using h
    rcases h2 with h2 | h2 | h2
    · exact ⟨0, by decide, h2⟩
    · exact ⟨1, by decide, h2⟩
    · exact ⟨2, by decide, h2⟩
  · intro ⟨e, h1, h2, h3⟩
    have h4 : e = 0 ∨ e = 1 ∨ e = 2 := by omega
    rcases h4 with rfl | rfl | rfl <;> simp [h2, h3]
theorem sv_in (hn : n < 17) {a e c : Nat} (ha : cel n a = true) (he : e < 3) (hd : db n m v a e = true) (hb : bey n a e = some c) : SV n m v (c, e) := by
  obtain ⟨b1, -, -, -, -⟩ := bey_ok hn ha he hb
  exact ⟨b1, he, by rw [show db n m v (c, e).1 (c, e).2 = db n m v c e from rfl, db_bey hn ha he hb]; exact hd⟩
theorem alB_cl (hn : n < 17) (hl : VL n m) (hv : v < 3) {a : Nat} (ha : cel n a = true) {j p x : Nat} (hp : alB n m v a j p = true) (hx : nbB n m v p x = true) : ∃ j', j' ≤ j + 1 ∧ alB n m v a j' x = true := by
  obtain ⟨e, e1, e2, e3⟩ := nbB_iff.mp hx
  cases j with
  | zero =>
    have : p = a := of_decide_eq_true hp
    subst this
    exact ⟨1, by omega, alB_succ.mpr ⟨e, x, (x, e), e1, e2, e3, rfl, rfl⟩⟩
  | succ j =>
    obtain ⟨e0, c0, t, h1, h2, h3, h4, h5⟩ := alB_succ.mp hp
    have s0 := sv_in hn ha h1 h2 h3
    have st := wk_sv hn s0 h4
    subst h5
    by_cases he : e = t.2
    · subst he
      cases j with
      | zero =>
        have : t = (c0, e0) := (Option.some.inj h4).symm
        subst this
        obtain ⟨-, b2, -⟩ := bey_ok hn ha h1 h3
        have : x = a := Option.some.inj (e3.symm.trans b2)
        exact ⟨0, by omega, decide_eq_true this⟩
      | succ j =>
        obtain ⟨u, u1, u2⟩ := wk_pre h4
        have su := wk_sv hn s0 u1
        obtain ⟨-, -, -, b2, -⟩ := wst_some hn su u2
        have : x = u.1 := Option.some.inj (e3.symm.trans b2)
        exact ⟨j + 1, by omega, alB_succ.mpr ⟨e0, c0, u, h1, h2, h3, u1, this.symm⟩⟩
    · have hnd := nd_two hn hl hv st.1 st.2.1 e1 he st.2.2 e2
      have hw : wst n m v t = some (x, e) := by simp only [wst, hnd, e3]
      refine ⟨j + 1 + 1, by omega, alB_succ.mpr ⟨e0, c0, (x, e), h1, h2, h3, ?_, rfl⟩⟩
      rw [wk, h4]; exact hw
theorem alB_cel (hn : n < 17) {a : Nat} (ha : cel n a = true) {j x : Nat} (h : alB n m v a j x = true) : cel n x = true := by
  cases j with
  | zero =>
    have : x = a := of_decide_eq_true h
    rw [this]; exact ha
  | succ j =>
    obtain ⟨e0, c0, t, h1, h2, h3, h4, h5⟩ := alB_succ.mp h
    rw [← h5]
    exact (wk_sv hn (sv_in hn ha h1 h2 h3) h4).1
/-- where x lies first -/
def lv (n : Nat) (m : Nat → Int32) (v a x s : Nat) : Option Nat := fs (fun j => alB n m v a j x) s
theorem lv_pre (hn : n < 17) (hl : VL n m) (hv : v < 3) {a : Nat} (ha : cel n a = true) {s x : Nat} (hx : alB n m v a (s + 1) x = true) (hno : ∀ q, q < s + 1 → alB n m v a q x = false) : ∃ c, c < 2 * n * n ∧ lv n m v a c (s + 1) = some s ∧ nbB n m v c x = true := by
  obtain ⟨e0, c0, t, h1, h2, h3, h4, h5⟩ := alB_succ.mp hx
  have s0 := sv_in hn ha h1 h2 h3
  subst h5
  have key : ∀ p, alB n m v a s p = true → nbB n m v p t.1 = true → lv n m v a p (s + 1) = some s := fun p hp hb => by
    refine fs_some (p := fun j => alB n m v a j p) (j := s) hp (fun q hq => ?_) (by omega)
    cases h9 : alB n m v a q p with
    | false => rfl
    | true =>
      obtain ⟨j', q1, q2⟩ := alB_cl hn hl hv ha h9 hb
      rw [hno j' (by omega)] at q2; cases q2
  cases s with
  | zero =>
    have : t = (c0, e0) := (Option.some.inj h4).symm
    subst this
    have hb : nbB n m v a c0 = true := nbB_iff.mpr ⟨e0, h1, h2, h3⟩
    exact ⟨a, (cel_ij ha).1, key a (decide_eq_true rfl) hb, hb⟩
  | succ s =>
    obtain ⟨u, u1, u2⟩ := wk_pre h4
    have su := wk_sv hn s0 u1
    have st := wk_sv hn s0 h4
    obtain ⟨-, -, b2, -, -, b3, -⟩ := wst_some hn su u2
    have hb : nbB n m v u.1 t.1 = true := nbB_iff.mpr ⟨t.2, st.2.1, b3, b2⟩
    exact ⟨u.1, (cel_ij su.1).1, key u.1 (alB_succ.mpr ⟨e0, c0, u, h1, h2, h3, u1, rfl⟩) hb, hb⟩
theorem lv_next (hn : n < 17) (hl : VL n m) (hv : v < 3) {a : Nat} (ha : cel n a = true) {s x : Nat} (hno : lv n m v a x (s + 1) = none) : (∃ c, c < 2 * n * n ∧ lv n m v a c (s + 1) = some s ∧ nbB n m v c x = true) ↔ alB n m v a (s + 1) x = true := by
  have hno2 : ∀ q, q < s + 1 → alB n m v a q x = false := fun q hq => by
    rcases fs_cases (fun j => alB n m v a j x) (s + 1) with ⟨k, h1, h2, h3, h4⟩ | ⟨h1, -⟩
    · unfold lv at hno
      rw [h4] at hno; cases hno
    · exact h1 q hq
  constructor
  · intro ⟨c, h1, h2, h3⟩
    obtain ⟨j', q1, q2⟩ := alB_cl hn hl hv ha (fs_lt h2).2.1 h3
    by_cases h4 : j' = s + 1
    · rw [h4] at q2; exact q2
    · rw [hno2 j' (by omega)] at q2; cases q2
  · intro h
    exact lv_pre hn hl hv ha h hno2
/-- no cell lies farther than there are cells -/
theorem lv_bound (hn : n < 17) (hl : VL n m) (hv : v < 3) {a : Nat} (ha : cel n a = true) {j o : Nat} (h : alB n m v a j o = true) (hno : ∀ q, q < j → alB n m v a q o = false) : j + 1 ≤ 2 * n * n := by
  have key : ∀ d i, i + d = j → ∃ c, c < 2 * n * n ∧ lv n m v a c (i + 1) = some i := by
    intro d
    induction d with
    | zero =>
      intro i hi
      have : i = j := by omega
      subst this
      exact ⟨o, (cel_ij (alB_cel hn ha h)).1, fs_some (p := fun j => alB n m v a j o) (j := i) h hno (by omega)⟩
    | succ d ih =>
      intro i hi
      obtain ⟨c, h1, h2⟩ := ih (i + 1) (by omega)
      obtain ⟨-, q1, q2⟩ := fs_lt h2
      obtain ⟨c', h3, h4, -⟩ := lv_pre hn hl hv ha q1 q2
      exact ⟨c', h3, h4⟩
  have pick : ∀ i, i < j + 1 → ∃ c, fs (fun c => decide (lv n m v a c (i + 1) = some i)) (2 * n * n) = some c := fun i hi => by
    obtain ⟨c, h1, h2⟩ := key (j - i) i (by omega)
    rcases fs_cases (fun c => decide (lv n m v a c (i + 1) = some i)) (2 * n * n) with ⟨k, -, -, -, h4⟩ | ⟨h3, -⟩
    · exact ⟨k, h4⟩
    · have := h3 c h1
      simp only [h2, decide_true] at this; cases this
  refine fb_holes (2 * n * n) (j + 1) (fun i => (fs (fun c => decide (lv n m v a c (i + 1) = some i)) (2 * n * n)).getD 0) (fun i hi => ?_) (fun i k hik hk => ?_)
  · obtain ⟨c, hc⟩ := pick i hi
    simp only [hc, Option.getD_some]
    exact (fs_lt hc).1
  · obtain ⟨c, hc⟩ := pick i (by omega)
    obtain ⟨d, hd⟩ := pick k hk
    simp only [hc, hd, Option.getD_some]
    intro e
    subst e
    have e1 : lv n m v a c (i + 1) = some i := of_decide_eq_true (fs_lt hc).2.1
    have e2 : lv n m v a c (k + 1) = some k := of_decide_eq_true (fs_lt hd).2.1
    have q1 := (fs_lt e1).2.1
    have q2 := (fs_lt e2).2.2 i hik
    rw [q1] at q2; cases q2
end LDS
