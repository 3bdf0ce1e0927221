/-! from. -/
section FRM
variable {n : Nat} {m now : Nat → Int32} {v : Nat} {l k : Int32} {f g : Nat → Int64}
/-- a full cell has one door of each kind -/
theorem full_one (hn : n < 17) (hl : VL n m) (hv : v < 3) {c : Nat} (hf : fub n m c = true) : ∃ e, e < 3 ∧ db n m v c e = true ∧ (∀ q, q < 3 → db n m v c q = true → q = e) ∧ nd n m v c 3 = some e := by
  have hcl := fub_c hf
  have h0 := vl_co hn hl hcl (k := 0) (by decide)
  have h1 := vl_co hn hl hcl (k := 1) (by decide)
  have h2 := vl_co hn hl hcl (k := 2) (by decide)
  have h3 : v = 0 ∨ v = 1 ∨ v = 2 := by omega
  have ht : ¬ trn (m (co n c 0)) (m (co n c 1)) (m (co n c 2)) = 0 := by
    have : ¬ tn n m c = 0 := by simpa [fub] using hf
    rwa [tn_cel hcl] at this
  have key : ∃ e, e < 3 ∧ db n m v c e = true ∧ ∀ q, q < 3 → db n m v c q = true → q = e := by
    have d0 : db n m v c 0 = (decide (¬ m (co n c 1) = m (co n c 2)) && decide (¬ m (co n c 1) = nI v) && decide (¬ m (co n c 2) = nI v)) := rfl
    have d1 : db n m v c 1 = (decide (¬ m (co n c 2) = m (co n c 0)) && decide (¬ m (co n c 2) = nI v) && decide (¬ m (co n c 0) = nI v)) := rfl
    have d2 : db n m v c 2 = (decide (¬ m (co n c 0) = m (co n c 1)) && decide (¬ m (co n c 0) = nI v) && decide (¬ m (co n c 1) = nI v)) := rfl
    have fin : ∀ (x0 x1 x2 : Bool), ((x0 = true ∧ x1 = false ∧ x2 = false) ∨ (x0 = false ∧ x1 = true ∧ x2 = false) ∨ (x0 = false ∧ x1 = false ∧ x2 = true)) → db n m v c 0 = x0 → db n m v c 1 = x1 → db n m v c 2 = x2 → ∃ e, e < 3 ∧ db n m v c e = true ∧ ∀ q, q < 3 → db n m v c q = true → q = e := by
      intro x0 x1 x2 hx e0 e1 e2
      rcases hx with ⟨rfl, rfl, rfl⟩ | ⟨rfl, rfl, rfl⟩ | ⟨rfl, rfl, rfl⟩
      · refine ⟨0, by decide, e0, fun q hq hd => ?_⟩
        have : q = 0 ∨ q = 1 ∨ q = 2 := by omega
        rcases this with rfl | rfl | rfl
        · rfl
        · rw [e1] at hd; cases hd
        · rw [e2] at hd; cases hd
      · refine ⟨1, by decide, e1, fun q hq hd => ?_⟩
        have : q = 0 ∨ q = 1 ∨ q = 2 := by omega
        rcases this with rfl | rfl | rfl
        · rw [e0] at hd; cases hd
        · rfl
        · rw [e2] at hd; cases hd
      · refine ⟨2, by decide, e2, fun q hq hd => ?_⟩
        have : q = 0 ∨ q = 1 ∨ q = 2 := by omega
        rcases this with rfl | rfl | rfl
        · rw [e0] at hd; cases hd
        · rw [e1] at hd; cases hd
        · rfl
    refine fin _ _ _ ?_ d0 d1 d2
    clear fin d0 d1 d2
    generalize m (co n c 0) = a at *
    generalize m (co n c 1) = b at *
    generalize m (co n c 2) = d at *
    rcases h0 with rfl | rfl | rfl <;> rcases h1 with rfl | rfl | rfl <;> rcases h2 with rfl | rfl | rfl <;> first | (exact absurd (by decide) ht) | (rcases h3 with rfl | rfl | rfl <;> decide)
  obtain ⟨e, a1, a2, a3⟩ := key
  refine ⟨e, a1, a2, a3, ?_⟩
  refine fs_some (by simp [a2]; omega) (fun q hq => ?_) a1
  have : db n m v c q = false := by
    cases h9 : db n m v c q with
    | false => rfl
    | true => have := a3 q (by omega) h9; omega
  simp [this]
theorem m_from (hn : n < 17) (hn1 : 1 ≤ n) (h : R8 n m now) (hp : SPR n m) (hr : RW l f k g) (a b : Int32) (w : Nat → Int32) (a8 b8 t8 c8 : Int32) (oc od w8 : Nat → Int32) (x y : Int32) :
    ∃ r a' b' w' l' f' a8' b8' k' t8' c8' oc' od' g' w8', fX7_from (nI n) m a b w l f x y = some (r, a', b', w', l', f') ∧ fX8_from now a8 b8 k t8 c8 oc od g w8 x y = some (r, a8', b8', k', t8', c8', oc', od', g', w8') ∧ RW l' f' k' g' := by
  have h512 := nbs_le n hn
  unfold fX7_from fX8_from
  rcases cell_cases hn hn1 h.1 x with ⟨c, hcl, rfl, e7, e8⟩ | ⟨e7, e8⟩
  rotate_left
  · rw [e7, e8, obs, obs, if_pos rfl, if_pos rfl]
    exact ⟨_, _, _, _, _, _, _, _, _, _, _, _, _, _, _, rfl, rfl, hr⟩
  rw [e7, e8, obs, obs, if_neg (by decide), if_neg (by decide)]
  rcases good_cases y with ⟨v, hv, rfl, e1, -, e2⟩ | ⟨e1, -, e2⟩
  rotate_left
  · rw [e1, e2, obs, obs, if_pos rfl, if_pos rfl]
    exact ⟨_, _, _, _, _, _, _, _, _, _, _, _, _, _, _, rfl, rfl, hr⟩
  have hc := (cel_ij hcl).1
  rw [e1, e2, obs, obs, if_neg (by decide), if_neg (by decide), turn7 hn hc, obs, full8 hn h hp.vl hcl, obs, ifb]
  by_cases h0 : tn n m c = 0
  · rw [if_pos h0, show fub n m c = false by simp [fub, h0], if_neg (by decide)]
    exact ⟨_, _, _, _, _, _, _, _, _, _, _, _, _, _, _, rfl, rfl, hr⟩
  have hf : fub n m c = true := by simp [fub, h0]
  rw [if_neg h0, hf, if_pos rfl]
  obtain ⟨e, a1, a2, a3, a4⟩ := full_one hn hp.vl hv hf
  rw [layOuter8 hn h hv, nextDoor7 hn hcl (-1) hx_m, otherDoor8 hn h hcl (-1) hx_m, a4]
  simp only [bd3, obs]
  rw [show oI (some e) = nI e from rfl, bey7 n hn c hc hcl e a1, bey8 hn h.1 hc hcl a1, obs, obs]
  cases hb : bey n c e with
  | none =>
    obtain ⟨r1, r2, r3, r4⟩ := rim_door hn hp hv hcl a1 hb a2
    have ho := outerOf8 (m := m) hn hv oc od r3 r4
    rw [r2, ← r1] at ho
    have r0 : gth (fun x => nI ((v + 1) % 3)) (ob n m v) od n = gth (fun x => nI e) (ob n m v) od n := by rw [← r1]
    rw [if_pos oIn, if_pos oIn, sdp7 n hn v hv c hc, obs, before7 hn hv (by omega), obs, tell7_2, tell8_0]
    simp only [bd2, obs]
    rw [← r1, ho, obs, tell8 (q := 1) (by decide)]
    simp only [obs]
    exact ⟨_, _, _, _, _, _, _, _, _, _, _, _, _, _, _, rfl, rfl, RW.t2 f g _ _⟩
  | some c' =>
    obtain ⟨b1, b2, b3, -, -⟩ := bey_ok hn hcl a1 hb
    have hc' := (cel_ij b1).1
    have hs : SV n m v (c', e) := ⟨b1, a1, by rw [show db n m v (c', e).1 (c', e).2 = db n m v c' e from rfl, db_bey hn hcl a1 hb]; exact a2⟩
    obtain ⟨L, hL⟩ := wk_end hn hp.vl hv hs (fun u hu hw => by
      obtain ⟨-, -, -, q2, q3, -, -⟩ := wst_some hn hu hw
      have q4 : some c = some u.1 := by rw [← q2]; exact b2.symm
      have q5 : c = u.1 := Option.some.inj q4
      have q6 := hu.2.2
      rw [← q5] at q6
      exact q3 (a3 u.2 hu.2.1 q6).symm)
    have hL : WL n m v (c', e) L := hL
    have hL1 := hL.1
    have sv := hL.sv hn hs (show L - 1 < L by omega)
    rw [if_neg (oI_e (by omega)), if_neg (oI_e (by omega)), show oI (some c') = nI c' from rfl]
    have e3 := follow7 hn hs hL a b w
    have e4 := goIn8 hn h hp hv hs hL oc od a8 c8 w8
    simp only at e3 e4
    rw [e3, e4]
    simp only [obs, last7 hL, outDoor7 hn hp hv hs hL, tell7_2, bd2, ald_last hL, tell8_0, tell8 (q := 1) (by decide)]
    exact ⟨_, _, _, _, _, _, _, _, _, _, _, _, _, _, _, rfl, rfl, RW.t2 f g _ _⟩
end FRM
