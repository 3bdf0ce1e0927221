/-! leads: the reference's loops, and both together. -/
section LDN
variable {n : Nat} {m now : Nat → Int32} {v : Nat}
theorem lead8_e (hn : n < 17) (h : R8 n m now) {c s : Nat} (hcl : cel n c = true) (rc65 : Int32 → (Nat → Int32) → Int32 → Int32 → Int32 → Option (Int32 × Int32 × (Nat → Int32))) (rc77 : Int32 → (Nat → Int32) → Int32 → Int32 → Int32 → Int32 → Option (Int32 × Int32 × (Nat → Int32))) (t o : Int32) (G : Nat → Int32) : lfix (fX8_leads_b104 now rc65 rc77) (fun _ _ _ _ _ _ _ => none) FU t G o (nI v) (nI s) (nI c) 0 = rc77 t (itk (fun e => ste n m v s c e) G 3) o (nI v) (nI s) (nI (c + 1)) := by
  have h512 := nbs_le n hn
  have hc := (cel_ij hcl).1
  refine l_acc0 (F := fX8_leads_b104 now rc65 rc77) (fun rc i => rc t (itk (fun e => ste n m v s c e) G i) o (nI v) (nI s) (nI c) (nI i)) 3 (by decide) _ (fun rc i hi => ?_) (fun rc => ?_)
  · show fX8_leads_b104 now rc65 rc77 rc _ _ _ _ _ _ _ = _
    unfold fX8_leads_b104 fX8_leads_b134
    rw [if_neg (show ¬ (3 : Int32) ≤ nI i from nI_ge hi (by decide)), door8 hn h v hcl hi, obs, ifb, itk, nI_1, nI_1]
    generalize itk (fun e => ste n m v s c e) G i = H
    cases hd : db n m v c i with
    | false =>
      rw [if_neg (by decide), if_pos rfl, obs]
      have : ste n m v s c i H = H := by
        funext x; simp [ste, hd]
      rw [this]
    | true =>
      rw [if_pos rfl, bey8 hn h.1 hc hcl hi, obs]
      cases hb : bey n c i with
      | none =>
        rw [if_pos oIn, obs]
        have : ste n m v s c i H = H := by
          funext x; simp [ste, hb]
        rw [this]
      | some y =>
        obtain ⟨b1, -⟩ := bey_ok hn hcl hi hb
        have hy := (cel_ij b1).1
        rw [if_neg (oI_e (by omega)), show oI (some y) = nI y from rfl, ald_in (by omega) (by decide), obs, ast_in (by omega) (by decide), obs]
        by_cases h0 : H y = 0
        · rw [if_pos h0, obs]
          have : ste n m v s c i H = upd H y (nI (s + 1)) := by
            funext x
            unfold ste upd
            by_cases hx : x = y
            · subst hx; simp [h0, hd, hb]
            · have : ¬ y = x := fun e => hx e.symm
              simp [hx, hb, this]
          rw [this]
        · rw [if_neg h0, obs]
          have : ste n m v s c i H = H := by
            funext x
            unfold ste
            by_cases hx : x = y
            · subst hx; simp [h0]
            · have : ¬ y = x := fun e => hx e.symm
              simp [hb, this]
          rw [this]
  · show fX8_leads_b104 now rc65 rc77 rc _ _ _ _ _ _ _ = _
    unfold fX8_leads_b104
    rw [if_pos (show (3 : Int32) ≤ nI 3 by decide), obs, nI_1]
theorem lead8_c (hn : n < 17) (h : R8 n m now) {s : Nat} (hs : s < 1000) (hs1 : 1 ≤ s) (rc65 : Int32 → (Nat → Int32) → Int32 → Int32 → Int32 → Option (Int32 × Int32 × (Nat → Int32))) (t o : Int32) {G : Nat → Int32} (hG : CZ n G) : lfix (fX8_leads_b77 now rc65) (fun _ _ _ _ _ _ => none) FU t G o (nI v) (nI s) 0 = rc65 t (sts n m v s G) o (nI v) (nI (s + 1)) := by
  have h512 := nbs_le n hn
  refine l_acc0 (F := fX8_leads_b77 now rc65) (fun rc i => rc t (itk (fun c => stc n m v s c) G i) o (nI v) (nI s) (nI i)) (2 * n * n) (by omega) _ (fun rc i hi => ?_) (fun rc => ?_)
  · show fX8_leads_b77 now rc65 rc _ _ _ _ _ _ = _
    unfold fX8_leads_b77
    have hz := CZ_stcs (m := m) (v := v) hn hs hs1 hG i (by omega)
    rw [nbs8 hn h.1, obs, if_neg (nI_ge hi (by omega)), ald_in (by omega) (by decide), obs, itk]
    generalize itk (fun c => stc n m v s c) G i = H at *
    by_cases h1 : H i = nI s
    · have hcl : cel n i = true := hz i (by omega) (by rw [h1]; exact nI_n0 (by omega) hs1)
      rw [if_pos h1, lead8_e hn h hcl, ste3 hs h1]
    · rw [if_neg h1, obs, nI_1]
      have : stc n m v s i H = H := by funext x; simp [stc, h1]
      rw [this]
  · show fX8_leads_b77 now rc65 rc _ _ _ _ _ _ = _
    unfold fX8_leads_b77
    rw [nbs8 hn h.1, obs, if_pos (nI_le (Nat.le_refl _) (by omega)), obs, nI_1]; rfl
theorem lead8_s (hn : n < 17) (h : R8 n m now) (hl : VL n m) (hv : v < 3) {a o : Nat} (ha : cel n a = true) (ho : cel n o = true) (S : Nat → Int32) (t : Int32) : ∃ S', lfix (fX8_leads_b65 now) (fun _ _ _ _ _ => none) FU t (upd (clr S 512) a 1) (nI o) (nI v) 1 = some (if fv n m v a (2 * n * n + 1) o = 0 then -2 else fv n m v a (2 * n * n + 1) o, t, S') := by
  have h512 := nbs_le n hn
  have ha2 := (cel_ij ha).1
  have ho2 := (cel_ij ho).1
  have z0 : CZ n (upd (clr S 512) a 1) := fun x hx hne => by
    unfold upd at hne
    by_cases h1 : x = a
    · rw [h1]; exact ha
    · rw [if_neg h1] at hne
      unfold clr at hne
      rw [if_pos hx] at hne
      exact absurd rfl hne
  have f0 : ∀ x, x < 512 → upd (clr S 512) a 1 x = fv n m v a (0 + 1) x := fun x hx => by
    unfold upd fv lv
    rw [fs, fs, alB]
    by_cases h1 : x = a
    · rw [if_pos h1, decide_eq_true h1]; rfl
    · rw [if_neg h1, decide_eq_false h1]
      unfold clr
      rw [if_pos hx]; rfl
  generalize hG0 : upd (clr S 512) a 1 = G0 at *
  have key : ∀ i, i ≤ 2 * n * n → CZ n (itk (fun i => sts n m v (i + 1)) G0 i) ∧ ∀ x, x < 512 → itk (fun i => sts n m v (i + 1)) G0 i x = fv n m v a (i + 1) x := by
    intro i
    induction i with
    | zero => intro _; exact ⟨z0, f0⟩
    | succ i ih =>
      intro hi
      obtain ⟨i1, i2⟩ := ih (by omega)
      rw [itk]
      exact ⟨CZ_sts hn (by omega) (by omega) i1, fv_step hn hl hv ha (by omega) i2⟩
  refine ⟨itk (fun i => sts n m v (i + 1)) G0 (2 * n * n), ?_⟩
  refine l_acc0 (F := fX8_leads_b65 now) (fun rc i => rc t (itk (fun i => sts n m v (i + 1)) G0 i) (nI o) (nI v) (nI (i + 1))) (2 * n * n) (by omega) _ (fun rc i hi => ?_) (fun rc => ?_)
  · show fX8_leads_b65 now rc _ _ _ _ _ = _
    unfold fX8_leads_b65
    rw [nbs8 hn h.1, obs, if_neg (nI_nlt (by omega) (by omega)), lead8_c hn h (by omega) (by omega) rc t (nI o) (key i (by omega)).1]; rfl
  · show fX8_leads_b65 now rc _ _ _ _ _ = _
    unfold fX8_leads_b65
    rw [nbs8 hn h.1, obs, if_pos (nI_lt (by omega) (by omega)), ald_in (by omega) (by decide), obs, obs, (key _ (Nat.le_refl _)).2 o (by omega)]
    split <;> rfl
theorem n10 : ¬ (1 : Int32) = 0 := by decide
theorem m_leads (hn : n < 17) (hn1 : 1 ≤ n) (h : R8 n m now) (hl : VL n m) (t8 : Int32) (S8 : Nat → Int32) (x y z : Int32) : ∃ r t8' S8', fX7_leads (nI n) m x y z = some r ∧ fX8_leads now t8 S8 x y z = some (r, t8', S8') := by
  have h512 := nbs_le n hn
  unfold fX7_leads fX8_leads
  rcases cell_cases hn hn1 h.1 x with ⟨a, ha, rfl, e7, e8⟩ | ⟨e7, e8⟩
  rotate_left
  · rw [e7, e8, obs, obs, if_pos rfl, if_pos rfl]; exact ⟨_, _, _, rfl, rfl⟩
  rw [e7, e8, obs, obs, if_neg n10, if_neg n10]
  rcases cell_cases hn hn1 h.1 y with ⟨o, ho, rfl, e7, e8⟩ | ⟨e7, e8⟩
  rotate_left
  · rw [e7, e8, obs, obs, if_pos rfl, if_pos rfl]; exact ⟨_, _, _, rfl, rfl⟩
  rw [e7, e8, obs, obs, if_neg n10, if_neg n10]
  rcases good_cases z with ⟨v, hv, rfl, e1, -, e2⟩ | ⟨e1, -, e2⟩
  rotate_left
  · rw [e1, e2, obs, obs, if_pos rfl, if_pos rfl]; exact ⟨_, _, _, rfl, rfl⟩
  rw [e1, e2, obs, obs, if_neg n10, if_neg n10]
  have ha2 := (cel_ij ha).1
  have ho2 := (cel_ij ho).1
  obtain ⟨S', e3⟩ := lead8_s hn h hl hv ha ho S8 0
  have e4 : lfix (fX8_leads_b33 now) (fun _ _ _ _ _ _ => none) FU 0 S8 (nI a) (nI o) (nI v) 0 = some (if fv n m v a (2 * n * n + 1) o = 0 then -2 else fv n m v a (2 * n * n + 1) o, 0, S') := by
    have key := l_acc0 (F := fX8_leads_b33 now) (z := fun _ _ _ _ _ _ => none) (fun rc i => rc 0 (clr S8 i) (nI a) (nI o) (nI v) (nI i)) 512 (by decide) (some (if fv n m v a (2 * n * n + 1) o = 0 then -2 else fv n m v a (2 * n * n + 1) o, 0, S')) (fun rc i hi => ?_) (fun rc => ?_)
    · rw [clr_0] at key
      exact key
    · show fX8_leads_b33 now rc _ _ _ _ _ _ = _
      unfold fX8_leads_b33
      rw [if_neg (show ¬ (512 : Int32) ≤ nI i from nI_ge hi (by decide)), ast_in hi (by decide), obs, obs, nI_1, clr_s]
    · show fX8_leads_b33 now rc _ _ _ _ _ _ = _
      unfold fX8_leads_b33
      rw [if_pos (show (512 : Int32) ≤ nI 512 by decide), ast_in (show a < 512 by omega) (by decide), obs]
      exact e3
  rw [e4, lead7 hn ha ho]
  by_cases hao : a = o
  · subst hao
    have e5 : fv n m v a (2 * n * n + 1) a = 1 := by
      unfold fv lv
      rw [fs_some (p := fun j => alB n m v a j a) (j := 0) (show alB n m v a 0 a = true from decide_eq_true rfl) (fun q hq => by omega) (by omega)]; rfl
    rw [if_pos rfl, e5, if_neg (by decide)]
    exact ⟨_, _, _, rfl, rfl⟩
  · rw [if_neg (fun e => hao ((nI_eq (by omega) (by omega)).mp e))]
    have hres : o2 (mnE n m v a o 3) = if fv n m v a (2 * n * n + 1) o = 0 then -2 else fv n m v a (2 * n * n + 1) o := by
      have hsnd : ∀ e r, db n m v a e = true → e < 3 → cto n m v a o 511 (a, e) 2 = some r → ∃ i, r = i + 2 ∧ alB n m v a (i + 1) o = true := fun e r hd he hc => by
        obtain ⟨i, c, u, h1, -, h3, h4, h5⟩ := cto_sound _ _ _ _ hc
        exact ⟨i, by omega, alB_succ.mpr ⟨e, c, u, he, hd, h3, h4, h5⟩⟩
      obtain ⟨k1, k2⟩ := mnE_ok (n := n) (m := m) (v := v) (a := a) (o := o) 3
      cases hlv : lv n m v a o (2 * n * n + 1) with
      | none =>
        have hall : ∀ j, alB n m v a j o = false := fun j => by
          cases h9 : alB n m v a j o with
          | false => rfl
          | true =>
            obtain ⟨L, h1, h2⟩ := pk_least (fun j => alB n m v a j o = true) ⟨j, h9⟩
            have h3 := lv_bound hn hl hv ha h1 (fun q hq => by simpa using h2 q hq)
            have h4 : lv n m v a o (2 * n * n + 1) = some L := fs_some (p := fun j => alB n m v a j o) (j := L) h1 (fun q hq => by simpa using h2 q hq) (by omega)
            rw [hlv] at h4; cases h4
        have : mnE n m v a o 3 = none := by
          cases h9 : mnE n m v a o 3 with
          | none => rfl
          | some y =>
            obtain ⟨⟨e, h1, h2, h3⟩, -⟩ := k2 y h9
            obtain ⟨i, -, h5⟩ := hsnd e y h2 h1 h3
            rw [hall] at h5; cases h5
        rw [this]
        unfold fv
        rw [hlv]; rfl
      | some K =>
        obtain ⟨q1, q2, q3⟩ := fs_lt hlv
        have hK := lv_bound hn hl hv ha q2 q3
        have hfv : fv n m v a (2 * n * n + 1) o = nI (K + 1) := by unfold fv; rw [hlv]
        rw [hfv, if_neg (nI_n0 (by omega) (by omega))]
        have hK1 : 1 ≤ K := by
          cases K with
          | zero => exact absurd (of_decide_eq_true q2).symm hao
          | succ K => omega
        obtain ⟨i, rfl⟩ : ∃ i, K = i + 1 := ⟨K - 1, by omega⟩
        obtain ⟨e, c0, t, h1, h2, h3, h4, h5⟩ := alB_succ.mp q2
        have hcomp : cto n m v a o 511 (a, e) 2 = some (i + 2) := by
          refine cto_comp (s := (c0, e)) (i := i) (u := t) (fun b hb => ?_) h4 h5 (by omega) i 0 (by omega) (c0, e) (a, e) rfl h3 rfl
          obtain ⟨u, u1, u2⟩ := wk_before h4 (show b ≤ i by omega)
          refine ⟨u, u1, fun e9 => ?_, fun e9 => ?_⟩
          · have := q3 (b + 1) (by omega)
            have h9 : alB n m v a (b + 1) o = true := alB_succ.mpr ⟨e, c0, u, h1, h2, h3, u1, e9⟩
            rw [this] at h9; cases h9
          · obtain ⟨w, w1, w2⟩ := wk_before u2 (show 1 ≤ i - b by omega)
            have sv := sv_in hn ha h1 h2 h3
            have su := wk_sv hn sv u1
            have w3 : wst n m v u = some w := by rw [wk] at w1; exact w1
            obtain ⟨sw, -, b2, -, -, b3, -⟩ := wst_some hn su w3
            rw [e9] at b2 b3
            have h9 : alB n m v a (i - b - 1 + 1) o = true := alB_succ.mpr ⟨w.2, w.1, t, sw.2.1, b3, b2, w2, h5⟩
            have := q3 (i - b - 1 + 1) (by omega)
            rw [this] at h9; cases h9
        cases h9 : mnE n m v a o 3 with
        | none => rw [k1 h9 e h1 h2] at hcomp; cases hcomp
        | some y =>
          obtain ⟨⟨e', g1, g2, g3⟩, g4⟩ := k2 y h9
          have g5 := g4 e h1 h2 _ hcomp
          obtain ⟨i', g6, g7⟩ := hsnd e' y g2 g1 g3
          have g8 : ¬ i' + 1 < i + 1 := fun g => by
            rw [q3 _ g] at g7; cases g7
          show nI y = nI (i + 1 + 1)
          rw [show y = i + 1 + 1 by omega]
    rw [hres]
    exact ⟨_, _, _, rfl, rfl⟩
end LDN
