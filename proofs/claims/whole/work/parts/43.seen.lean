/-! Which cells walks go through. -/
section SEE
/-- steps over the places that p names, and over these by their numbers -/
def itt {σ : Type} (p : Nat → Bool) (st : Nat → σ → σ) (s : σ) : Nat → σ
  | 0 => s
  | t + 1 => if p t then st t (itt p st s t) else itt p st s t
def itk {σ : Type} (st : Nat → σ → σ) (s : σ) : Nat → σ
  | 0 => s
  | k + 1 => st k (itk st s k)
/-- the place of number k -/
def tk (p : Nat → Bool) (n k : Nat) : Nat := (fs (fun t => p t && decide (fb_ct p t = k)) n).getD 0
theorem tk_ct {p : Nat → Bool} {n t : Nat} (ht : t < n) (hp : p t = true) : tk p n (fb_ct p t) = t := by
  unfold tk
  rw [fs_some (j := t) (by simp [hp]) (fun q hq => ?_) ht]
  · rfl
  · cases h : p q with
    | false => rfl
    | true =>
      have h1 : fb_ct p (q + 1) = fb_ct p q + 1 := by rw [fb_ct_succ, h]; rfl
      have h2 := fb_ct_mono p (show q + 1 ≤ t from hq)
      have h3 : ¬ fb_ct p q = fb_ct p t := by omega
      simp [h3]
theorem itt_itk {σ : Type} (p : Nat → Bool) (st : Nat → σ → σ) (s : σ) (n : Nat) : ∀ t, t ≤ n → itt p st s t = itk (fun k => st (tk p n k)) s (fb_ct p t) := by
  intro t
  induction t with
  | zero => intro _; rfl
  | succ t ih =>
    intro h
    rw [itt, ih (by omega), fb_ct_succ]
    cases hp : p t with
    | false => rw [if_neg (by decide)]; rfl
    | true =>
      rw [if_pos rfl, if_pos rfl, itk, tk_ct (by omega) hp]
variable {n : Nat} {m now : Nat → Int32} {v : Nat} {l k : Int32} {f g : Nat → Int64}
/-- the length of the way from s -/
def wL (n : Nat) (m : Nat → Int32) (v : Nat) (s : Nat × Nat) : Nat := (fs (fun i => (wk n m v s i).isNone) 513).getD 0
theorem wL_of {s : Nat × Nat} {L : Nat} (h : WL n m v s L) : wL n m v s = L := by
  unfold wL
  rw [fs_some (j := L) (by rw [h.2.2.1]; rfl) (fun q hq => ?_) (by have := h.2.1; omega)]
  · rfl
  · obtain ⟨t, ht⟩ := h.2.2.2 q hq
    rw [ht]; rfl
theorem wL_ok (hn : n < 17) (hl : VL n m) (hv : v < 3) {t : Nat} (ht : t < n) (ho : ob n m v t = true) : WL n m v (ws0 n v t) (wL n m v (ws0 n v t)) := by
  obtain ⟨L, hL⟩ := ws0_L hn hl hv ht ho
  rw [wL_of hL]; exact hL
/-- the first i cells of a way marked -/
def smw (n : Nat) (m : Nat → Int32) (v : Nat) (s : Nat × Nat) (S : Nat → Int32) : Nat → Nat → Int32
  | 0 => S
  | i + 1 => upd (smw n m v s S i) (wc n m v s i).1 (smw n m v s S i (wc n m v s i).1 ||| ((1 : Int32) <<< (nI v &&& 31)))
theorem seeWay7 (hn : n < 17) {s : Nat × Nat} {L : Nat} (hs : SV n m v s) (hL : WL n m v s L) (w S : Nat → Int32) : fX0_seeWay (nI L) (wy n m v s w L) S (nI v) = some (smw n m v s S L) := by
  have h512 := nbs_le n hn
  have hL2 := hL.2.1
  unfold fX0_seeWay
  refine l_acc0 (F := fX0_seeWay_b2 (nI L) (wy n m v s w L)) (fun rc i => rc (smw n m v s S i) (nI v) (nI i)) L (by omega) _ (fun rc i hi => ?_) (fun rc => ?_)
  · show fX0_seeWay_b2 (nI L) (wy n m v s w L) rc _ _ _ = _
    have sv := hL.sv hn hs hi
    have hc := (cel_ij sv.1).1
    unfold fX0_seeWay_b2 fX0_cellOfWay
    rw [if_neg (nI_ge hi (by omega)), if_neg (nI_pos (by omega)), if_neg (nI_ge hi (by omega)), if_neg (show ¬ (512 : Int32) ≤ nI i from nI_ge (show i < 512 by omega) (by decide)), ald_wy hL2 hi, obs, obs, if_neg (nI_pos (by omega)), if_neg (show ¬ (512 : Int32) ≤ nI (wc n m v s i).1 from nI_ge (show (wc n m v s i).1 < 512 by omega) (by decide)), ald_in (by omega) (by decide), obs, ast_in (by omega) (by decide), obs, obs, nI_1]
    rfl
  · show fX0_seeWay_b2 (nI L) (wy n m v s w L) rc _ _ _ = _
    unfold fX0_seeWay_b2
    rw [if_pos (nI_le (Nat.le_refl _) (by omega))]
/-- what one walk leaves: came out, length, way, marks -/
def sg8 (n : Nat) (m : Nat → Int32) (v t : Nat) (s : Int32 × Int32 × (Nat → Int32) × (Nat → Int32)) : Int32 × Int32 × (Nat → Int32) × (Nat → Int32) :=
  (wx n m v (ws0 n v t) (wL n m v (ws0 n v t)), nI (wL n m v (ws0 n v t)), wy n m v (ws0 n v t) s.2.2.1 (wL n m v (ws0 n v t)), smw n m v (ws0 n v t) s.2.2.2 (wL n m v (ws0 n v t)))
theorem layWalks8 (hn : n < 17) (h : R8 n m now) (hp : SPR n m) (hv : v < 3) (a b c : Int32) (S oc od w : Nat → Int32) :
    ∃ a' c' w', fX8_layWalks now a b c S oc od w (nI v) = some (a', nI (fb_ct (ob n m v) n), c', (itk (fun k => sg8 n m v (tk (ob n m v) n k)) (a, c, w, S) (fb_ct (ob n m v) n)).2.2.2, gth (fun t => nI (sc n v t)) (ob n m v) oc n, gth (fun _ => nI ((v + 1) % 3)) (ob n m v) od n, w') := by
  have h512 := nbs_le n hn
  have hcn := fb_ct_le (ob n m v) n
  unfold fX8_layWalks
  rw [layOuter8 hn h hv]
  simp only [bd3, obs]
  refine ⟨(itk (fun k => sg8 n m v (tk (ob n m v) n k)) (a, c, w, S) (fb_ct (ob n m v) n)).1, (itk (fun k => sg8 n m v (tk (ob n m v) n k)) (a, c, w, S) (fb_ct (ob n m v) n)).2.1, (itk (fun k => sg8 n m v (tk (ob n m v) n k)) (a, c, w, S) (fb_ct (ob n m v) n)).2.2.1, ?_⟩
  have hgo := fun s L hs hL a b w => goIn8 (m := m) (v := v) (s := s) (L := L) hn h hp hv hs hL oc od a b w
  have hk : ∀ j, j < fb_ct (ob n m v) n → tk (ob n m v) n j < n ∧ ob n m v (tk (ob n m v) n j) = true ∧ gth (fun t => nI (sc n v t)) (ob n m v) oc n j = nI (sc n v (tk (ob n m v) n j)) ∧ gth (fun _ => nI ((v + 1) % 3)) (ob n m v) od n j = nI ((v + 1) % 3) := fun j hj => by
    obtain ⟨u, h1, h2, h3⟩ := fb_ct_kth hj
    have e := tk_ct h1 h2
    rw [h3] at e
    rw [e]
    refine ⟨h1, h2, ?_, ?_⟩
    · rw [← h3, gth_at _ _ oc h2 h1]
    · rw [← h3, gth_at _ _ od h2 h1]
  generalize gth (fun t => nI (sc n v t)) (ob n m v) oc n = oc' at *
  generalize gth (fun _ => nI ((v + 1) % 3)) (ob n m v) od n = od' at *
  refine l_acc0 (F := fX8_layWalks_b12 now) (fun rc i => rc (itk (fun k => sg8 n m v (tk (ob n m v) n k)) (a, c, w, S) i).1 (nI (fb_ct (ob n m v) n)) (itk (fun k => sg8 n m v (tk (ob n m v) n k)) (a, c, w, S) i).2.1 (itk (fun k => sg8 n m v (tk (ob n m v) n k)) (a, c, w, S) i).2.2.2 oc' od' (itk (fun k => sg8 n m v (tk (ob n m v) n k)) (a, c, w, S) i).2.2.1 (nI v) (nI (fb_ct (ob n m v) n)) (nI i)) (fb_ct (ob n m v) n) (by omega) _ (fun rc i hi => ?_) (fun rc => ?_)
  · show fX8_layWalks_b12 now rc _ _ _ _ _ _ _ _ _ _ = _
    obtain ⟨q1, q2, q3, q4⟩ := hk i hi
    have hs := ws0_sv (m := m) hn hv q1 q2
    have hL := wL_ok hn hp.vl hv q1 q2
    have hL2 := hL.2.1
    unfold fX8_layWalks_b12
    have e := hgo _ _ hs hL (itk (fun k => sg8 n m v (tk (ob n m v) n k)) (a, c, w, S) i).1 (itk (fun k => sg8 n m v (tk (ob n m v) n k)) (a, c, w, S) i).2.1 (itk (fun k => sg8 n m v (tk (ob n m v) n k)) (a, c, w, S) i).2.2.1
    rw [if_neg (nI_ge hi (by omega)), ald_in (by omega) (by decide), ald_in (by omega) (by decide), obs, obs, q3, q4]
    rw [show nI (ws0 n v (tk (ob n m v) n i)).1 = nI (sc n v (tk (ob n m v) n i)) from rfl, show nI (ws0 n v (tk (ob n m v) n i)).2 = nI ((v + 1) % 3) from rfl] at e
    rw [e]
    simp only [bd3, obs]
    rw [itk]
    generalize itk (fun k => sg8 n m v (tk (ob n m v) n k)) (a, c, w, S) i = σ
    unfold sg8
    simp only
    refine l_acc0 (F := fX8_layWalks_b37 now rc) (z := fun _ _ _ _ _ _ _ _ _ _ _ => none) (fun r j => r (wx n m v (ws0 n v (tk (ob n m v) n i)) (wL n m v (ws0 n v (tk (ob n m v) n i)))) (nI (fb_ct (ob n m v) n)) (nI (wL n m v (ws0 n v (tk (ob n m v) n i)))) (smw n m v (ws0 n v (tk (ob n m v) n i)) σ.2.2.2 j) oc' od' (wy n m v (ws0 n v (tk (ob n m v) n i)) σ.2.2.1 (wL n m v (ws0 n v (tk (ob n m v) n i)))) (nI v) (nI (fb_ct (ob n m v) n)) (nI i) (nI j)) (wL n m v (ws0 n v (tk (ob n m v) n i))) (by omega) _ (fun r j hj => ?_) (fun r => ?_)
    · show fX8_layWalks_b37 now rc r _ _ _ _ _ _ _ _ _ _ _ = _
      have sv := hL.sv hn hs hj
      have hc := (cel_ij sv.1).1
      unfold fX8_layWalks_b37
      rw [if_neg (nI_ge hj (by omega)), ald_wy hL2 hj, obs, ald_in (by omega) (by decide), obs, ast_in (by omega) (by decide), obs, obs, nI_1]
      rfl
    · show fX8_layWalks_b37 now rc r _ _ _ _ _ _ _ _ _ _ _ = _
      unfold fX8_layWalks_b37
      rw [if_pos (nI_le (Nat.le_refl _) (by omega)), obs, nI_1]
  · show fX8_layWalks_b12 now rc _ _ _ _ _ _ _ _ _ _ = _
    unfold fX8_layWalks_b12
    rw [if_pos (nI_le (Nat.le_refl _) (by omega))]
/-- what one walk leaves in the class: came out, length, longest, marks, way, the longest one's number -/
def sg7 (n : Nat) (m : Nat → Int32) (v t : Nat) (s : Int32 × Int32 × Nat × (Nat → Int32) × (Nat → Int32) × Int32) : Int32 × Int32 × Nat × (Nat → Int32) × (Nat → Int32) × Int32 :=
  (bI (wo n m v (ws0 n v t) (wL n m v (ws0 n v t))), nI (wL n m v (ws0 n v t)), (if wL n m v (ws0 n v t) ≤ s.2.2.1 then s.2.2.1 else wL n m v (ws0 n v t)), smw n m v (ws0 n v t) s.2.2.2.1 (wL n m v (ws0 n v t)), wy n m v (ws0 n v t) s.2.2.2.2.1 (wL n m v (ws0 n v t)), (if wL n m v (ws0 n v t) ≤ s.2.2.1 then s.2.2.2.2.2 else nI (fb_ct (ob n m v) t)))
theorem wL_le (n : Nat) (m : Nat → Int32) (v : Nat) (s : Nat × Nat) : wL n m v s ≤ 512 := by
  unfold wL
  cases h : fs (fun i => (wk n m v s i).isNone) 513 with
  | none => exact Nat.zero_le _
  | some j => have := (fs_lt h).1; show j ≤ 512; omega
theorem sg7_le (n : Nat) (m : Nat → Int32) (v : Nat) (s : Int32 × Int32 × Nat × (Nat → Int32) × (Nat → Int32) × Int32) (hs : s.2.2.1 ≤ 512) : ∀ t, (itt (ob n m v) (sg7 n m v) s t).2.2.1 ≤ 512 := by
  intro t
  induction t with
  | zero => exact hs
  | succ t ih =>
    rw [itt]
    split
    · have := wL_le n m v (ws0 n v t)
      unfold sg7
      simp only
      split
      · exact ih
      · exact this
    · exact ih
theorem seeWalks7 (hn : n < 17) (hp : SPR n m) (hv : v < 3) (a b c : Int32) (S w : Nat → Int32) :
    ∃ a' b' w', fX0_seeWalks (nI n) m a b c S w (nI v) = some ((itt (ob n m v) (sg7 n m v) (a, b, 0, S, w, -1) n).2.2.2.2.2, a', b', nI (itt (ob n m v) (sg7 n m v) (a, b, 0, S, w, -1) n).2.2.1, (itt (ob n m v) (sg7 n m v) (a, b, 0, S, w, -1) n).2.2.2.1, w') := by
  unfold fX0_seeWalks
  refine ⟨(itt (ob n m v) (sg7 n m v) (a, b, 0, S, w, -1) n).1, (itt (ob n m v) (sg7 n m v) (a, b, 0, S, w, -1) n).2.1, (itt (ob n m v) (sg7 n m v) (a, b, 0, S, w, -1) n).2.2.2.2.1, ?_⟩
  refine l_acc0 (F := fX0_seeWalks_b13 (nI n) m) (fun rc i => rc (itt (ob n m v) (sg7 n m v) (a, b, 0, S, w, -1) i).1 (itt (ob n m v) (sg7 n m v) (a, b, 0, S, w, -1) i).2.1 (nI (itt (ob n m v) (sg7 n m v) (a, b, 0, S, w, -1) i).2.2.1) (itt (ob n m v) (sg7 n m v) (a, b, 0, S, w, -1) i).2.2.2.1 (itt (ob n m v) (sg7 n m v) (a, b, 0, S, w, -1) i).2.2.2.2.1 (nI v) (itt (ob n m v) (sg7 n m v) (a, b, 0, S, w, -1) i).2.2.2.2.2 (nI (fb_ct (ob n m v) i)) (nI i)) n (by omega) _ (fun rc i hi => ?_) (fun rc => ?_)
  · show fX0_seeWalks_b13 (nI n) m rc _ _ _ _ _ _ _ _ _ = _
    unfold fX0_seeWalks_b13 fX0_seeWalks_b81
    rw [if_neg (nI_ge hi (by omega)), outer7 hn hv hi, obs, ifb, itt, fb_ct_succ]
    have hle := sg7_le n m v (a, b, 0, S, w, -1) (Nat.zero_le 512) i
    cases ho : ob n m v i with
    | false =>
      rw [if_neg (by decide), obs, nI_1]; rfl
    | true =>
      have hs := ws0_sv (m := m) hn hv hi ho
      have hL := wL_ok hn hp.vl hv hi ho
      have hL2 := hL.2.1
      have e := follow7 hn hs hL (itt (ob n m v) (sg7 n m v) (a, b, 0, S, w, -1) i).1 (itt (ob n m v) (sg7 n m v) (a, b, 0, S, w, -1) i).2.1 (itt (ob n m v) (sg7 n m v) (a, b, 0, S, w, -1) i).2.2.2.2.1
      rw [show nI (ws0 n v i).1 = nI (sc n v i) from rfl, show nI (ws0 n v i).2 = nI ((v + 1) % 3) from rfl] at e
      rw [if_pos rfl, if_pos rfl, if_pos rfl, sdc7 n hn v hv i hi, obs, sde7 hv, obs, e]
      simp only [bd3, obs, seeWay7 hn hs hL, nI_1]
      generalize itt (ob n m v) (sg7 n m v) (a, b, 0, S, w, -1) i = σ at *
      unfold sg7
      simp only
      by_cases h9 : wL n m v (ws0 n v i) ≤ σ.2.2.1
      · rw [if_pos (nI_le h9 (by omega)), if_pos h9, if_pos h9]
      · rw [if_neg (nI_ge (show σ.2.2.1 < wL n m v (ws0 n v i) by omega) (by omega)), if_neg h9, if_neg h9]
  · show fX0_seeWalks_b13 (nI n) m rc _ _ _ _ _ _ _ _ _ = _
    unfold fX0_seeWalks_b13
    rw [if_pos (nI_le (Nat.le_refl _) (by omega))]
/-- cleared -/
def clr (S : Nat → Int32) (i : Nat) : Nat → Int32 := fun j => if j < i then 0 else S j
theorem clr_s (S : Nat → Int32) (i : Nat) : upd (clr S i) i 0 = clr S (i + 1) := by
  funext j
  unfold upd clr
  by_cases h1 : j = i
  · simp [h1]
  · by_cases h2 : j < i
    · simp [h1, h2, show j < i + 1 by omega]
    · simp [h1, h2, show ¬ j < i + 1 by omega]
theorem clr_0 (S : Nat → Int32) : clr S 0 = S := by funext j; simp [clr]
theorem clear7 (S : Nat → Int32) : fX0_clearSeen S = some (clr S 512) := by
  unfold fX0_clearSeen fJ7_fill_53178
  have key := l_acc0 (F := fJ7_fill_53178_b5) (z := fun _ _ _ _ => none) (fun rc i => rc (clr S i) 0 (nI i) (nI 512)) 512 (by decide) (some (clr S 512)) (fun rc i hi => ?_) (fun rc => ?_)
  · rw [clr_0] at key
    rw [show lfix fJ7_fill_53178_b5 (fun _ _ _ _ => none) FU S 0 0 512 = some (clr S 512) from key, obs]
  · show fJ7_fill_53178_b5 rc _ _ _ _ = _
    unfold fJ7_fill_53178_b5
    rw [if_neg (nI_ge hi (by decide)), ast_in hi (by decide), obs, obs, nI_1, clr_s]
  · show fJ7_fill_53178_b5 rc _ _ _ _ = _
    unfold fJ7_fill_53178_b5
    rw [if_pos (nI_le (Nat.le_refl _) (by decide))]
theorem clear8 (S : Nat → Int32) : fX8_clearWalks S = some (clr S 512) := by
  unfold fX8_clearWalks
  have key := l_acc0 (F := fX8_clearWalks_b2) (z := fun _ _ => none) (fun rc i => rc (clr S i) (nI i)) 512 (by decide) (some (clr S 512)) (fun rc i hi => ?_) (fun rc => ?_)
  · rw [clr_0] at key
    exact key
  · show fX8_clearWalks_b2 rc _ _ = _
    unfold fX8_clearWalks_b2
    rw [if_neg (show ¬ (512 : Int32) ≤ nI i from nI_ge hi (by decide)), ast_in hi (by decide), obs, obs, nI_1, clr_s]
  · show fX8_clearWalks_b2 rc _ _ = _
    unfold fX8_clearWalks_b2
    rw [if_pos (show (512 : Int32) ≤ nI 512 by decide)]
end SEE
