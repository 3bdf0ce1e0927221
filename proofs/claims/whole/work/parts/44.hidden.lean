/-! hidden, longest, crossed. -/
section HID
variable {n : Nat} {m now : Nat → Int32} {v : Nat} {l k : Int32} {f g : Nat → Int64}
def mst (n : Nat) (m : Nat → Int32) (v t : Nat) (S : Nat → Int32) : Nat → Int32 := smw n m v (ws0 n v t) S (wL n m v (ws0 n v t))
/-- the marks of all walks of a kind -/
def SN (n : Nat) (m : Nat → Int32) (v : Nat) (S : Nat → Int32) : Nat → Int32 := itt (ob n m v) (mst n m v) S n
def bst (n : Nat) (m : Nat → Int32) (v t : Nat) (s : Nat × Int32) : Nat × Int32 := if wL n m v (ws0 n v t) ≤ s.1 then s else (wL n m v (ws0 n v t), nI (fb_ct (ob n m v) t))
/-- the longest walk: its length, its number -/
def BL (n : Nat) (m : Nat → Int32) (v : Nat) : Nat × Int32 := itt (ob n m v) (bst n m v) (0, -1) n
theorem sg7_S (s : Int32 × Int32 × Nat × (Nat → Int32) × (Nat → Int32) × Int32) : ∀ t, (itt (ob n m v) (sg7 n m v) s t).2.2.2.1 = itt (ob n m v) (mst n m v) s.2.2.2.1 t ∧ ((itt (ob n m v) (sg7 n m v) s t).2.2.1, (itt (ob n m v) (sg7 n m v) s t).2.2.2.2.2) = itt (ob n m v) (bst n m v) (s.2.2.1, s.2.2.2.2.2) t := by
  intro t
  induction t with
  | zero => exact ⟨rfl, rfl⟩
  | succ t ih =>
    rw [itt, itt, itt]
    cases ob n m v t with
    | false => exact ih
    | true =>
      rw [if_pos rfl, if_pos rfl, if_pos rfl, ← ih.1, ← ih.2]
      refine ⟨by simp only [sg7, mst], ?_⟩
      simp only [sg7, bst]
      generalize wL n m v (ws0 n v t) = L
      split <;> rfl
theorem sg8_S (F : Nat → Nat) (s : Int32 × Int32 × (Nat → Int32) × (Nat → Int32)) : ∀ j, (itk (fun k => sg8 n m v (F k)) s j).2.2.2 = itk (fun k => mst n m v (F k)) s.2.2.2 j := by
  intro j
  induction j with
  | zero => rfl
  | succ j ih => rw [itk, itk, ← ih]; simp only [sg8, mst]
theorem seeW7 (hn : n < 17) (hp : SPR n m) (hv : v < 3) (a b c : Int32) (S w : Nat → Int32) :
    ∃ a' b' w', fX0_seeWalks (nI n) m a b c S w (nI v) = some ((BL n m v).2, a', b', nI (BL n m v).1, SN n m v S, w') := by
  obtain ⟨a', b', w', h⟩ := seeWalks7 hn hp hv a b c S w
  have h1 := (sg7_S (n := n) (m := m) (v := v) (a, b, 0, S, w, -1) n).1
  have h2 := (sg7_S (n := n) (m := m) (v := v) (a, b, 0, S, w, -1) n).2
  have e1 : (itt (ob n m v) (sg7 n m v) (a, b, 0, S, w, -1) n).2.2.1 = (BL n m v).1 := congrArg Prod.fst h2
  have e2 : (itt (ob n m v) (sg7 n m v) (a, b, 0, S, w, -1) n).2.2.2.2.2 = (BL n m v).2 := congrArg Prod.snd h2
  rw [e1, e2, h1] at h
  exact ⟨a', b', w', h⟩
theorem layW8 (hn : n < 17) (h : R8 n m now) (hp : SPR n m) (hv : v < 3) (a b c : Int32) (S oc od w : Nat → Int32) :
    ∃ a' c' w', fX8_layWalks now a b c S oc od w (nI v) = some (a', nI (fb_ct (ob n m v) n), c', SN n m v S, gth (fun t => nI (sc n v t)) (ob n m v) oc n, gth (fun _ => nI ((v + 1) % 3)) (ob n m v) od n, w') := by
  obtain ⟨a', c', w', h⟩ := layWalks8 hn h hp hv a b c S oc od w
  rw [sg8_S, ← itt_itk (ob n m v) (mst n m v) S n n (Nat.le_refl n)] at h
  exact ⟨a', c', w', h⟩
/-- alike below 512 -/
def AG (S T : Nat → Int32) : Prop := ∀ j, j < 512 → S j = T j
theorem AG_smw {S T : Nat → Int32} (h : AG S T) (s : Nat × Nat) : ∀ i, AG (smw n m v s S i) (smw n m v s T i) := by
  intro i
  induction i with
  | zero => exact h
  | succ i ih =>
    intro j hj
    rw [smw, smw]
    unfold upd
    by_cases h1 : j = (wc n m v s i).1
    · rw [if_pos h1, if_pos h1, ← h1, ih j hj]
    · rw [if_neg h1, if_neg h1, ih j hj]
theorem AG_SN {S T : Nat → Int32} (h : AG S T) : AG (SN n m v S) (SN n m v T) := by
  unfold SN
  suffices ∀ t, AG (itt (ob n m v) (mst n m v) S t) (itt (ob n m v) (mst n m v) T t) from this n
  intro t
  induction t with
  | zero => exact h
  | succ t ih =>
    rw [itt, itt]
    cases ob n m v t with
    | false => exact ih
    | true => rw [if_pos rfl, if_pos rfl]; unfold mst; exact AG_smw ih _ _
theorem AG_clr (S T : Nat → Int32) : AG (clr S 512) (clr T 512) := fun j hj => by
  unfold clr
  rw [if_pos hj, if_pos hj]
/-- only cells are marked -/
def NZ (n : Nat) (S : Nat → Int32) : Prop := ∀ j, j < 512 → cel n j = false → S j = 0
theorem NZ_smw (hn : n < 17) {S : Nat → Int32} (h : NZ n S) {s : Nat × Nat} {L : Nat} (hs : SV n m v s) (hL : WL n m v s L) : ∀ i, i ≤ L → NZ n (smw n m v s S i) := by
  intro i
  induction i with
  | zero => intro _; exact h
  | succ i ih =>
    intro hi j hj hc
    rw [smw]
    unfold upd
    have sv := hL.sv hn hs (show i < L by omega)
    have h1 : ¬ j = (wc n m v s i).1 := fun e => by
      rw [e, sv.1] at hc; cases hc
    rw [if_neg h1]
    exact ih (by omega) j hj hc
theorem NZ_SN (hn : n < 17) (hl : VL n m) (hv : v < 3) {S : Nat → Int32} (h : NZ n S) : NZ n (SN n m v S) := by
  unfold SN
  suffices ∀ t, t ≤ n → NZ n (itt (ob n m v) (mst n m v) S t) from this n (Nat.le_refl n)
  intro t
  induction t with
  | zero => intro _; exact h
  | succ t ih =>
    intro ht
    rw [itt]
    cases ho : ob n m v t with
    | false => exact ih (by omega)
    | true => rw [if_pos rfl]; unfold mst; exact NZ_smw hn (ih (by omega)) (ws0_sv hn hv (by omega) ho) (wL_ok hn hl hv (by omega) ho) _ (Nat.le_refl _)
theorem NZ_clr (n : Nat) (S : Nat → Int32) : NZ n (clr S 512) := fun j hj _ => by
  unfold clr
  rw [if_pos hj]
theorem seenBy7 {S : Nat → Int32} {c : Nat} (hc : c < 512) : fX0_seenBy S (nI c) = some (S c) := by
  unfold fX0_seenBy
  rw [if_neg (nI_pos (by omega)), if_neg (show ¬ (512 : Int32) ≤ nI c from nI_ge hc (by decide)), ald_in hc (by decide), obs]
theorem m_hidden (hn : n < 17) (hn1 : 1 ≤ n) (h : R8 n m now) (hp : SPR n m) (hr : RW l f k g) (a b c : Int32) (S w : Nat → Int32) (a8 b8 t8 c8 : Int32) (S8 oc od w8 : Nat → Int32) (x : Int32) :
    ∃ r a' b' c' S' w' l' f' a8' b8' k' t8' c8' S8' oc' od' g' w8', fX7_hidden (nI n) m a b c S w l f x = some (r, a', b', c', S', w', l', f') ∧ fX8_hidden now a8 b8 k t8 c8 S8 oc od g w8 x = some (r, a8', b8', k', t8', c8', S8', oc', od', g', w8') ∧ RW l' f' k' g' := by
  have h512 := nbs_le n hn
  unfold fX7_hidden fX8_hidden
  rcases good_cases x with ⟨v, hv, rfl, e1, -, e2⟩ | ⟨e1, -, e2⟩
  rotate_left
  · rw [e1, e2, obs, obs, if_pos rfl, if_pos rfl]
    exact ⟨_, _, _, _, _, _, _, _, _, _, _, _, _, _, _, _, _, _, rfl, rfl, hr⟩
  rw [e1, e2, obs, obs, if_neg (by decide), if_neg (by decide), clear7, clear8, obs, obs]
  obtain ⟨a', b', w', e3⟩ := seeW7 hn hp hv a b c (clr S 512) w
  obtain ⟨a8', c8', w8', e4⟩ := layW8 hn h hp hv a8 b8 c8 (clr S8 512) oc od w8
  rw [e3, e4]
  simp only [bd6, bd7, obs]
  rw [nbs8 hn h.1]
  simp only [obs]
  have hag : AG (SN n m v (clr S 512)) (SN n m v (clr S8 512)) := AG_SN (AG_clr S S8)
  generalize SN n m v (clr S 512) = T at *
  generalize SN n m v (clr S8 512) = T8 at *
  generalize gth (fun t => nI (sc n v t)) (ob n m v) oc n = oc' at *
  generalize gth (fun _ => nI ((v + 1) % 3)) (ob n m v) od n = od' at *
  let p : Nat → Bool := fun q => fub n m q && decide (T q = 0)
  have hct : ∀ i, fb_ct p i ≤ i := fb_ct_le _
  have e7 : lfix (fX7_hidden_b39 (nI n) m) (fun _ _ _ _ _ _ _ _ _ _ => none) FU a' b' (nI (BL n m v).1) T w' l f 0 (-1) 0 = some (nI (fb_ct p (2 * n * n)), a', b', nI (BL n m v).1, T, w', nI 1, vp_updL f 0 (oI (fs p (2 * n * n))).toInt64) := by
    refine l_acc0 (F := fX7_hidden_b39 (nI n) m) (fun rc i => rc a' b' (nI (BL n m v).1) T w' l f (nI (fb_ct p i)) (oI (fs p i)) (nI i)) (2 * n * n) (by omega) _ (fun rc i hi => ?_) (fun rc => ?_)
    · show fX7_hidden_b39 (nI n) m rc _ _ _ _ _ _ _ _ _ _ = _
      unfold fX7_hidden_b39 fX7_hidden_b95
      rw [nbs7 n hn, obs, if_neg (nI_ge hi (by omega)), turn7 hn hi, obs, seenBy7 (by omega)]
      simp only [obs, nI_1]
      rw [fb_ct_succ, fs]
      have hfs : oI (fs p i) = -1 ↔ fs p i = none := oI_none (fun c hc => by have := (fs_lt hc).1; omega)
      by_cases h1 : tn n m i = 0
      · rw [if_pos h1, show p i = false by simp [p, fub, h1]]
        cases fs p i <;> rfl
      · rw [if_neg h1]
        by_cases h2 : T i = 0
        · rw [if_pos h2, show p i = true by simp [p, fub, h1, h2]]
          cases h5 : fs p i with
          | none => rw [if_pos oIn]; rfl
          | some j =>
            rw [h5] at hfs
            rw [if_neg (fun e => by have := hfs.mp e; cases this)]; rfl
        · rw [if_neg h2, show p i = false by simp [p, h2]]
          cases fs p i <;> rfl
    · show fX7_hidden_b39 (nI n) m rc _ _ _ _ _ _ _ _ _ _ = _
      unfold fX7_hidden_b39
      rw [nbs7 n hn, obs, if_pos (nI_le (Nat.le_refl _) (by omega)), tell7]
      simp only [bd2, obs]
  have e8 : lfix (fX8_hidden_b35 now) (fun _ _ _ _ _ _ _ _ _ _ _ _ _ => none) FU a8' (nI (fb_ct (ob n m v) n)) k 0 c8' T8 oc' od' g w8' 0 (-1) (nI (2 * n * n) - 1) = some (nI (fb_ct p (2 * n * n)), a8', nI (fb_ct (ob n m v) n), nI 1, 0, c8', T8, oc', od', vp_updL g 0 (oI (fs p (2 * n * n))).toInt64, w8') := by
    have key := l_dn (F := fX8_hidden_b35 now) (z := fun _ _ _ _ _ _ _ _ _ _ _ _ _ => none) (fun rc c => rc a8' (nI (fb_ct (ob n m v) n)) k 0 c8' T8 oc' od' g w8' (nI (fb_ct p (2 * n * n) - fb_ct p c)) (oI (fsd p c (2 * n * n - c))) (nI c - 1)) (some (nI (fb_ct p (2 * n * n)), a8', nI (fb_ct (ob n m v) n), nI 1, 0, c8', T8, oc', od', vp_updL g 0 (oI (fs p (2 * n * n))).toInt64, w8')) (fun rc => ?_) (2 * n * n) FU (fun rc c hc => ?_) (fu_lt (by omega))
    · rw [Nat.sub_self, Nat.sub_self] at key
      exact key
    · show fX8_hidden_b35 now rc _ _ _ _ _ _ _ _ _ _ _ _ _ = _
      unfold fX8_hidden_b35
      rw [if_pos (show nI 0 - 1 < 0 by decide), fsd_fs, tell8_0]
      simp only [bd2, obs]
      rfl
    · show fX8_hidden_b35 now rc _ _ _ _ _ _ _ _ _ _ _ _ _ = _
      unfold fX8_hidden_b35
      rw [show nI (c + 1) - 1 = nI c from nI_pred c, if_neg (nI_pos (by omega)), isc8 hn h.1 hc, obs, ifb]
      simp only [obs]
      rw [show nI c + -1 = nI c - 1 from (Int32.sub_eq_add_neg _ _).symm]
      rw [ct_dn _ hc, fsd_step _ hc]
      cases hcl : cel n c with
      | false => rw [if_neg (by decide), show p c = false by simp [p, fub_cel hcl]]; rfl
      | true =>
        rw [if_pos rfl, full8 hn h hp.vl hcl, obs, ifb, ald_in (by omega) (by decide), obs, ← hag c (by omega)]
        cases hf : fub n m c with
        | false => rw [if_neg (by decide), show p c = false by simp [p, hf]]; rfl
        | true =>
          rw [if_pos rfl]
          by_cases h4 : T c = 0
          · rw [if_pos h4, show p c = true by simp [p, hf, h4]]; rfl
          · rw [if_neg h4, show p c = false by simp [p, h4]]; rfl
  rw [e7, e8]
  exact ⟨_, _, _, _, _, _, _, _, _, _, _, _, _, _, _, _, _, _, rfl, rfl, RW.t1 f g _⟩
end HID
