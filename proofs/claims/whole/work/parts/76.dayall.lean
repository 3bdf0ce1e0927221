/-! day. -/
section DYA
variable {L : Nat} {B : Nat → Nat} {sg tx : Nat → Int32} {z kd tr : Int32} {m o wd now : Nat → Int32} {P : Nat → Int64} {nx sz : Nat} {hd hd' : Nat → Option SD} {U iK K : Nat → Int32} {l k8 : Int32} {f g : Nat → Int64}
theorem day_fin (h : SR z kd tr m o wd P now) (hH : HR nx sz hd U) (hK : KR hd iK K) (hi : ∀ i, ¬ i = nx → hd' i = hd i) {d : SD} (hdn : hd' nx = some d) {now0 W : Nat → Int32} (hs0 : SRd d now0) (hW : ∀ q, q < 189 → W q = now0 q) {k M : Nat} (hkM : k ≤ M) (hM : M < 100) (n3 : Int32) (hn3 : n3 = if k < M then 1 else 0) (a b c e at8 l8 : Int32) (rd : Nat → Int32) (tl : Int32) :
    ∃ nx' sz' a' b' c' e' l' f' k8' uM' g' U', fX7_day_b105 tr wd sg (nI nx) (nI sz) a b c z e m kd o P l f tl hd' (nI k) n3 = some (nI k, nx', sz', a', b', c', z, e', m, kd, o, P, l', f', 0, hd') ∧ fX8_day_b83 tx at8 l8 k8 0 0 (nI sz) (-1) now rd g U W (nI M) (nI k) = some (nI k, at8, l8, k8', 0, 0, uM', -1, now, rd, g', U', W) ∧ AF (nI k) (nI k) z kd tr nx' sz' m o wd now P hd' uM' U' iK K ∧ RW l' f' k8' g' := by
  have hx := hH.1
  have hs := hH.2.1
  have hSR := h
  obtain ⟨n, hn1, hn, rfl, hR, hS, hU⟩ := h
  have e7 : ∀ (p q : Int32) (s : Int64), fX7_day_b137 tr wd sg p q a b c (nI n) e m kd o P l f 0 hd' (nI k) s = some (nI k, p, q, oI (fs (fub n m) (2 * n * n)), nI (fmn n m), oI (ls (fub n m) (2 * n * n)), nI n, tsm n m, m, kd, o, P, nI 2, vp_updL (vp_updL f 0 s) 1 (nI (fmn n m)).toInt64, 0, hd') := fun p q s => by
    unfold fX7_day_b137
    rw [fullCells7 hn]
    simp only [bd5, obs, tell7_2, bd2]
  have e8 : ∀ (u : Int32) (UU : Nat → Int32) (s : Int64), fX8_day_b107 tx at8 l8 0 0 0 u (-1) now rd g UU W (nI k) s = some (nI k, at8, l8, nI 2, 0, 0, u, -1, now, rd, vp_updL (vp_updL g 0 s) 1 (nI (fmn n m)).toInt64, UU, W) := fun u UU s => by
    unfold fX8_day_b107
    rw [tell8_0]
    simp only [bd2, obs, fullMany8 hn hR hS.vl, tell8 (q := 1) (by decide)]
  have e7' : ∀ (p q : Int32), fX7_day_b116 tr wd sg p q a b c (nI n) e m kd o P l f tl hd' (nI k) n3 = some (nI k, p, q, oI (fs (fub n m) (2 * n * n)), nI (fmn n m), oI (ls (fub n m) (2 * n * n)), nI n, tsm n m, m, kd, o, P, nI 2, vp_updL (vp_updL f 0 (if k < M then 1 else 0)) 1 (nI (fmn n m)).toInt64, 0, hd') := fun p q => by
    unfold fX7_day_b116
    rw [e7, e7, hn3]
    by_cases hlt : k < M
    · rw [if_pos hlt, if_neg n10, if_pos hlt]
    · rw [if_neg hlt, if_pos rfl, if_neg hlt]
  have e8' : ∀ (u : Int32) (UU : Nat → Int32), fX8_day_b91 tx at8 l8 k8 0 0 u (-1) now rd g UU W (nI M) (nI k) = some (nI k, at8, l8, nI 2, 0, 0, u, -1, now, rd, vp_updL (vp_updL g 0 (if k < M then 1 else 0)) 1 (nI (fmn n m)).toInt64, UU, W) := fun u UU => by
    unfold fX8_day_b91
    rw [e8, e8]
    by_cases hlt : k < M
    · rw [if_neg (nI_ge hlt (by omega)), if_pos hlt]
    · rw [if_pos (nI_le (by omega) (by omega)), if_neg hlt]
  unfold fX7_day_b105 fX8_day_b83
  by_cases hk0 : k = 0
  · have hle : nI k ≤ 0 := by rw [hk0]; decide
    rw [if_pos hle, if_pos hle, e7', e8']
    exact ⟨_, _, _, _, _, _, _, _, _, _, _, _, rfl, rfl, ⟨rfl, hSR, ⟨nx, sz, rfl, rfl, rfl, HR_noted hH hi⟩, KR_noted hK hx hi⟩, RW.t2 f g _ _⟩
  · have hle : ¬ nI k ≤ 0 := nI_ge (a := 0) (by omega) (by omega)
    rw [if_neg hle, if_neg hle, hold7 hx hs, note8 _ _ hs]
    simp only [bd2, obs]
    rw [e7', e8']
    exact ⟨_, _, _, _, _, _, _, _, _, _, _, _, rfl, rfl, ⟨rfl, hSR, ⟨_, _, rfl, rfl, rfl, HR_hold hH hi hdn hs0 hW⟩, KR_noted hK hx hi⟩, RW.t2 f g _ _⟩
theorem day_run (hT : TX L B sg tx) (hH : HR nx sz hd U) (hK : KR hd iK K) (hi : ∀ i, ¬ i = nx → hd' i = hd i) {d : SD} (hdn : hd' nx = some d) {now0 W : Nat → Int32} (hs0 : SRd d now0) (hW : ∀ q, q < 189 → W q = now0 q) {M : Nat} (hM : M < 100) (hps : psA B M = L) (hg : ∀ j, j < M → gdA L B j) {rd : Nat → Int32} (hrd : RAx L B M rd) (at8 l8 : Int32) : ∀ (dd k fuel : Nat), k + dd = M → dd + 1 < fuel → ∀ (z kd : Int32) (m o now : Nat → Int32) (P : Nat → Int64) (a b c e : Int32), SR z kd tr m o wd P now →
    ∃ r nx' sz' a' b' c' z' e' m' kd' o' P' l' f' k8' uM' now' g' U', lfix (fX7_day_b40 tr wd sg) (fun _ _ _ _ _ _ _ _ _ _ _ _ _ _ _ _ _ _ => none) fuel (nI nx) (nI sz) a b c z e m kd o P l f (nI L) hd' (nI k) 0 (nI (psA B k)) = some (r, nx', sz', a', b', c', z', e', m', kd', o', P', l', f', 0, hd') ∧ lfix (fX8_day_b62 tx) (fun _ _ _ _ _ _ _ _ _ _ _ _ _ _ => none) fuel at8 l8 k8 0 0 (nI sz) (-1) now rd g U W (nI M) (nI k) = some (r, at8, l8, k8', 0, 0, uM', -1, now', rd, g', U', W) ∧ AF r r z' kd' tr nx' sz' m' o' wd now' P' hd' uM' U' iK K ∧ RW l' f' k8' g' := by
  have hL := hT.1
  intro dd
  induction dd with
  | zero =>
    intro k fuel hk hf z kd m o now P a b c e h
    obtain ⟨q, rfl⟩ : ∃ q, fuel = q + 1 := ⟨fuel - 1, by omega⟩
    have hkM : k = M := by omega
    subst hkM
    rw [lfs (fX7_day_b40 tr wd sg), lfs (fX8_day_b62 tx)]
    generalize lfix (fX7_day_b40 tr wd sg) _ q = R7
    generalize lfix (fX8_day_b62 tx) _ q = R8'
    unfold fX7_day_b40 fX8_day_b62
    rw [if_pos (nI_le (by omega) (by omega)), if_pos (nI_le (Nat.le_refl _) (by omega))]
    obtain ⟨nx', sz', a', b', c', e', l', f', k8', uM', g', U', x1, x2, x3, x4⟩ := day_fin (l := l) (f := f) (k8 := k8) (g := g) (sg := sg) (tx := tx) h hH hK hi hdn hs0 hW (Nat.le_refl k) hM 0 (by rw [if_neg (Nat.lt_irrefl k)]) a b c e at8 l8 rd (nI L)
    exact ⟨_, nx', sz', a', b', c', _, e', _, _, _, _, l', f', k8', uM', _, g', U', x1, x2, x3, x4⟩
  | succ dd ih =>
    intro k fuel hk hf z kd m o now P a b c e h
    obtain ⟨q, rfl⟩ : ∃ q, fuel = q + 1 + 1 := ⟨fuel - 2, by omega⟩
    have hgk := hg k (by omega)
    have hp := hgk.1
    have hB := (hT.2 _ hp).1
    have hch : chT L B (psA B k) = nI (B (psA B k)) := if_pos hp
    have hnd := nd_le (B (psA B k))
    have i5 : (5 : Int32) * nI k = nI (5 * k) := by rw [show (5 : Int32) = nI 5 from rfl, pk_mul]
    rw [lfs (fX7_day_b40 tr wd sg) _ (q + 1), lfs (fX8_day_b62 tx) _ (q + 1)]
    have IH := fun z kd m o now P a b c e h => ih (k + 1) (q + 1) (by omega) (by omega) z kd m o now P a b c e h
    have over7 : ∀ (a b c e : Int32), lfix (fX7_day_b40 tr wd sg) (fun _ _ _ _ _ _ _ _ _ _ _ _ _ _ _ _ _ _ => none) (q + 1) (nI nx) (nI sz) a b c z e m kd o P l f (nI L) hd' (nI k) 1 (nI (psA B (k + 1))) = fX7_day_b105 tr wd sg (nI nx) (nI sz) a b c z e m kd o P l f (nI L) hd' (nI k) 1 := fun a b c e => by
      rw [lfs]
      generalize lfix (fX7_day_b40 tr wd sg) _ q = R7
      unfold fX7_day_b40
      rw [if_neg n10, ite_self]
    generalize lfix (fX7_day_b40 tr wd sg) (fun _ _ _ _ _ _ _ _ _ _ _ _ _ _ _ _ _ _ => none) (q + 1) = R7 at *
    generalize lfix (fX8_day_b62 tx) (fun _ _ _ _ _ _ _ _ _ _ _ _ _ _ => none) (q + 1) = R8' at *
    have adv : ∀ (a b c z e : Int32) (m : Nat → Int32) (kd : Int32) (o : Nat → Int32) (P : Nat → Int64) (s n3 : Int32), fX7_day_b81 tr wd sg R7 (nI nx) (nI sz) a b c z e m kd o P l f (nI L) hd' n3 (nI (psA B k)) (nI k) s = R7 (nI nx) (nI sz) a b c z e m kd o P l f (nI L) hd' (nI k + s) n3 (nI (psA B (k + 1))) := fun a b c z e m kd o P s n3 => by
      unfold fX7_day_b81
      rw [obs, at7 hT (by omega), hch, obs, nd7 hB, obs, obs, show (1 : Int32) + nI (ndA (B (psA B k))) = nI (1 + ndA (B (psA B k))) from nI_add 1 _, nI_add]
      congr 1
      rw [psA, Nat.add_assoc]
    unfold fX7_day_b40 fX8_day_b62
    rw [if_neg (nI_ge hp (by omega)), if_pos rfl, if_neg (nI_ge (show k < M by omega) (by omega)), i5]
    rcases act_step hT h (k := k) (by omega) hgk (hrd k (by omega)) a b c e with ⟨r, x1, x2, x3⟩ | ⟨r, a', b', c', z', e', m', kd', o', P', now', x1, x2, x3, x4⟩
    · rw [x2, x3]
      simp only [bd10, bd2, obs]
      rw [if_neg (nle0 x1), if_pos trivial]
      unfold fX7_day_b70
      rw [if_neg n10, adv, Int32.add_zero, over7]
      obtain ⟨nx', sz', a', b', c', e', l', f', k8', uM', g', U', y1, y2, y3, y4⟩ := day_fin (l := l) (f := f) (k8 := k8) (g := g) (sg := sg) (tx := tx) h hH hK hi hdn hs0 hW (show k ≤ M by omega) hM 1 (by rw [if_pos (by omega)]) a b c e at8 l8 rd (nI L)
      exact ⟨_, nx', sz', a', b', c', _, e', _, _, _, _, l', f', k8', uM', _, g', U', y1, y2, y3, y4⟩
    · rw [x2, x3]
      simp only [bd10, bd2, obs]
      have hr : (0 : Int32) ≤ r := fa_of_nlt x1
      rw [if_pos hr, if_neg n10]
      unfold fX7_day_b70
      rw [if_pos rfl, adv, nI_1]
      exact IH z' kd' m' o' now' P' a' b' c' e' x4
theorem m_day (h : SR z kd tr m o wd P now) (hH : HR nx sz hd U) (hK : KR hd iK K) (hT : TX L B sg tx) (hr : RW l f k8 g) (W : Nat → Int32) (a b c e a8 l8 t8 w8 : Int32) (rd : Nat → Int32) :
    ∃ r nx' sz' a' b' c' z' e' m' kd' o' P' l' f' hd' r8 a8' l8' k8' t8' uM' w8' now' rd' g' U' W', fX7_day tr wd sg (nI nx) (nI sz) a b c z e m kd o P l f (nI L) hd = some (r, nx', sz', a', b', c', z', e', m', kd', o', P', l', f', 0, hd') ∧ fX8_day tx a8 l8 k8 t8 (nI L) (nI sz) w8 now rd g U W = some (r8, a8', l8', k8', t8', 0, uM', w8', now', rd', g', U', W') ∧ AF r r8 z' kd' tr nx' sz' m' o' wd now' P' hd' uM' U' iK K ∧ RW l' f' k8' g' := by
  have hL := hT.1
  have hx := hH.1
  unfold fX7_day fX8_day fX7_wrongInDay fX8_begin
  simp only [bd4, obs]
  rcases day_ind hT k8 (nI sz) g now U W L 0 FU FU (by simp [psA]) (by simp [psA]) (by simp [psA]) (fu_lt (by omega)) (fu_lt (by omega)) rd (fun j hj => by omega) (fun j hj => by omega) with ⟨w, a8', rd', hw, e7, e8⟩ | ⟨M, rd', hps, hM, e7, hg, hrd, e8⟩
  · have e7 : lfix (fX7_wrongInDay_b2 (nI L) sg) (fun _ => none) FU 0 = some (nI w) := e7
    have e8 : lfix (fX8_day_b11 tx) (fun _ _ _ _ _ _ _ _ _ _ _ _ _ => none) FU 0 (nI L) k8 0 0 (nI sz) (-1) now rd g U W 0 = _ := e8
    rw [e7, e8, obs, if_neg (nI_m1 (by omega))]
    exact ⟨_, _, _, _, _, _, _, _, _, _, _, _, _, _, _, _, _, _, _, _, _, _, _, _, _, _, _, rfl, rfl, ⟨rfl, h, ⟨nx, sz, rfl, rfl, rfl, hH⟩, hK⟩, hr⟩
  · have e7 : lfix (fX7_wrongInDay_b2 (nI L) sg) (fun _ => none) FU 0 = some (-1) := e7
    have e8 : lfix (fX8_day_b11 tx) (fun _ _ _ _ _ _ _ _ _ _ _ _ _ => none) FU 0 (nI L) k8 0 0 (nI sz) (-1) now rd g U W 0 = _ := e8
    obtain ⟨hd', g1, g2, d, g3, g4⟩ := note7 h hx hd
    rw [e7, e8, obs, if_pos rfl, g1, obs]
    unfold fX8_day_b42
    rw [right8 (by omega) hL, if_pos (Nat.le_refl L)]
    simp only [bd2, obs, if_neg n10]
    rw [lay8, obs]
    obtain ⟨r, nx', sz', a', b', c', z', e', m', kd', o', P', l', f', k8', uM', now', g', U', x1, x2, x3, x4⟩ := day_run (l := l) (f := f) (k8 := k8) (g := g) (tr := tr) (wd := wd) hT hH hK g2 g3 g4 (W := fa_fill now W 189) (fun q hq => fa_fill_in hq) (M := M) (by omega) hps hg hrd (nI L) (nI L) M 0 FU (by omega) (fu_lt (by omega)) z kd m o now P a b c e h
    exact ⟨r, nx', sz', a', b', c', z', e', m', kd', o', P', l', f', hd', r, _, _, k8', _, uM', _, now', _, g', U', _, x1, x2, x3, x4⟩
end DYA
