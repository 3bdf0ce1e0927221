/-! The text. -/
section TXT
/-- byte number s / 8 of an int -/
def byN (v : Int32) (s : Nat) : Nat := v.toBitVec.toNat / 2 ^ s % 256
theorem byN_lt (v : Int32) (s : Nat) : byN v s < 256 := Nat.mod_lt _ (by decide)
theorem and255 (x : Int32) : x &&& 255 = nI (x.toBitVec.toNat % 256) := by
  apply Int32.toBitVec_inj.mp
  apply BitVec.eq_of_toNat_eq
  show (x.toBitVec &&& (255 : BitVec 32)).toNat = (BitVec.ofNat 32 (x.toBitVec.toNat % 256)).toNat
  rw [BitVec.toNat_and, BitVec.toNat_ofNat, show (255 : BitVec 32).toNat = 2 ^ 8 - 1 from rfl, Nat.and_two_pow_sub_one_eq_mod]
  have := x.toBitVec.isLt
  omega
theorem by_24 (v : Int32) : (v.toUInt32 >>> ((24 : Int32).toUInt32 &&& Int32.toUInt32 31)).toInt32 = nI (byN v 24) := by
  have h := pk_ushr v 24 24 (by decide)
  apply Int32.toBitVec_inj.mp
  apply BitVec.eq_of_toNat_eq
  rw [h]
  have := v.toBitVec.isLt
  show _ = (BitVec.ofNat 32 (v.toBitVec.toNat / 2 ^ 24 % 256)).toNat
  rw [BitVec.toNat_ofNat]
  omega
theorem by_16 (v : Int32) : (v.toUInt32 >>> ((16 : Int32).toUInt32 &&& Int32.toUInt32 31)).toInt32 &&& 255 = nI (byN v 16) := by
  rw [and255, pk_ushr v 16 16 (by decide)]; rfl
theorem by_8 (v : Int32) : (v.toUInt32 >>> ((8 : Int32).toUInt32 &&& Int32.toUInt32 31)).toInt32 &&& 255 = nI (byN v 8) := by
  rw [and255, pk_ushr v 8 8 (by decide)]; rfl
theorem by_0 (v : Int32) : v &&& 255 = nI (byN v 0) := by
  rw [and255]
  unfold byN
  simp
/-- the lowest byte of what is shifted -/
theorem low8 {x y : Int32} (h : x.toBitVec.toNat % 256 = y.toBitVec.toNat % 256) : x.toInt8.toInt32 = y.toInt8.toInt32 := by
  rw [← fa_byte_low x, ← fa_byte_low y, and255, and255, h]
theorem shr8 (v : Int32) (s : Int32) (q : Nat) (hs : (s.toBitVec.smod 32).toNat = q) (hq : q < 25) : (v >>> s).toBitVec.toNat % 256 = v.toBitVec.toNat / 2 ^ q % 256 := by
  have e : (v >>> s).toBitVec = v.toBitVec.sshiftRight q := by
    rw [← hs]; rfl
  have e2 : (v.toBitVec.sshiftRight q).setWidth 8 = (v.toBitVec >>> q).setWidth 8 := by
    apply BitVec.eq_of_getLsbD_eq
    intro i hi
    rw [BitVec.getLsbD_setWidth, BitVec.getLsbD_setWidth, BitVec.getLsbD_sshiftRight, BitVec.getLsbD_ushiftRight]
    have h1 : q + i < 32 := by omega
    have h2 : ¬ 32 ≤ i := by omega
    simp [h1, h2]
  have e3 := congrArg BitVec.toNat e2
  rw [BitVec.toNat_setWidth, BitVec.toNat_setWidth, BitVec.toNat_ushiftRight, Nat.shiftRight_eq_div_pow] at e3
  rw [e]
  exact e3
theorem nI_bv {k : Nat} (h : k < 2 ^ 32) : (nI k).toBitVec.toNat = k := by
  show (BitVec.ofNat 32 k).toNat = k
  rw [BitVec.toNat_ofNat]; omega
theorem shr_by (v s : Int32) (q : Nat) (hs : (s.toBitVec.smod 32).toNat = q) (hq : q < 25) : (v >>> s).toInt8.toInt32 = (nI (byN v q)).toInt8.toInt32 := by
  apply low8
  have := byN_lt v q
  rw [shr8 v s q hs hq, nI_bv (by omega)]
  unfold byN
  omega
theorem astB_in {N i : Nat} {F : Nat → Int32} {x : Int32} (h : i < N) (hN : N < 2 ^ 31) : astB N (nI i) F (x.toInt8.toInt32) = some (upd F i (x.toInt8.toInt32)) := by
  unfold astB
  have : vp_nar .byte (x.toInt8.toInt32) = x.toInt8.toInt32.toInt8.toInt32 := rfl
  rw [this, fb_byte_twice, ast_in h hN]
/-- the text of the class and that of the reference -/
def TX (L : Nat) (B : Nat → Nat) (sg tx : Nat → Int32) : Prop := L ≤ 80 ∧ ∀ p, p < L → B p < 256 ∧ sg p = nI (B p) ∧ tx p = (nI (B p)).toInt8.toInt32
theorem TX_put {L : Nat} {B : Nat → Nat} {sg tx : Nat → Int32} (h : TX L B sg tx) {b : Nat} (hL : L < 80) (hb : b < 256) : TX (L + 1) (fun p => if p = L then b else B p) (upd sg L (nI b)) (upd tx L ((nI b).toInt8.toInt32)) := by
  refine ⟨by omega, fun p hp => ?_⟩
  unfold upd
  by_cases h1 : p = L
  · simp only [if_pos h1]; exact ⟨hb, trivial, trivial⟩
  · simp only [if_neg h1]; exact h.2 p (by omega)
theorem TX_cut {L L' : Nat} {B : Nat → Nat} {sg tx : Nat → Int32} (h : TX L B sg tx) (hL : L' ≤ L) : TX L' B sg tx := ⟨by have := h.1; omega, fun p hp => h.2 p (by omega)⟩
theorem m_sign {L : Nat} {B : Nat → Nat} {sg tx : Nat → Int32} (h : TX L B sg tx) (t8 v : Int32) : ∃ r L' B' sg' tx' t8', fX7_sign (nI L) sg v = some (r, nI L', sg') ∧ fX8_sign t8 (nI L) tx v = some (r, t8', nI L', tx') ∧ TX L' B' sg' tx' := by
  have hL := h.1
  unfold fX7_sign fX8_sign fX6_push
  rw [if_neg (nI_pos (by omega)), show nI L + (4 : Int32) = nI (L + 4) from nI_add L 4]
  by_cases h4 : L + 4 ≤ 80
  rotate_left
  · have : ¬ nI (L + 4) ≤ 80 := nI_ge (a := 80) (by omega) (by omega)
    rw [if_neg this, if_neg this]
    simp only [bd3, obs, if_true]
    exact ⟨_, L, B, _, _, _, rfl, rfl, h⟩
  have hle : nI (L + 4) ≤ 80 := nI_le (b := 80) h4 (by decide)
  rw [if_pos hle, if_pos hle, by_24, by_16, by_8, by_0, ast_in (by omega) (by decide), obs, show nI L + (1 : Int32) = nI (L + 1) from nI_add L 1, ast_in (by omega) (by decide), obs, show nI L + (2 : Int32) = nI (L + 2) from nI_add L 2, ast_in (by omega) (by decide), obs, show nI L + (3 : Int32) = nI (L + 3) from nI_add L 3, ast_in (by omega) (by decide)]
  simp only [bd3, obs, if_neg n10]
  have t1 := TX_put h (b := byN v 24) (by omega) (byN_lt v 24)
  have t2 := TX_put t1 (b := byN v 16) (by omega) (byN_lt v 16)
  have t3 := TX_put t2 (b := byN v 8) (by omega) (byN_lt v 8)
  have t4 := TX_put t3 (b := byN v 0) (by omega) (byN_lt v 0)
  have s3 : (v >>> (((8 : Int32) * 3) &&& 31)).toInt8.toInt32 = (nI (byN v 24)).toInt8.toInt32 := shr_by v _ 24 (by decide) (by decide)
  have s2 : (v >>> (((8 : Int32) * 2) &&& 31)).toInt8.toInt32 = (nI (byN v 16)).toInt8.toInt32 := shr_by v _ 16 (by decide) (by decide)
  have s1 : (v >>> (((8 : Int32) * 1) &&& 31)).toInt8.toInt32 = (nI (byN v 8)).toInt8.toInt32 := shr_by v _ 8 (by decide) (by decide)
  have s0 : (v >>> (((8 : Int32) * 0) &&& 31)).toInt8.toInt32 = (nI (byN v 0)).toInt8.toInt32 := shr_by v _ 0 (by decide) (by decide)
  have e8 : lfix (fX8_sign_b20) (fun _ _ _ _ _ => none) FU 0 (nI L) tx v 3 = some (nI (L + 4), 0, nI (L + 4), upd (upd (upd (upd tx L ((nI (byN v 24)).toInt8.toInt32)) (L + 1) ((nI (byN v 16)).toInt8.toInt32)) (L + 1 + 1) ((nI (byN v 8)).toInt8.toInt32)) (L + 1 + 1 + 1) ((nI (byN v 0)).toInt8.toInt32)) := by
    rw [lf1, lfs _ _ 4094, lfs _ _ 4093, lfs _ _ 4092, lfs _ _ 4091]
    generalize lfix (fX8_sign_b20) _ 4091 = R
    unfold fX8_sign_b20
    simp only [if_neg (show ¬ (3 : Int32) < 0 by decide), obs, s3, astB_in (show L < 80 by omega) (by decide), nI_1, show (3 : Int32) + -1 = 2 by decide, if_neg (show ¬ (2 : Int32) < 0 by decide), s2, astB_in (show L + 1 < 80 by omega) (by decide), show (2 : Int32) + -1 = 1 by decide, if_neg (show ¬ (1 : Int32) < 0 by decide), s1, astB_in (show L + 1 + 1 < 80 by omega) (by decide), show (1 : Int32) + -1 = 0 by decide, if_neg (show ¬ (0 : Int32) < 0 by decide), s0, astB_in (show L + 1 + 1 + 1 < 80 by omega) (by decide), show (0 : Int32) + -1 = -1 by decide, if_pos (show (-1 : Int32) < 0 by decide)]
  rw [e8]
  exact ⟨_, L + 4, _, _, _, _, rfl, rfl, t4⟩
theorem m_end {L : Nat} {B : Nat → Nat} {sg tx : Nat → Int32} (h : TX L B sg tx) (t8 x : Int32) : ∃ r L' t8', fX7_end (nI L) x = some (r, nI L') ∧ fX8_end t8 (nI L) x = some (r, t8', nI L') ∧ TX L' B sg tx := by
  have hL := h.1
  unfold fX7_end fX8_end
  rcases in8_cases (N := L) (by omega) x with ⟨i, hi, rfl, e⟩ | ⟨hx, e⟩
  · rw [e, obs, if_neg n10, if_neg (nI_pos (by omega)), if_pos (nI_le hi (by omega))]
    exact ⟨_, i, _, rfl, rfl, TX_cut h hi⟩
  · rw [e, obs, if_pos rfl]
    rcases hx with hx | ⟨hx, hx2⟩
    · rw [if_pos hx]; exact ⟨_, L, _, rfl, rfl, h⟩
    · rw [if_neg hx, if_neg (fa_of_lt hx2).2.1]; exact ⟨_, L, _, rfl, rfl, h⟩
end TXT
