/-! PURE, floors: bits, what a tile is, where one comes, what one is found; class and reference alike -/
/-- bit c of a set of tiles -/
def tb (s : Int64) (c : Int32) : Bool := s.toBitVec.getLsbD c.toNatClampNeg
theorem one_bit : ∀ i, i < 64 → i ≠ 0 → (1 : Int64).toBitVec.getLsbD i = false := by decide
theorem sh_amt : ∀ c, c < 64 → ((nI c).toInt64.toUInt64 &&& Int64.toUInt64 63).toBitVec = BitVec.ofNat 64 c := by decide
theorem sh_amt2 : ∀ c, c < 64 → (BitVec.ofNat 64 c % 64).toNat = c := by decide
theorem sh_amt3 : ∀ c, c < 64 → (((nI c).toInt64 &&& 63).toBitVec.smod 64).toNat = c := by decide
theorem low_bit (x : Int64) : ((x &&& 1) = 0 ↔ x.toBitVec.getLsbD 0 = false) ∧ ((x &&& 1) = 1 ↔ x.toBitVec.getLsbD 0 = true) := by
  constructor
  · rw [← Int64.toBitVec_inj, BitVec.eq_of_getLsbD_eq_iff]
    constructor
    · intro h; have := h 0 (by decide); simpa [Int64.toBitVec_and, BitVec.getLsbD_and] using this
    · intro h i hi
      simp only [Int64.toBitVec_and, BitVec.getLsbD_and]
      by_cases hi0 : i = 0
      · subst hi0; rw [h]; rfl
      · rw [one_bit i hi hi0]; simp
  · rw [← Int64.toBitVec_inj, BitVec.eq_of_getLsbD_eq_iff]
    constructor
    · intro h; have := h 0 (by decide); simpa [Int64.toBitVec_and, BitVec.getLsbD_and] using this
    · intro h i hi
      simp only [Int64.toBitVec_and, BitVec.getLsbD_and]
      by_cases hi0 : i = 0
      · subst hi0; simp [h]
      · rw [one_bit i hi hi0]; simp
theorem tb_lushr (s : Int64) {c : Nat} (hc : c < 64) : (lushr s (nI c) &&& 1 = 0) ↔ tb s (nI c) = false := by
  rw [(low_bit _).1]
  unfold lushr tb
  rw [nI_clamp (by omega)]
  simp [UInt64.toBitVec_shiftRight, sh_amt c hc, Nat.mod_eq_of_lt hc]
theorem tb_lshr (s : Int64) {c : Nat} (hc : c < 64) : (lshr s (nI c) &&& 1 = 1) ↔ tb s (nI c) = true := by
  rw [(low_bit _).2]
  unfold lshr tb
  rw [nI_clamp (by omega), Int64.toBitVec_shiftRight, BitVec.sshiftRight_eq', sh_amt3 c hc, BitVec.getLsbD_sshiftRight]
  simp [hc]
theorem F_isInX (s : Int64) {c : Nat} (hc : c < 64) : F_X5_isIn s (nI c) = some (zb (tb s (nI c))) := by
  unfold F_X5_isIn
  simp only [lg_eq0, tb_lushr s hc, rz_0, rz_1]
  by_cases h : tb s (nI c) = false
  · rw [if_pos h, h]
  · rw [if_neg h]; simp at h; rw [h]
theorem F_hasR (s : Int64) {c : Nat} (hc : c < 64) : F_X6_has s (nI c) = some (zb (tb s (nI c))) := by
  unfold F_X6_has
  simp only [lg_eq0, tb_lshr s hc, rz_0, rz_1]
  by_cases h : tb s (nI c) = true
  · rw [if_pos h, h]
  · rw [if_neg h]; simp at h; rw [h]
theorem F_isRedX (b : Nat) (M : Mi) (L : Ml) {c : Nat} (hc : c < 64) : F_X0_isRed b M L (nI c) = some (zb (tb (L b 0) (nI c))) := by
  unfold F_X0_isRed; rw [F_isInX _ hc, Option.bind_some, rz_zb]
theorem F_isHollowX (b : Nat) (M : Mi) (L : Ml) {c : Nat} (hc : c < 64) : F_X0_isHollow b M L (nI c) = some (zb (tb (L b 1) (nI c))) := by
  unfold F_X0_isHollow; rw [F_isInX _ hc, Option.bind_some, rz_zb]
/-- black -/
def blk (t : Int32) : Bool := decide (irm (irm t 8 + t / 8) 2 = 1)
theorem F_isBlackR (t : Int32) : F_X6_isBlack t = some (zb (blk t)) := by
  unfold F_X6_isBlack blk
  by_cases h : irm (irm t 8 + t / 8) 2 = 1
  · simp [h, rz_1]
  · simp [h, rz_0]
theorem ge50 (w : Int32) : (50 : Int32) ≤ w ↔ ¬ w < 50 := by rw [i_le, i_lt]; omega
theorem le49 (w : Int32) : w ≤ (49 : Int32) ↔ w < 50 := by rw [i_le, i_lt, show (49 : Int32).toInt = 49 from rfl, show (50 : Int32).toInt = 50 from rfl]; omega
theorem ge5 (w : Int32) : (5 : Int32) ≤ w ↔ ¬ w < 5 := by rw [i_le, i_lt]; omega
def sp_plain (red : Int64) (t : Int32) : Int32 := if tb red t = true then 2 else if blk t = true then 1 else 0
theorem F_isFoundByX (b : Nat) (M : Mi) (L : Ml) {c : Nat} (hc : c < 64) : F_X0_isFoundBy b M L (nI c) = some (sp_plain (L b 0) (nI c)) := by
  unfold F_X0_isFoundBy sp_plain
  rw [F_isRedX b M L hc, Option.bind_some, zb_if]
  by_cases h : tb (L b 0) (nI c) = true
  · rw [if_pos h, if_pos h]
  · rw [if_neg h, if_neg h]
    unfold blk
    by_cases h2 : irm (irm (nI c) 8 + nI c / 8) 2 = 1 <;> simp [h2]
def sp_found (red : Int64) (k w t : Int32) : Int32 :=
  if tb red t = true ∨ (k = 5 ∧ 50 ≤ w) then 2 else if k = 4 then 0 else if ((k = 1 ∨ k = 3) ∧ w < 5) ∨ blk t = true then 1 else 0
theorem F_foundOfX (b : Nat) (M : Mi) (L : Ml) {p c : Nat} (hp : p < 5) (hc : c < 64) (ho : M (b + 3) p = nI c) : F_X0_foundOf b M L (nI p) = some (sp_found (L b 0) (M (b + 1) p) (M (b + 4) p) (nI c)) := by
  unfold F_X0_foundOf
  have e : (nI p).toNatClampNeg = p := nI_clamp (by omega)
  simp only [ix_nI hp (by decide), e, ho, F_isFoundByX b M L hc, Option.bind_some, if_true]
  generalize M (b + 1) p = k
  generalize M (b + 4) p = w
  unfold sp_found sp_plain
  by_cases hr : tb (L b 0) (nI c) = true
  · simp [hr]
  · simp only [hr, if_false, false_or]
    by_cases hb : blk (nI c) = true
    · simp only [hb, if_true, or_true]
      by_cases k1 : k = 1
      · subst k1; by_cases hw : w < 5 <;> simp [ge5, hw]
      · by_cases k2 : k = 2
        · subst k2; simp
        · by_cases k3 : k = 3
          · subst k3; by_cases hw : w < 5 <;> simp [ge5, hw]
          · by_cases k4 : k = 4
            · subst k4; simp
            · by_cases k5 : k = 5
              · subst k5
                by_cases hw : w < 50
                · simp [ge50, hw]
                · simp [ge50, hw]
              · simp [k1, k2, k3, k4, k5]
    · simp only [hb, if_false, or_false]
      by_cases k1 : k = 1
      · subst k1; by_cases hw : w < 5 <;> simp [ge5, hw]
      · by_cases k2 : k = 2
        · subst k2; simp
        · by_cases k3 : k = 3
          · subst k3; by_cases hw : w < 5 <;> simp [ge5, hw]
          · by_cases k4 : k = 4
            · subst k4; simp
            · by_cases k5 : k = 5
              · subst k5
                by_cases hw : w < 50
                · simp [ge50, hw]
                · simp [ge50, hw]
              · simp [k1, k2, k3, k4, k5]
theorem i4p (p : Nat) : (4 : Int32) * nI p = nI (4 * p) := pk_mul 4 p
theorem i4p1 (p : Nat) : (4 : Int32) * nI p + 1 = nI (4 * p + 1) := by rw [i4p]; exact nI_1 _
theorem i4p2 (p : Nat) : (4 : Int32) * nI p + 2 = nI (4 * p + 2) := by rw [i4p]; exact nI_add _ 2
theorem i4p3 (p : Nat) : (4 : Int32) * nI p + 3 = nI (4 * p + 3) := by rw [i4p]; exact nI_add _ 3
theorem F_onOfR (M : Mi) (L : Ml) {p : Nat} (hp : p < 5) : F_X6_onOf M L (nI p) = some (M 4 (4 * p + 1)) := by
  unfold F_X6_onOf
  simp only [i4p1]
  rw [if_pos (ix_nI (by omega) (by decide)), nI_clamp (by omega)]
theorem F_foundOfR (M : Mi) (L : Ml) {p c : Nat} (hp : p < 5) (hc : c < 64) (ho : M 4 (4 * p + 1) = nI c) : F_X6_foundOf M L (nI p) = some (sp_found (L 0 8) (M 4 (4 * p + 3)) (M 4 (4 * p + 2)) (nI c)) := by
  unfold F_X6_foundOf
  simp only [i4p3, i4p2, ix_nI (show 4 * p + 3 < 20 by omega) (by decide), ix_nI (show 4 * p + 2 < 20 by omega) (by decide), nI_clamp (show 4 * p + 3 < 2 ^ 31 by omega), nI_clamp (show 4 * p + 2 < 2 ^ 31 by omega), F_onOfR M L hp, Option.bind_some, if_true, ho, F_hasR _ hc, zb_if]
  generalize M 4 (4 * p + 3) = k
  generalize M 4 (4 * p + 2) = w
  unfold sp_found F_X6_foundOf_k54 F_X6_foundOf_k71 F_X6_foundOf_k81 F_X6_foundOf_k82 F_X6_foundOf_k96
  simp only [F_isBlackR, Option.bind_some, zb_if]
  by_cases hr : tb (L 0 8) (nI c) = true
  · simp [hr]
  · simp only [hr, if_false, false_or]
    by_cases k1 : k = 1
    · subst k1; by_cases hw : w < 5 <;> by_cases hb : blk (nI c) = true <;> simp [ge5, hw, hb]
    · by_cases k3 : k = 3
      · subst k3; by_cases hw : w < 5 <;> by_cases hb : blk (nI c) = true <;> simp [ge5, hw, hb]
      · by_cases k4 : k = 4
        · subst k4; simp
        · by_cases k5 : k = 5
          · subst k5
            by_cases hw : w < 50 <;> by_cases hb : blk (nI c) = true <;> simp [ge50, le49, hw, hb]
          · by_cases hb : blk (nI c) = true <;> simp [k1, k3, k4, k5, hb]
