/-! PURE, base: numbers, indices, the small tests of class and reference -/
theorem ix_nI {p n : Nat} (h : p < n) (hn : n < 2 ^ 31) : ix (nI p) n = true := decide_eq_true (vp_in_nI h hn)
theorem ix_of {x : Int32} {n : Nat} (h : ix x n = true) (hn : n < 2 ^ 31) : ∃ p, p < n ∧ x = nI p := vp_in_of (ix_in h) hn
theorem ix_iff (x : Int32) (n : Nat) : ix x n = true ↔ 0 ≤ x.toInt ∧ x.toInt < n := by
  constructor
  · intro h; exact vp_in_iff.mp (ix_in h)
  · intro h; exact decide_eq_true (vp_in_iff.mpr h)
theorem ix_eqv {x y : Int32} {n m : Nat} (h : (0 ≤ x.toInt ∧ x.toInt < n) ↔ (0 ≤ y.toInt ∧ y.toInt < m)) : ix x n = ix y m := by
  rw [Bool.eq_iff_iff, ix_iff, ix_iff]; exact h
theorem i_lt (a b : Int32) : a < b ↔ a.toInt < b.toInt := Int32.lt_iff_toInt_lt
theorem i_le (a b : Int32) : a ≤ b ↔ a.toInt ≤ b.toInt := Int32.le_iff_toInt_le
theorem i_eq (a b : Int32) : a = b ↔ a.toInt = b.toInt := Int32.toInt_inj.symm
theorem l_lt (a b : Int64) : a < b ↔ a.toInt < b.toInt := Int64.lt_iff_toInt_lt
theorem l_le (a b : Int64) : a ≤ b ↔ a.toInt ≤ b.toInt := Int64.le_iff_toInt_le
theorem l_eq (a b : Int64) : a = b ↔ a.toInt = b.toInt := Int64.toInt_inj.symm
theorem lg_lt0 (x y : Int64) : lg_cmp x y < 0 ↔ x < y := by
  unfold lg_cmp
  by_cases h1 : x > y
  · rw [if_pos h1]; simp only [gt_iff_lt, l_lt] at h1 ⊢; constructor
    · intro h; exact absurd h (by decide)
    · intro h; omega
  · rw [if_neg h1]; by_cases h2 : x = y
    · rw [if_pos h2]; subst h2; simp only [l_lt]; constructor
      · intro h; exact absurd h (by decide)
      · intro h; omega
    · rw [if_neg h2]; simp only [gt_iff_lt, l_lt, l_eq] at h1 h2 ⊢; constructor
      · intro _; omega
      · intro _; decide
theorem lg_gt0 (x y : Int64) : 0 < lg_cmp x y ↔ y < x := by
  unfold lg_cmp
  by_cases h1 : x > y
  · rw [if_pos h1]; simp only [gt_iff_lt] at h1; exact ⟨fun _ => h1, fun _ => by decide⟩
  · rw [if_neg h1]; by_cases h2 : x = y
    · rw [if_pos h2]; exact ⟨fun h => absurd h (by decide), fun h => absurd h (by simpa using h1)⟩
    · rw [if_neg h2]; exact ⟨fun h => absurd h (by decide), fun h => absurd h (by simpa using h1)⟩
theorem lg_eq0 (x y : Int64) : lg_cmp x y = 0 ↔ x = y := by
  unfold lg_cmp
  by_cases h1 : x > y
  · rw [if_pos h1]; constructor
    · intro h; exact absurd h (by decide)
    · intro h; subst h; simp only [gt_iff_lt, l_lt] at h1; omega
  · rw [if_neg h1]; by_cases h2 : x = y
    · rw [if_pos h2]; exact ⟨fun _ => h2, fun _ => rfl⟩
    · rw [if_neg h2]; exact ⟨fun h => absurd h (by decide), fun h => absurd h h2⟩
/-- a truth as an int -/
def zb (b : Bool) : Int32 := if b = true then 1 else 0
theorem zb_or (b : Bool) : zb b = 0 ∨ zb b = 1 := by cases b <;> simp [zb]
theorem zb_if {α : Type} (b : Bool) (A B : α) : (if zb b = 0 then A else B) = if b = true then B else A := by cases b <;> rfl
theorem zb_eq1 (b : Bool) : zb b = 1 ↔ b = true := by cases b <;> decide
theorem rz_zb (b : Bool) : rz (zb b) = some (zb b) := by cases b <;> rfl
theorem rz_0 : rz 0 = some (zb false) := rfl
theorem rz_1 : rz 1 = some (zb true) := rfl
theorem rzw_zb (b : Bool) (M : Mi) (L : Ml) : rzw (zb b) M L = some (zb b, M, L) := by cases b <;> rfl
theorem rzw_0 (M : Mi) (L : Ml) : rzw 0 M L = some (zb false, M, L) := rfl
theorem rzw_1 (M : Mi) (L : Ml) : rzw 1 M L = some (zb true, M, L) := rfl
theorem nI_toIntc {n : Nat} (h : n < 2 ^ 31) : (nI n).toInt = (n : Int) := nI_toInt h
theorem F_isWithin (x y : Int32) : F_X5_isWithin x y = some (zb (decide (0 ≤ x.toInt ∧ x.toInt ≤ y.toInt))) := by
  unfold F_X5_isWithin
  simp only [i_lt, rz_0, rz_1, show (0 : Int32).toInt = 0 from rfl]
  by_cases h1 : x.toInt < 0
  · rw [if_pos h1]; congr 2; simp; omega
  · rw [if_neg h1]; by_cases h2 : y.toInt < x.toInt
    · rw [if_pos h2]; congr 2; simp; omega
    · rw [if_neg h2]; congr 2; simp; omega
theorem F_isWithinN (x : Int32) {m : Nat} (hm : m < 2 ^ 31) : F_X5_isWithin x (nI m) = some (zb (ix x (m + 1))) := by
  rw [F_isWithin, nI_toInt hm]; congr 2; rw [Bool.eq_iff_iff, ix_iff]; simp; omega
theorem nI_m1 {k : Nat} (hk : k < 2 ^ 31) : (nI k - 1).toInt = (k : Int) - 1 := by
  have := pk_sub_toInt (a := k) (b := 1)
  by_cases h : k < 2 ^ 30
  · have := pk_sub_toInt (a := k) (b := 1) h (by omega); simpa [nI] using this
  · have h1 : nI k - nI 1 = nI (k - 1) := pk_sub (by omega)
    have : nI k - 1 = nI (k - 1) := h1
    rw [this, nI_toInt (by omega)]; omega
theorem F_isWithinP (x : Int32) {k : Nat} (hk : k < 2 ^ 31) : F_X5_isWithin x (nI k - 1) = some (zb (ix x k)) := by
  rw [F_isWithin, nI_m1 hk]; congr 2; rw [Bool.eq_iff_iff, ix_iff]; simp; omega
theorem F_in (x y z : Int64) : F_X6_in x y z = some (zb (decide (y.toInt ≤ x.toInt ∧ x.toInt ≤ z.toInt))) := by
  unfold F_X6_in
  simp only [lg_lt0, lg_gt0, l_lt, rz_0, rz_1]
  by_cases h1 : x.toInt < y.toInt
  · rw [if_pos h1]; congr 2; simp; omega
  · rw [if_neg h1]; by_cases h2 : z.toInt < x.toInt
    · rw [if_pos h2]; congr 2; simp; omega
    · rw [if_neg h2]; congr 2; simp; omega
theorem toL (x : Int32) : x.toInt64.toInt = x.toInt := Int32.toInt_toInt64 x
theorem F_inN (x : Int32) {z : Int64} (m : Nat) (hz : z.toInt = (m : Int)) : F_X6_in x.toInt64 0 z = some (zb (ix x (m + 1))) := by
  rw [F_in, toL, hz]; congr 2; rw [Bool.eq_iff_iff, ix_iff]; simp [show (0 : Int64).toInt = 0 from rfl]; omega
theorem F_inP (x : Int32) {k : Nat} (hk : k < 2 ^ 31) : F_X6_in x.toInt64 0 (nI k - 1).toInt64 = some (zb (ix x k)) := by
  rw [F_in, toL, toL, nI_m1 hk]; congr 2; rw [Bool.eq_iff_iff, ix_iff]; simp [show (0 : Int64).toInt = 0 from rfl]; omega
theorem F_isTileX (x : Int32) : F_X5_isTile x = some (zb (ix x 64)) := by
  unfold F_X5_isTile; rw [show (63 : Int32) = nI 63 from rfl, F_isWithinN x (by decide)]; rw [Option.bind_some, rz_zb]
theorem F_isKindX (x : Int32) : F_X5_isKind x = some (zb (ix x 6)) := by
  unfold F_X5_isKind; rw [show (5 : Int32) = nI 5 from rfl, F_isWithinN x (by decide)]; rw [Option.bind_some, rz_zb]
theorem F_isTileR (x : Int32) : F_X6_isTile x = some (zb (ix x 64)) := by
  unfold F_X6_isTile; rw [F_inN x 63 rfl, Option.bind_some, rz_zb]
theorem F_boundedX (x a b : Int32) (h : a ≤ b) : F_X5_bounded x a b = some (if x < a then a else if b < x then b else x) := by
  unfold F_X5_bounded
  congr 1
  simp only [i_lt, i_le] at h ⊢
  by_cases h1 : x.toInt < b.toInt
  · simp only [if_pos h1]; by_cases h2 : a.toInt < x.toInt
    · rw [if_pos h2, if_neg (by omega), if_neg (by omega)]
    · rw [if_neg h2]; by_cases h3 : x.toInt < a.toInt
      · rw [if_pos h3]
      · rw [if_neg h3, if_neg (by omega), i_eq]; omega
  · simp only [if_neg h1]; by_cases h2 : a.toInt < b.toInt
    · rw [if_pos h2, if_neg (by omega)]; by_cases h3 : b.toInt < x.toInt
      · rw [if_pos h3]
      · rw [if_neg h3, i_eq]; omega
    · rw [if_neg h2]; by_cases h3 : x.toInt < a.toInt
      · rw [if_pos h3]
      · rw [if_neg h3]; by_cases h4 : b.toInt < x.toInt
        · rw [if_pos h4, i_eq]; omega
        · rw [if_neg h4, i_eq]; omega
def bnd (x a b : Int32) : Int32 := if x < a then a else if b < x then b else x
theorem F_boundedX' (x : Int32) (a b : Int32) (h : a ≤ b) : F_X5_bounded x a b = some (bnd x a b) := F_boundedX x a b h
theorem F_withinR (x a b : Int32) : F_X6_within x a b = some (bnd x a b) := by
  unfold F_X6_within bnd
  simp only [i_lt, i_le]
  by_cases h1 : a.toInt ≤ x.toInt
  · rw [if_pos h1]; by_cases h2 : x.toInt ≤ b.toInt
    · rw [if_pos h2, if_neg (by omega), if_neg (by omega)]
    · rw [if_neg h2, if_neg (by omega), if_pos (by omega)]
  · rw [if_neg h1, if_pos (by omega)]
