/-! PURE: where one comes by a way -/
def sp_leaps (k num w mi way : Int32) : Bool := if k = 2 then decide (irm way 2 = 0) else if k = 3 then decide (¬ way = num) else if k = 4 then decide (irm way 2 = 0 ∧ irm mi 2 = 0) else if k = 5 then decide (w < 50) else true
theorem F_leapsByX (b : Nat) (M : Mi) (L : Ml) {p : Nat} (hp : p < 5) (way : Int32) : F_X0_leapsBy b M L (nI p) way = some (zb (sp_leaps (M (b + 1) p) (M (b + 2) p) (M (b + 4) p) (M b 2) way)) := by
  unfold F_X0_leapsBy
  have e : (nI p).toNatClampNeg = p := nI_clamp (by omega)
  simp only [ix_nI hp (by decide), e, if_true, rz_0, rz_1]
  generalize M (b + 1) p = k
  unfold sp_leaps
  by_cases k2 : k = 2
  · subst k2; by_cases h : irm way 2 = 0 <;> simp [h]
  · by_cases k3 : k = 3
    · subst k3; by_cases h : way = M (b + 2) p <;> simp [h]
    · by_cases k4 : k = 4
      · subst k4; by_cases h : irm way 2 = 0 <;> by_cases h2 : irm (M b 2) 2 = 0 <;> simp [h, h2]
      · by_cases k5 : k = 5
        · subst k5; by_cases h : M (b + 4) p < 50 <;> simp [ge50, h]
        · simp [k2, k3, k4, k5]
def dxs (k : Int32) (v : Nat) : Int32 := if k = 1 ∨ k = 3 then (sA 3).getD v 0 else if k = 2 ∨ k = 4 then (sA 5).getD v 0 else (sA 1).getD v 0
def dys (k : Int32) (v : Nat) : Int32 := if k = 1 ∨ k = 3 then (sA 4).getD v 0 else if k = 2 ∨ k = 4 then (sA 6).getD v 0 else (sA 2).getD v 0
def sp_go (hol : Int64) (t dx dy : Int32) : Int32 := if ix (irm t 8 + dx) 8 = true ∧ ix (t / 8 + dy) 8 = true ∧ ¬ tb hol (8 * (t / 8 + dy) + (irm t 8 + dx)) = true then 8 * (t / 8 + dy) + (irm t 8 + dx) else -1
theorem i8ab (a b : Nat) : (8 : Int32) * nI b + nI a = nI (8 * b + a) := by rw [show (8 : Int32) = nI 8 from rfl, pk_mul, nI_add]
theorem sp_goF {g : Int32 → Option Int32} {hol : Int64} {c r : Int32} (hg : ∀ n, n < 64 → g (nI n) = some (zb (tb hol (nI n)))) : ((some (zb (ix c 8))).bind fun v1 => if v1 = 0 then some (-1 : Int32) else ((some (zb (ix r 8))).bind fun v2 => if v2 = 0 then some (-1 : Int32) else ((g (8 * r + c)).bind fun v3 => if v3 = 0 then some (8 * r + c) else some (-1 : Int32)))) = some (if ix c 8 = true ∧ ix r 8 = true ∧ ¬ tb hol (8 * r + c) = true then 8 * r + c else -1) := by
  simp only [Option.bind_some, zb_if]
  by_cases h1 : ix c 8 = true
  · by_cases h2 : ix r 8 = true
    · obtain ⟨a, ha, rfl⟩ := ix_of h1 (by decide)
      obtain ⟨d, hd, rfl⟩ := ix_of h2 (by decide)
      rw [if_pos h1, if_pos h2, i8ab, hg _ (by omega), Option.bind_some, zb_if]
      by_cases h3 : tb hol (nI (8 * d + a)) = true <;> simp [h1, h2, h3]
    · simp [h1, h2]
  · simp [h1]
theorem F_land96 (b : Nat) (M : Mi) (L : Ml) (t dx dy : Int32) : F_X0_landing_k96 b M L t dx dy = some (sp_go (L b 1) t dx dy) := by
  unfold F_X0_landing_k96 sp_go
  rw [show (7 : Int32) = nI 7 from rfl, F_isWithinN _ (by decide), F_isWithinN _ (by decide)]
  exact sp_goF (fun n hn => F_isHollowX b M L hn)
theorem F_leap206 (M : Mi) (L : Ml) (t dx dy : Int32) : F_X6_leapFrom_k206 M L t dx dy = some (sp_go (L 0 9) t dx dy) := by
  unfold F_X6_leapFrom_k206 sp_go
  rw [F_inN _ 7 rfl, F_inN _ 7 rfl]
  exact sp_goF (fun n hn => F_hasR _ hn)
def sp_land (hol : Int64) (k num w mi : Int32) (t : Int32) (v : Nat) : Int32 := if sp_leaps k num w mi (nI v) = true then sp_go hol t (dxs k v) (dys k v) else -1
theorem F_landingX (b : Nat) (M : Mi) (L : Ml) {p v : Nat} (hp : p < 5) (hv : v < 8) (t : Int32) : F_X0_landing b M L (nI p) t (nI v) = some (sp_land (L b 1) (M (b + 1) p) (M (b + 2) p) (M (b + 4) p) (M b 2) t v) := by
  unfold F_X0_landing F_X0_landing_k45 F_X0_landing_k82
  have e : (nI p).toNatClampNeg = p := nI_clamp (by omega)
  have e2 : (nI v).toNatClampNeg = v := nI_clamp (by omega)
  have hl : ∀ i, i < 7 → 1 ≤ i → (sA i).length = 8 := by decide
  simp only [F_leapsByX b M L hp, Option.bind_some, zb_if, e, e2, ix_nI hp (by decide), hl 1 (by decide) (by decide), hl 2 (by decide) (by decide), hl 3 (by decide) (by decide), hl 4 (by decide) (by decide), hl 5 (by decide) (by decide), hl 6 (by decide) (by decide), ix_nI hv (by decide), if_true, F_land96]
  unfold sp_land dxs dys
  by_cases h : sp_leaps (M (b + 1) p) (M (b + 2) p) (M (b + 4) p) (M b 2) (nI v) = true
  · rw [if_pos h, if_pos h]
    generalize M (b + 1) p = k
    by_cases k1 : k = 1
    · simp [k1]
    · by_cases k3 : k = 3
      · simp [k3]
      · by_cases k2 : k = 2
        · simp [k2]
        · by_cases k4 : k = 4
          · simp [k4]
          · simp [k1, k2, k3, k4]
  · rw [if_neg h, if_neg h]
/-- an int that isn't below 0 is even or odd -/
theorem irm2 {x : Int32} (h : 0 ≤ x) : irm x 2 = 1 ↔ ¬ irm x 2 = 0 := by
  obtain ⟨j, hj, rfl⟩ := nI_of (x := x) (by simp only [i_lt, i_le] at h ⊢; omega)
  unfold irm
  have e : nI j - nI j / 2 * 2 = nI (j % 2) := pk_rem hj (by decide) (by decide)
  rw [e]
  rcases Nat.mod_two_eq_zero_or_one j with h | h <;> rw [h] <;> decide
theorem F_colsR : ∀ v, v < 8 → F_X6_columnsBy (nI v) = some ((sA 1).getD v 0) := by decide
theorem F_rowsR : ∀ v, v < 8 → F_X6_rowsBy (nI v) = some ((sA 2).getD v 0) := by decide
theorem F_leap100 (M : Mi) (L : Ml) {v : Nat} (hv : v < 8) (t k : Int32) : F_X6_leapFrom_k100 M L t (nI v) k (zb (decide (k = 2 ∨ k = 4))) = some (sp_go (L 0 9) t (dxs k v) (dys k v)) := by
  unfold F_X6_leapFrom_k100
  rw [F_colsR v hv, F_rowsR v hv, Option.bind_some, Option.bind_some]
  unfold F_X6_leapFrom_k124 F_X6_leapFrom_k159 F_X6_leapFrom_k184 F_X6_leapFrom_k140 F_X6_leapFrom_k204 F_X6_leapFrom_k151 F_X6_leapFrom_k157
  simp only [F_leap206, zb_if]
  have hvv : v = 0 ∨ v = 1 ∨ v = 2 ∨ v = 3 ∨ v = 4 ∨ v = 5 ∨ v = 6 ∨ v = 7 := by omega
  have l0 : nI 0 = 0 := rfl
  have l1 : nI 1 = 1 := rfl
  have l2 : nI 2 = 2 := rfl
  have l3 : nI 3 = 3 := rfl
  have l4 : nI 4 = 4 := rfl
  have l5 : nI 5 = 5 := rfl
  have l6 : nI 6 = 6 := rfl
  have l7 : nI 7 = 7 := rfl
  unfold dxs dys
  by_cases k1 : k = 1
  · subst k1
    rcases hvv with rfl | rfl | rfl | rfl | rfl | rfl | rfl | rfl <;> simp [l0, l1, l2, l3, l4, l5, l6, l7, sA, F_X6_leapFrom_k159, F_X6_leapFrom_k184, F_X6_leapFrom_k204, F_leap206, zb_if]
  · by_cases k3 : k = 3
    · subst k3
      rcases hvv with rfl | rfl | rfl | rfl | rfl | rfl | rfl | rfl <;> simp [l0, l1, l2, l3, l4, l5, l6, l7, sA, F_X6_leapFrom_k159, F_X6_leapFrom_k184, F_X6_leapFrom_k204, F_leap206, zb_if]
    · by_cases k24 : k = 2 ∨ k = 4
      · rcases hvv with rfl | rfl | rfl | rfl | rfl | rfl | rfl | rfl <;> simp [k1, k3, k24, l0, l1, l2, l3, l4, l5, l6, l7, sA, F_X6_leapFrom_k159, F_X6_leapFrom_k184, F_X6_leapFrom_k204, F_leap206, zb_if]
      · rcases hvv with rfl | rfl | rfl | rfl | rfl | rfl | rfl | rfl <;> simp [k1, k3, k24, l0, l1, l2, l3, l4, l5, l6, l7, sA, F_X6_leapFrom_k159, F_X6_leapFrom_k184, F_X6_leapFrom_k204, F_leap206, zb_if]
theorem nIa1 (n : Nat) : nI n + 1 = nI (n + 1) := nI_1 n
theorem nIa2 (n : Nat) : nI n + 2 = nI (n + 2) := nI_add n 2
theorem nIa3 (n : Nat) : nI n + 3 = nI (n + 3) := nI_add n 3
theorem F_leapFromR (M : Mi) (L : Ml) {p v : Nat} (hp : p < 5) (hv : v < 8) (t : Int32) (hm : 0 ≤ M 0 7) : F_X6_leapFrom M L (nI p) t (nI v) = some (sp_land (L 0 9) (M 4 (4 * p + 3)) (M 4 (4 * p)) (M 4 (4 * p + 2)) (M 0 7) t v) := by
  unfold F_X6_leapFrom F_X6_leapFrom_k24 F_X6_leapFrom_k29 F_X6_leapFrom_k43 F_X6_leapFrom_k61 F_X6_leapFrom_k77
  have hw : 0 ≤ nI v := nI_pos' (by omega)
  simp only [i4p, nIa1, nIa2, nIa3, ix_nI (show 4 * p + 3 < 20 by omega) (by decide), ix_nI (show 4 * p + 2 < 20 by omega) (by decide), ix_nI (show 4 * p < 20 by omega) (by decide), nI_clamp (show 4 * p + 3 < 2 ^ 31 by omega), nI_clamp (show 4 * p + 2 < 2 ^ 31 by omega), nI_clamp (show 4 * p < 2 ^ 31 by omega), Option.bind_some, if_true, irm2 hm, irm2 hw]
  have h100 := F_leap100 M L hv t
  generalize M 4 (4 * p + 3) = k
  generalize M 4 (4 * p + 2) = w
  generalize M 4 (4 * p) = num
  generalize M 0 7 = mi
  unfold sp_land sp_leaps
  by_cases k2 : k = 2
  · subst k2
    have h : F_X6_leapFrom_k100 M L t (nI v) 2 1 = _ := h100 2
    by_cases q : irm (nI v) 2 = 0 <;> simp [q, h]
  · by_cases k4 : k = 4
    · subst k4
      have h : F_X6_leapFrom_k100 M L t (nI v) 4 1 = _ := h100 4
      by_cases q : irm (nI v) 2 = 0 <;> by_cases q2 : irm mi 2 = 0 <;> simp [q, q2, h]
    · have h := h100 k
      rw [show zb (decide (k = 2 ∨ k = 4)) = 0 by simp [zb, k2, k4]] at h
      by_cases k3 : k = 3
      · subst k3; by_cases q : nI v = num <;> simp [q, h] <;> simp [← q, h]
      · by_cases k5 : k = 5
        · subst k5; by_cases q : w < 50 <;> simp [le49, q, h]
        · simp [k2, k3, k4, k5, h]
