/-! PURE: the reference's tokenizer over the same tokens -/
/-- the reference's text at hand: its bytes begin at o in the cell 1, n of them -/
def RT (f : Nat → Int32) (n o : Nat) (M : Mi) : Prop := n ≤ 160 ∧ o + 160 ≤ 960 ∧ M 0 19 = nI o ∧ M 0 20 = nI n ∧ (∀ i, i < n → M 1 (o + i) = f i) ∧ ∀ i, i < n → 0 ≤ (f i).toInt
theorem RT.keep {f : Nat → Int32} {n o : Nat} {M M' : Mi} (h : RT f n o M) (h1 : M' 1 = M 1) (h2 : M' 0 19 = M 0 19) (h3 : M' 0 20 = M 0 20) : RT f n o M' :=
  ⟨h.1, h.2.1, by rw [h2]; exact h.2.2.1, by rw [h3]; exact h.2.2.2.1, fun i hi => by rw [h1]; exact h.2.2.2.2.1 i hi, h.2.2.2.2.2⟩
theorem F_byteAtR {f : Nat → Int32} {n o : Nat} {M : Mi} (L : Ml) (h : RT f n o M) {i : Nat} (hi : i < 2 ^ 20) : F_X6_byteAt M L (nI i) = some (if i < n then f i else -1) := by
  obtain ⟨h1, h2, h3, h4, h5, h6⟩ := h
  unfold F_X6_byteAt
  rw [h4, h3]
  by_cases hc : i < n
  · rw [if_neg (nI_ge hc (by omega)), nI_add, if_pos (ix_nI (by omega) (by decide)), nI_clamp (by omega), if_pos hc, h5 i hc]
  · rw [if_pos (nI_le (by omega) (by omega)), if_neg hc]
theorem F_inByte (x : Int32) (a b : Int64) (ha : Int32) (hb : Int32) (e1 : a.toInt = ha.toInt) (e2 : b.toInt = hb.toInt) : F_X6_in x.toInt64 a b = some (zb (decide (ha.toInt ≤ x.toInt ∧ x.toInt ≤ hb.toInt))) := by
  rw [F_in, toL, e1, e2]
theorem F_inLet (x : Int32) : F_X6_in x.toInt64 (97 : Int64) (122 : Int64) = some (zb (isLet x)) := F_inByte x 97 122 97 122 rfl rfl
theorem F_inDig (x : Int32) : F_X6_in x.toInt64 (48 : Int64) (57 : Int64) = some (zb (isDig x)) := F_inByte x 48 57 48 57 rfl rfl
/-- the token's class as the reference has it -/
def rc (f : Nat → Int32) (n p : Nat) : Int32 :=
  if n ≤ ta f n p then 0 else if isLet (f (ta f n p)) = true then 1 else if isDig (f (ta f n p)) = true then (if te f n p - ta f n p ≤ 4 then 2 else 4) else if isSgn (f (ta f n p)) = true then 3 else 4
def rtokd (f : Nat → Int32) (n p : Nat) (M M' : Mi) (L L' : Ml) : Prop :=
  (∀ k, k ≠ 0 → M' k = M k) ∧ (∀ j, j ≠ 21 → j ≠ 22 → j ≠ 23 → M' 0 j = M 0 j) ∧ (∀ k j, (k ≠ 0 ∨ j ≠ 24) → L' k j = L k j) ∧ M' 0 22 = rc f n p ∧ M' 0 23 = nI (ta f n p) ∧ (rc f n p ≠ 4 → M' 0 21 = nI (te f n p)) ∧ (rc f n p = 2 → L' 0 24 = (tv f n p).toInt64) ∧ (rc f n p = 3 → L' 0 24 = (tc f n p).toInt64)
/-- the blanks -/
theorem nx_blanks (f : Nat → Int32) (n o : Nat) (L : Ml) (K : Mi → Option (Mi × Ml)) (hK : ∀ (M : Mi) (p m : Nat), RT f n o M → M 0 21 = nI p → p ≤ n → ¬ (p < n ∧ isBl (f p) = true) → F_X6_next_k0 (m + 1) M L = K M) : ∀ (d p m : Nat) (M : Mi), RT f n o M → M 0 21 = nI p → p ≤ n → n - p ≤ d → d < m → F_X6_next_k0 m M L = K (up2 M 0 21 (nI (ta f n p))) := by
  intro d
  induction d with
  | zero =>
    intro p m M hR h21 hp hd hm
    obtain ⟨m, rfl⟩ : ∃ q, m = q + 1 := ⟨m - 1, by omega⟩
    unfold ta; rw [rto_stop (by omega), up2_id h21]
    exact hK M p m hR h21 hp (by omega)
  | succ d ih =>
    intro p m M hR h21 hp hd hm
    obtain ⟨m, rfl⟩ : ∃ q, m = q + 1 := ⟨m - 1, by omega⟩
    by_cases hb : p < n ∧ isBl (f p) = true
    · have hn := hR.1
      have go : F_X6_next_k0 m (up2 M 0 21 (nI (p + 1))) L = K (up2 M 0 21 (nI (ta f n p))) := by
        rw [ih (p + 1) m (up2 M 0 21 (nI (p + 1))) (hR.keep (up2_ne (by decide)) (up2_b (by decide)) (up2_b (by decide))) (up2_at _ _ _ _) (by omega) (by omega) (by omega), up2_same]
        unfold ta; rw [rto_go hb.1 hb.2]
      rw [F_X6_next_k0, h21, F_byteAtR L hR (by omega), if_pos hb.1, Option.bind_some]
      unfold F_X6_next_k26
      rw [h21, nI_1]
      by_cases h32 : f p = 32
      · rw [if_pos h32]; exact go
      · rw [if_neg h32, Option.bind_some]
        have h10 : f p = 10 := by
          have := hb.2; simp only [isBl, decide_eq_true_eq] at this; rcases this with q | q
          · exact absurd q h32
          · exact q
        rw [if_pos h10]; exact go
    · unfold ta; rw [rto_stop hb, up2_id h21]
      exact hK M p m hR h21 hp hb
theorem nx_word (f : Nat → Int32) (n o : Nat) (L : Ml) : ∀ (d p m : Nat) (M : Mi), RT f n o M → M 0 21 = nI p → p ≤ n → n - p ≤ d → d < m → F_X6_next_k100 m M L = some (up2 M 0 21 (nI (rto isLet f n p)), L) := by
  intro d
  induction d with
  | zero =>
    intro p m M hR h21 hp hd hm
    have hn := hR.1
    obtain ⟨m, rfl⟩ : ∃ q, m = q + 1 := ⟨m - 1, by omega⟩
    rw [F_X6_next_k100, h21, F_byteAtR L hR (by omega), if_neg (by omega), Option.bind_some, F_inLet, Option.bind_some, zb_if, if_neg (by decide), rto_stop (by omega), up2_id h21]
  | succ d ih =>
    intro p m M hR h21 hp hd hm
    have hn := hR.1
    obtain ⟨m, rfl⟩ : ∃ q, m = q + 1 := ⟨m - 1, by omega⟩
    rw [F_X6_next_k100, h21, F_byteAtR L hR (by omega), Option.bind_some, F_inLet, Option.bind_some, zb_if]
    by_cases hb : p < n ∧ isLet (f p) = true
    · rw [if_pos hb.1, if_pos hb.2, nI_1, ih (p + 1) m _ (hR.keep (up2_ne (by decide)) (up2_b (by decide)) (up2_b (by decide))) (up2_at _ _ _ _) (by omega) (by omega) (by omega), up2_same, rto_go hb.1 hb.2]
    · rw [rto_stop hb, up2_id h21]
      by_cases hp2 : p < n
      · rw [if_pos hp2, if_neg (fun q => hb ⟨hp2, q⟩)]
      · rw [if_neg hp2, if_neg (by decide)]
/-- the number's worth, as a long, of k digits -/
def lval (f : Nat → Int32) (a : Nat) : Nat → Int64
  | 0 => 0
  | k + 1 => 10 * lval f a k + (f (a + k)).toInt64 - 48
theorem lval_dval (f : Nat → Int32) (a : Nat) : ∀ k, k ≤ 4 → (∀ j, j < k → isDig (f (a + j)) = true) → (dval f a k).toInt = (lval f a k).toInt ∧ 0 ≤ (lval f a k).toInt ∧ (lval f a k).toInt < 10 ^ k := by
  intro k
  induction k with
  | zero => intro _ _; exact ⟨rfl, (by show 0 ≤ (0 : Int64).toInt; decide), (by show (0 : Int64).toInt < 10 ^ 0; decide)⟩
  | succ k ih =>
    intro hk hd
    obtain ⟨h1, h2, h3⟩ := ih (by omega) (fun j hj => hd j (by omega))
    have hdk := hd k (by omega)
    simp only [isDig, decide_eq_true_eq] at hdk
    have h10 : (10 : Int) ^ k ≤ 1000 := by
      have : k ≤ 3 := by omega
      rcases (show k = 0 ∨ k = 1 ∨ k = 2 ∨ k = 3 by omega) with rfl | rfl | rfl | rfl <;> decide
    have e1 : ((10 : Int32) * dval f a k).toInt = 10 * (dval f a k).toInt := by
      rw [Int32.toInt_mul, show (10 : Int32).toInt = 10 from rfl, Int.bmod_eq_of_le (by omega) (by omega)]
    have e2 : ((10 : Int32) * dval f a k + f (a + k)).toInt = 10 * (dval f a k).toInt + (f (a + k)).toInt := by
      rw [Int32.toInt_add, e1, Int.bmod_eq_of_le (by omega) (by omega)]
    have e3 : (dval f a (k + 1)).toInt = 10 * (dval f a k).toInt + (f (a + k)).toInt - 48 := by
      rw [dval, Int32.toInt_sub, e2, show (48 : Int32).toInt = 48 from rfl, Int.bmod_eq_of_le (by omega) (by omega)]
    have g1 : ((10 : Int64) * lval f a k).toInt = 10 * (lval f a k).toInt := by
      rw [Int64.toInt_mul, show (10 : Int64).toInt = 10 from rfl, Int.bmod_eq_of_le (by omega) (by omega)]
    have g2 : ((10 : Int64) * lval f a k + (f (a + k)).toInt64).toInt = 10 * (lval f a k).toInt + (f (a + k)).toInt := by
      rw [Int64.toInt_add, g1, toL, Int.bmod_eq_of_le (by omega) (by omega)]
    have g3 : (lval f a (k + 1)).toInt = 10 * (lval f a k).toInt + (f (a + k)).toInt - 48 := by
      rw [lval, Int64.toInt_sub, g2, show (48 : Int64).toInt = 48 from rfl, Int.bmod_eq_of_le (by omega) (by omega)]
    refine ⟨by rw [e3, g3, h1], by rw [g3]; omega, ?_⟩
    rw [g3, Int.pow_succ]; omega
theorem nx_num (f : Nat → Int32) (n o a : Nat) : ∀ (d p m : Nat) (M : Mi) (L : Ml), RT f n o M → M 0 21 = nI p → a ≤ p → p ≤ n → L 0 24 = lval f a (min 4 (p - a)) → n - p ≤ d → d < m → ∃ L', F_X6_next_k160 m M L (nI (p - a)) = some (up2 (up2 M 0 21 (nI (rto isDig f n p))) 0 22 (if rto isDig f n p - a ≤ 4 then 2 else 4), L') ∧ (∀ k j, (k ≠ 0 ∨ j ≠ 24) → L' k j = L k j) ∧ L' 0 24 = lval f a (min 4 (rto isDig f n p - a)) := by
  intro d
  have fin : ∀ (p : Nat) (M : Mi) (L : Ml), n ≤ 160 → M 0 21 = nI p → p ≤ n → L 0 24 = lval f a (min 4 (p - a)) → ¬ (p < n ∧ isDig (f p) = true) → ∃ L', (if nI (p - a) ≤ 4 then F_X6_next_k246 M L 2 else F_X6_next_k246 M L 4) = some (up2 (up2 M 0 21 (nI (rto isDig f n p))) 0 22 (if rto isDig f n p - a ≤ 4 then 2 else 4), L') ∧ (∀ k j, (k ≠ 0 ∨ j ≠ 24) → L' k j = L k j) ∧ L' 0 24 = lval f a (min 4 (rto isDig f n p - a)) := by
    intro p M L hn h21 hp hL hs
    rw [rto_stop hs, up2_id h21]
    refine ⟨L, ?_, fun _ _ _ => rfl, hL⟩
    unfold F_X6_next_k246
    by_cases h4 : p - a ≤ 4
    · rw [if_pos (show nI (p - a) ≤ (4 : Int32) from nI_le (b := 4) h4 (by decide)), if_pos h4]
    · rw [if_neg (show ¬ nI (p - a) ≤ (4 : Int32) from nI_ge (a := 4) (by omega) (by omega)), if_neg h4]
  induction d with
  | zero =>
    intro p m M L hR h21 hap hp hL hd hm
    have hn := hR.1
    obtain ⟨m, rfl⟩ : ∃ q, m = q + 1 := ⟨m - 1, by omega⟩
    rw [F_X6_next_k160, h21, F_byteAtR L hR (by omega), if_neg (by omega), Option.bind_some, F_inDig, Option.bind_some, zb_if, if_neg (by decide)]
    exact fin p M L hn h21 hp hL (by omega)
  | succ d ih =>
    intro p m M L hR h21 hap hp hL hd hm
    have hn := hR.1
    obtain ⟨m, rfl⟩ : ∃ q, m = q + 1 := ⟨m - 1, by omega⟩
    rw [F_X6_next_k160, h21, F_byteAtR L hR (by omega), Option.bind_some, F_inDig, Option.bind_some, zb_if]
    by_cases hb : p < n ∧ isDig (f p) = true
    · rw [if_pos hb.1, if_pos hb.2, Option.bind_some]
      have step : ∀ s1, s1 = lval f a (min 4 (p + 1 - a)) → ∃ L', F_X6_next_k216 (F_X6_next_k160 m) M L (nI (p - a)) s1 = some (up2 (up2 M 0 21 (nI (rto isDig f n p))) 0 22 (if rto isDig f n p - a ≤ 4 then 2 else 4), L') ∧ (∀ k j, (k ≠ 0 ∨ j ≠ 24) → L' k j = L k j) ∧ L' 0 24 = lval f a (min 4 (rto isDig f n p - a)) := by
        intro s1 hs1
        unfold F_X6_next_k216
        rw [h21, nI_1, nI_1, show p - a + 1 = p + 1 - a by omega]
        obtain ⟨L', q1, q2, q3⟩ := ih (p + 1) m (up2 M 0 21 (nI (p + 1))) (up2 L 0 24 s1) (hR.keep (up2_ne (by decide)) (up2_b (by decide)) (up2_b (by decide))) (up2_at _ _ _ _) (by omega) (by omega) (by rw [up2_at]; exact hs1) (by omega) (by omega)
        rw [up2_same] at q1
        rw [rto_go hb.1 hb.2]
        refine ⟨L', q1, fun k j hkj => ?_, q3⟩
        rw [q2 k j hkj]
        rcases hkj with hk | hj
        · exact up2_a hk
        · by_cases hk : k = 0
          · subst hk; exact up2_b hj
          · exact up2_a hk
      by_cases h4 : 4 ≤ p - a
      · rw [if_pos (show (4 : Int32) ≤ nI (p - a) from nI_le (a := 4) h4 (by omega))]
        exact step _ (by rw [hL, show min 4 (p - a) = 4 by omega, show min 4 (p + 1 - a) = 4 by omega])
      · rw [if_neg (show ¬ (4 : Int32) ≤ nI (p - a) from nI_ge (b := 4) (by omega) (by decide))]
        exact step _ (by rw [hL, show min 4 (p + 1 - a) = (p - a) + 1 by omega, show min 4 (p - a) = p - a by omega, lval, show a + (p - a) = p by omega])
    · by_cases hp2 : p < n
      · rw [if_pos hp2, if_neg (fun q => hb ⟨hp2, q⟩)]; exact fin p M L hn h21 hp hL hb
      · rw [if_neg hp2, if_neg (by decide)]; exact fin p M L hn h21 hp hL hb
