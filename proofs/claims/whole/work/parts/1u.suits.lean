/-! PURE: suits -/
def suiG (it : Nat → Int32) (size a : Nat) : Nat → Nat → Int32 → Af → Int32 × Af
  | 0, _, c, A => (c, A)
  | d + 1, k, c, A => if a + 3 * k + 3 ≤ size then suiG it size a d (k + 1) (if (s_party A (it (a + 3 * k)) (it (a + 3 * k + 1)) (it (a + 3 * k + 2))).1 < 0 then c else c + 1) (s_party A (it (a + 3 * k)) (it (a + 3 * k + 1)) (it (a + 3 * k + 2))).2 else (-12, A)
def s_suits (σ : Sg) (s sort i n : Int32) : Int32 × Af :=
  if ix s 4 = true then (if ix sort 3 = true then (if ix n 6 = true then (if (uS σ s.toNatClampNeg).1 = -1 then (-11, uA σ) else if (uS σ s.toNatClampNeg).1 = sort then (if n = 0 then (0, uA σ) else if i < 0 then (-12, uA σ) else suiG (uS σ s.toNatClampNeg).2.2 (uS σ s.toNatClampNeg).2.1 i.toNatClampNeg n.toNatClampNeg 0 0 (uA σ)) else (-13, uA σ)) else (-2, uA σ)) else (-2, uA σ)) else (-2, uA σ)
theorem Ws_sui {T : Nat} (it : Nat → Int32) (size a : Nat) : ∀ d k c A, wfA T A → wfA T (suiG it size a d k c A).2 ∧ aM (suiG it size a d k c A).2 = aM A := by
  intro d
  induction d with
  | zero => intro k c A h; exact ⟨h, rfl⟩
  | succ d ih =>
    intro k c A h
    unfold suiG
    by_cases e : a + 3 * k + 3 ≤ size
    · rw [if_pos e]
      have w := Ws_party h (it (a + 3 * k)) (it (a + 3 * k + 1)) (it (a + 3 * k + 2))
      have g := ih (k + 1) (if (s_party A (it (a + 3 * k)) (it (a + 3 * k + 1)) (it (a + 3 * k + 2))).1 < 0 then c else c + 1) _ w.1
      exact ⟨g.1, g.2.trans w.2⟩
    · rw [if_neg e]; exact ⟨h, rfl⟩
theorem Ws_suits {σ : Sg} (hS : WS σ) (s sort i n : Int32) : WS ((s_suits σ s sort i n).2, σ.2) := by
  have key : wfA (uT σ) (s_suits σ s sort i n).2 ∧ aM (s_suits σ s sort i n).2 = aM (uA σ) := by
    unfold s_suits
    by_cases h1 : ix s 4 = true
    · rw [if_pos h1]
      by_cases h2 : ix sort 3 = true
      · rw [if_pos h2]
        by_cases h3 : ix n 6 = true
        · rw [if_pos h3]
          by_cases h4 : (uS σ s.toNatClampNeg).1 = -1
          · rw [if_pos h4]; exact ⟨hS.1, rfl⟩
          rw [if_neg h4]
          by_cases h5 : (uS σ s.toNatClampNeg).1 = sort
          · rw [if_pos h5]
            by_cases h6 : n = 0
            · rw [if_pos h6]; exact ⟨hS.1, rfl⟩
            rw [if_neg h6]
            by_cases h7 : i < 0
            · rw [if_pos h7]; exact ⟨hS.1, rfl⟩
            rw [if_neg h7]; exact Ws_sui _ _ _ _ _ _ _ hS.1
          · rw [if_neg h5]; exact ⟨hS.1, rfl⟩
        · rw [if_neg h3]; exact ⟨hS.1, rfl⟩
      · rw [if_neg h2]; exact ⟨hS.1, rfl⟩
    · rw [if_neg h1]; exact ⟨hS.1, rfl⟩
  refine ⟨key.1, ?_, hS.2.2⟩
  show aM (s_suits σ s sort i n).2 ≤ 999
  rw [key.2]; exact hS.2.1
theorem i3k (k : Nat) : (3 : Int32) * nI k = nI (3 * k) := pk_mul 3 k
theorem X_suits_k {E : Ev} {σ : Sg} {s N a : Nat} (hs : s < 4) (hN : N ≤ 5) (hT : uT σ ≤ 6) (h4 : ¬ (uS σ s).1 = -1) (hz : (uS σ s).2.1 ≤ 40) :
    ∀ d k m (M : Mi) (L : Ml) (c : Int32) (A : Af), k + d = N → d < m → a + 3 * k < 2 ^ 31 → wfA (uT σ) A → XI E M L (A, σ.2) → ∃ M', F_X5_suits_k62 m M L (nI a) (nI N) (28 + 2 * s) c (nI k) = some ((suiG (uS σ s).2.2 (uS σ s).2.1 a d k c A).1, M', L) ∧ XI E M' L ((suiG (uS σ s).2.2 (uS σ s).2.1 a d k c A).2, σ.2) := by
  intro d
  induction d with
  | zero =>
    intro k m M L c A hk hm ha hw hX
    obtain ⟨m, rfl⟩ : ∃ q, m = q + 1 := ⟨m - 1, by omega⟩
    rw [F_X5_suits_k62, if_pos (nI_le (by omega) (by omega))]
    exact ⟨M, rfl, hX⟩
  | succ d ih =>
    intro k m M L c A hk hm ha hw hX
    obtain ⟨m, rfl⟩ : ∃ q, m = q + 1 := ⟨m - 1, by omega⟩
    obtain ⟨g3, g4⟩ := (hX.2.2.2.2 s hs).2.resolve_left h4
    replace g4 : ∀ i, i < (uS σ s).2.1 → M (28 + 2 * s + 1) i = (uS σ s).2.2 i := g4
    have eh : okH (nI (a + 3 * k)) 3 (uS σ s).2.1 = decide (a + 3 * k + 3 ≤ (uS σ s).2.1) := by
      unfold okH
      rw [nI_toInt ha, show (3 : Int32).toInt = 3 from rfl]
      exact decide_eq_decide.mpr (by omega)
    rw [F_X5_suits_k62, if_neg (nI_ge (by omega) (by omega)), i3k, nI_add, X_hasG L g3 hz, Option.bind_some, zb_if, eh]
    unfold suiG
    by_cases e : a + 3 * k + 3 ≤ (uS σ s).2.1
    · rw [if_pos (decide_eq_true e), if_pos e]
      obtain ⟨M1, b1, b2, b3⟩ := X_party hw hX.1 ((uS σ s).2.2 (a + 3 * k)) ((uS σ s).2.2 (a + 3 * k + 1)) ((uS σ s).2.2 (a + 3 * k + 2))
      have I1 : XI E M1 L ((s_party A ((uS σ s).2.2 (a + 3 * k)) ((uS σ s).2.2 (a + 3 * k + 1)) ((uS σ s).2.2 (a + 3 * k + 2))).2, σ.2) := hX.now b2 (fun k _ hk => b3 k (by omega)) (fun _ _ => rfl)
      have w1 := (Ws_party hw ((uS σ s).2.2 (a + 3 * k)) ((uS σ s).2.2 (a + 3 * k + 1)) ((uS σ s).2.2 (a + 3 * k + 2))).1
      rw [if_pos (ix_nI (by omega) (by decide)), nI_1, if_pos (ix_nI (by omega) (by decide)), nIa2, if_pos (ix_nI (by omega) (by decide)), nI_clamp (show a + 3 * k < 2 ^ 31 by omega), nI_clamp (show a + 3 * k + 1 < 2 ^ 31 by omega), nI_clamp (show a + 3 * k + 2 < 2 ^ 31 by omega), g4 _ (by omega), g4 _ (by omega), g4 _ (by omega), b1]
      simp only [Option.bind_some]
      unfold F_X5_suits_k129
      have hk1 : nI k + 1 = nI (k + 1) := nI_1 k
      rw [hk1]
      by_cases e2 : (s_party A ((uS σ s).2.2 (a + 3 * k)) ((uS σ s).2.2 (a + 3 * k + 1)) ((uS σ s).2.2 (a + 3 * k + 2))).1 < 0
      · rw [if_pos e2, if_pos e2]; exact ih (k + 1) m M1 L c _ (by omega) (by omega) (by omega) w1 I1
      · rw [if_neg e2, if_neg e2]; exact ih (k + 1) m M1 L (c + 1) _ (by omega) (by omega) (by omega) w1 I1
    · rw [if_neg (show ¬ decide (a + 3 * k + 3 ≤ (uS σ s).2.1) = true by rw [decide_eq_true_iff]; exact e), if_neg e]
      exact ⟨M, rfl, hX⟩
theorem X_suits {E : Ev} {M : Mi} {L : Ml} {σ : Sg} (hS : WS σ) (h : XI E M L σ) (s sort i n : Int32) : ∃ M', F_X5_suits M L s sort i n = some ((s_suits σ s sort i n).1, M', L) ∧ XI E M' L ((s_suits σ s sort i n).2, σ.2) := by
  have hT := h.2.2.1.2.1
  have w2 : F_X5_isWithin sort 2 = some (zb (ix sort 3)) := F_isWithinN sort (m := 2) (by decide)
  have w5 : F_X5_isWithin n 5 = some (zb (ix n 6)) := F_isWithinN n (m := 5) (by decide)
  unfold F_X5_suits s_suits
  rw [X_sheetAt, Option.bind_some]
  by_cases h1 : ix s 4 = true
  · rw [if_pos h1, if_pos h1]
    obtain ⟨k, hk, rfl⟩ := ix_of h1 (by decide)
    rw [nI_clamp (show k < 2 ^ 31 by omega)]
    dsimp only
    rw [if_pos (shc_ok k hk), w2, w5]
    simp only [Option.bind_some, zb_if]
    by_cases h2 : ix sort 3 = true
    · rw [if_pos h2, if_pos h2]
      by_cases h3 : ix n 6 = true
      · rw [if_pos h3, if_pos h3]
        obtain ⟨g1, g2⟩ := h.2.2.2.2 k hk
        rw [g1]
        by_cases h4 : (uS σ k).1 = -1
        · rw [if_pos h4, if_pos h4]; exact ⟨M, rfl, h⟩
        rw [if_neg h4, if_neg h4]
        obtain ⟨g3, g4⟩ := g2.resolve_left h4
        have hz := ((hS.2.2.2.2.2 k hk).resolve_left h4).2
        by_cases h5 : (uS σ k).1 = sort
        · rw [if_pos h5, if_pos h5]
          obtain ⟨N, hN, rfl⟩ := ix_of h3 (by decide)
          by_cases h6 : nI N = 0
          · rw [if_pos h6, show FU = 999 + 1 from rfl, F_X5_suits_k62, if_pos (show nI N ≤ 0 by rw [h6]; decide)]; exact ⟨M, rfl, h⟩
          rw [if_neg h6]
          have hN0 : N ≠ 0 := fun q => h6 (by rw [q]; rfl)
          by_cases h7 : i < 0
          · rw [if_pos h7, show FU = 999 + 1 from rfl, F_X5_suits_k62, if_neg (show ¬ nI N ≤ 0 from nI_ge (a := 0) (by omega) (by omega)), X_hasG L g3 hz, Option.bind_some, zb_if, if_neg (show ¬ okH (i + 3 * 0) 3 (uS σ k).2.1 = true by
              unfold okH
              rw [decide_eq_true_iff, Int32.mul_zero, Int32.add_zero]
              rw [i_lt, show (0 : Int32).toInt = 0 from rfl] at h7; omega)]
            exact ⟨M, rfl, h⟩
          · rw [if_neg h7]
            obtain ⟨a, ha, rfl⟩ := nI_of h7
            rw [nI_clamp (show a < 2 ^ 31 by omega), nI_clamp (show N < 2 ^ 31 by omega)]
            exact X_suits_k hk (by omega) hT h4 hz N 0 FU M L 0 (uA σ) (by omega) (by unfold FU; omega) (by omega) hS.1 h
        · rw [if_neg h5, if_neg h5]; exact ⟨M, rfl, h⟩
      · rw [if_neg h3, if_neg h3]; exact ⟨M, rfl, h⟩
    · rw [if_neg h2, if_neg h2]; exact ⟨M, rfl, h⟩
  · rw [if_neg h1, if_neg h1]; exact ⟨M, rfl, h⟩
theorem sub3k {size k : Nat} (hz : size ≤ 40) (hk : k ≤ 5) : (nI size - nI (3 * k) - 3).toInt = (size : Int) - 3 * k - 3 := by
  rw [Int32.toInt_sub, pk_sub_toInt (by omega) (by omega), show (3 : Int32).toInt = 3 from rfl, Int.bmod_eq_of_le (by omega) (by omega)]
  omega
theorem Y_suits_k {σ : Sg} {s N a : Nat} (hs : s < 4) (hN : N ≤ 5) (h4 : ¬ (uS σ s).1 = -1) (hz : (uS σ s).2.1 ≤ 40) (ha : a < 2 ^ 31) :
    ∀ d k m (R : Mi) (S : Ml) (c : Int32) (A : Af), k + d = N → d < m → wfA (uT σ) A → YI R S (A, σ.2) → ∃ R', F_X6_suits_k75 m R S (nI s) (nI a) (nI N) c (nI k) = some ((suiG (uS σ s).2.2 (uS σ s).2.1 a d k c A).1, R', S) ∧ YI R' S ((suiG (uS σ s).2.2 (uS σ s).2.1 a d k c A).2, σ.2) := by
  intro d
  induction d with
  | zero =>
    intro k m R S c A hk hm hw hX
    obtain ⟨m, rfl⟩ : ∃ q, m = q + 1 := ⟨m - 1, by omega⟩
    rw [F_X6_suits_k75, if_pos (nI_le (by omega) (by omega))]
    exact ⟨R, rfl, hX⟩
  | succ d ih =>
    intro k m R S c A hk hm hw hX
    obtain ⟨m, rfl⟩ : ∃ q, m = q + 1 := ⟨m - 1, by omega⟩
    obtain ⟨-, g3, g4⟩ := (hX.2.2.2.2.1 s hs).2.resolve_left h4
    replace g4 : ∀ i, i < (uS σ s).2.1 → R 10 (40 * s + i) = (uS σ s).2.2 i := g4
    rw [F_X6_suits_k75, if_neg (nI_ge (by omega) (by omega)), if_neg (nI_pos ha), if_pos (ix_nI hs (by decide)), nI_clamp (show s < 2 ^ 31 by omega), g3, i3k]
    unfold suiG
    by_cases e : a + 3 * k + 3 ≤ (uS σ s).2.1
    · rw [if_pos (show nI a ≤ nI (uS σ s).2.1 - nI (3 * k) - 3 by rw [i_le, sub3k hz (by omega), nI_toInt ha]; omega), if_pos e, Option.bind_some]
      obtain ⟨R1, b1, b2, b3, b4⟩ := Y_party hw hX.1 ((uS σ s).2.2 (a + 3 * k)) ((uS σ s).2.2 (a + 3 * k + 1)) ((uS σ s).2.2 (a + 3 * k + 2))
      have I1 : YI R1 S ((s_party A ((uS σ s).2.2 (a + 3 * k)) ((uS σ s).2.2 (a + 3 * k + 1)) ((uS σ s).2.2 (a + 3 * k + 2))).2, σ.2) := hX.now b2 (fun k a b _ => b3 k a b) (fun j hj => b4 j (by omega)) (fun _ _ => rfl)
      have w1 := (Ws_party hw ((uS σ s).2.2 (a + 3 * k)) ((uS σ s).2.2 (a + 3 * k + 1)) ((uS σ s).2.2 (a + 3 * k + 2))).1
      have e1 : (40 : Int32) * nI s + nI a + nI (3 * k) = nI (40 * s + (a + 3 * k)) := by rw [show (40 : Int32) = nI 40 from rfl, pk_mul, nI_add, nI_add]; congr 1; omega
      rw [e1, nI_1, nIa2, if_pos (ix_nI (by omega) (by decide)), if_pos (ix_nI (by omega) (by decide)), if_pos (ix_nI (by omega) (by decide)), nI_clamp (show 40 * s + (a + 3 * k) < 2 ^ 31 by omega), nI_clamp (show 40 * s + (a + 3 * k) + 1 < 2 ^ 31 by omega), nI_clamp (show 40 * s + (a + 3 * k) + 2 < 2 ^ 31 by omega), g4 _ (by omega), show 40 * s + (a + 3 * k) + 1 = 40 * s + (a + 3 * k + 1) by omega, g4 _ (by omega), show 40 * s + (a + 3 * k) + 2 = 40 * s + (a + 3 * k + 2) by omega, g4 _ (by omega), b1]
      simp only [Option.bind_some]
      unfold F_X6_suits_k158
      rw [nI_1]
      by_cases e2 : (s_party A ((uS σ s).2.2 (a + 3 * k)) ((uS σ s).2.2 (a + 3 * k + 1)) ((uS σ s).2.2 (a + 3 * k + 2))).1 < 0
      · rw [if_pos e2, if_pos e2, Int32.add_zero]; exact ih (k + 1) m R1 S c _ (by omega) (by omega) w1 I1
      · rw [if_neg e2, if_neg e2]; exact ih (k + 1) m R1 S (c + 1) _ (by omega) (by omega) w1 I1
    · rw [if_neg (show ¬ nI a ≤ nI (uS σ s).2.1 - nI (3 * k) - 3 by rw [i_le, sub3k hz (by omega), nI_toInt ha]; omega), if_neg e]
      exact ⟨R, rfl, hX⟩
theorem Y_suits {R : Mi} {S : Ml} {σ : Sg} (hS : WS σ) (h : YI R S σ) (s sort i n : Int32) : ∃ R', F_X6_suits R S s sort i n = some ((s_suits σ s sort i n).1, R', S) ∧ YI R' S ((s_suits σ s sort i n).2, σ.2) := by
  unfold F_X6_suits F_X6_isSheet F_X6_suits_k57 s_suits
  rw [F_inN s 3 rfl, Option.bind_some, rz_zb, Option.bind_some, zb_if, F_inN sort 2 rfl, Option.bind_some, zb_if, F_inN n 5 rfl, Option.bind_some, zb_if]
  by_cases h1 : ix s 4 = true
  · obtain ⟨k, hk, rfl⟩ := ix_of h1 (by decide)
    simp only [if_pos h1, nI_clamp (show k < 2 ^ 31 by omega)]
    by_cases h2 : ix sort 3 = true
    · rw [if_pos h2, if_pos h2]
      by_cases h3 : ix n 6 = true
      · rw [if_pos h3, if_pos h3]
        obtain ⟨g1, g2⟩ := h.2.2.2.2.1 k hk
        rw [g1]
        by_cases h4 : (uS σ k).1 = -1
        · rw [if_pos h4, if_pos h4, if_pos (show (0 : Int32) = 0 from rfl), if_pos (show (0 : Int32) = 0 from rfl)]; exact ⟨R, rfl, h⟩
        rw [if_neg h4, if_neg h4, if_neg (show ¬ (1 : Int32) = 0 by decide), if_neg (show ¬ (1 : Int32) = 0 by decide)]
        obtain ⟨g5, g3, g4⟩ := g2.resolve_left h4
        have hz := ((hS.2.2.2.2.2 k hk).resolve_left h4).2
        rw [g5]
        by_cases h5 : (uS σ k).1 = sort
        · rw [if_pos h5, if_pos h5]
          obtain ⟨N, hN, rfl⟩ := ix_of h3 (by decide)
          by_cases h6 : nI N = 0
          · rw [if_pos h6, show FU = 999 + 1 from rfl, F_X6_suits_k75, if_pos (show nI N ≤ 0 by rw [h6]; decide)]; exact ⟨R, rfl, h⟩
          rw [if_neg h6]
          have hN0 : N ≠ 0 := fun q => h6 (by rw [q]; rfl)
          by_cases h7 : i < 0
          · rw [if_pos h7, show FU = 999 + 1 from rfl, F_X6_suits_k75, if_neg (show ¬ nI N ≤ 0 from nI_ge (a := 0) (by omega) (by omega)), if_pos h7]
            exact ⟨R, rfl, h⟩
          · rw [if_neg h7]
            obtain ⟨a, ha, rfl⟩ := nI_of h7
            rw [nI_clamp (show a < 2 ^ 31 by omega), nI_clamp (show N < 2 ^ 31 by omega)]
            exact Y_suits_k hk (by omega) h4 hz ha N 0 FU R S 0 (uA σ) (by omega) (by unfold FU; omega) hS.1 h
        · rw [if_neg h5, if_neg h5]; exact ⟨R, rfl, h⟩
      · rw [if_neg h3, if_neg h3]; exact ⟨R, rfl, h⟩
    · rw [if_neg h2, if_neg h2]; exact ⟨R, rfl, h⟩
  · rw [if_neg h1, if_neg h1]; exact ⟨R, rfl, h⟩
