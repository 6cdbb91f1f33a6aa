/-! PURE: copy, suits -/
def s_copy (σ : Sg) (s i o j n : Int32) : Int32 × Sg :=
  if ix s 4 = true then (if ix o 4 = true then (if (uS σ s.toNatClampNeg).1 = -1 then (-11, σ) else if (uS σ o.toNatClampNeg).1 = -1 then (-11, σ) else
    if (uS σ s.toNatClampNeg).1 = (uS σ o.toNatClampNeg).1 then (if okH i n (uS σ s.toNatClampNeg).2.1 = true then (if okH j n (uS σ o.toNatClampNeg).2.1 = true then
      (n, uSh σ o.toNatClampNeg ((uS σ o.toNatClampNeg).1, (uS σ o.toNatClampNeg).2.1, va_cpy (uS σ s.toNatClampNeg).2.2 (uS σ o.toNatClampNeg).2.2 i.toNatClampNeg j.toNatClampNeg n.toNatClampNeg)) else (-12, σ)) else (-12, σ)) else (-13, σ)) else (-2, σ)) else (-2, σ)
theorem okH_of {i n : Int32} {size : Nat} (h : okH i n size = true) (hz : size ≤ 40) : ∃ a c, a + c ≤ size ∧ i = nI a ∧ n = nI c := by
  unfold okH at h
  rw [decide_eq_true_iff] at h
  exact ⟨i.toInt.toNat, n.toInt.toNat, by omega, by rw [i_eq, nI_toInt (by omega)]; omega, by rw [i_eq, nI_toInt (by omega)]; omega⟩
theorem Ws_copy {σ : Sg} (hS : WS σ) (s i o j n : Int32) : WS (s_copy σ s i o j n).2 := by
  unfold s_copy
  by_cases h1 : ix s 4 = true
  · rw [if_pos h1]
    by_cases h2 : ix o 4 = true
    · rw [if_pos h2]
      by_cases h3 : (uS σ s.toNatClampNeg).1 = -1
      · rw [if_pos h3]; exact hS
      rw [if_neg h3]
      by_cases h4 : (uS σ o.toNatClampNeg).1 = -1
      · rw [if_pos h4]; exact hS
      rw [if_neg h4]
      by_cases h5 : (uS σ s.toNatClampNeg).1 = (uS σ o.toNatClampNeg).1
      · rw [if_pos h5]
        by_cases h6 : okH i n (uS σ s.toNatClampNeg).2.1 = true
        · rw [if_pos h6]
          by_cases h7 : okH j n (uS σ o.toNatClampNeg).2.1 = true
          · rw [if_pos h7]; exact WS_sh hS (Or.inr ((hS.2.2.2.2.2 _ (ix_self h2 (by decide)).2).resolve_left h4))
          · rw [if_neg h7]; exact hS
        · rw [if_neg h6]; exact hS
      · rw [if_neg h5]; exact hS
    · rw [if_neg h2]; exact hS
  · rw [if_neg h1]; exact hS
theorem X_copy {E : Ev} {M : Mi} {L : Ml} {σ : Sg} (hS : WS σ) (h : XI E M L σ) (s i o j n : Int32) : ∃ M', F_X5_copy M L s i o j n = some ((s_copy σ s i o j n).1, M', L) ∧ XI E M' L (s_copy σ s i o j n).2 := by
  unfold F_X5_copy s_copy
  rw [X_sheetAt, X_sheetAt, Option.bind_some, Option.bind_some]
  by_cases h1 : ix s 4 = true
  · rw [if_pos h1, if_pos h1]
    obtain ⟨k, hk, rfl⟩ := ix_of h1 (by decide)
    rw [nI_clamp (show k < 2 ^ 31 by omega)]
    dsimp only
    rw [if_pos (shc_ok k hk)]
    by_cases h2 : ix o 4 = true
    · rw [if_pos h2, if_pos h2]
      obtain ⟨l, hl, rfl⟩ := ix_of h2 (by decide)
      rw [nI_clamp (show l < 2 ^ 31 by omega), Option.bind_some]
      dsimp only
      rw [if_pos (shc_ok l hl)]
      obtain ⟨g1, g2⟩ := h.2.2.2.2 k hk
      obtain ⟨q1, q2⟩ := h.2.2.2.2 l hl
      rw [g1, q1]
      by_cases h3 : (uS σ k).1 = -1
      · rw [if_pos h3, if_pos h3]; exact ⟨M, rfl, h⟩
      rw [if_neg h3, if_neg h3]
      by_cases h4 : (uS σ l).1 = -1
      · rw [if_pos h4, if_pos h4]; exact ⟨M, rfl, h⟩
      rw [if_neg h4, if_neg h4]
      obtain ⟨g3, g4⟩ := g2.resolve_left h3
      obtain ⟨q3, q4⟩ := q2.resolve_left h4
      have hz := ((hS.2.2.2.2.2 k hk).resolve_left h3).2
      have hz2 := ((hS.2.2.2.2.2 l hl).resolve_left h4).2
      by_cases h5 : (uS σ k).1 = (uS σ l).1
      · rw [if_pos h5, if_pos h5, X_hasG L g3 hz, X_hasG L q3 hz2, Option.bind_some, Option.bind_some, zb_if, zb_if]
        by_cases h6 : okH i n (uS σ k).2.1 = true
        · rw [if_pos h6, if_pos h6]
          by_cases h7 : okH j n (uS σ l).2.1 = true
          · rw [if_pos h7, if_pos h7]
            obtain ⟨a, c, hac, rfl, rfl⟩ := okH_of h6 hz
            obtain ⟨b, c', hbc, rfl, ec⟩ := okH_of h7 hz2
            have ecc : c' = c := ((nI_eq (by omega) (by omega)).mp ec).symm
            subst ecc
            have hcp : cpok (nI a) (nI b) (nI c') 40 40 = true := by
              refine decide_eq_true ⟨nI_pos (by omega), nI_pos (by omega), nI_pos (by omega), ?_, ?_⟩
              · rw [nI_clamp (by omega), nI_clamp (by omega)]; omega
              · rw [nI_clamp (by omega), nI_clamp (by omega)]; omega
            rw [if_pos hcp, nI_clamp (show a < 2 ^ 31 by omega), nI_clamp (show b < 2 ^ 31 by omega), nI_clamp (show c' < 2 ^ 31 by omega)]
            refine ⟨_, rfl, h.sh hl ⟨by rw [upr_ne (by omega)]; exact q1, Or.inr ⟨by rw [upr_ne (by omega)]; exact q3, fun x hx => ?_⟩⟩ (fun y e1 e2 _ _ => upr_ne e2) (fun _ _ => rfl)⟩
            rw [upr_self]
            show va_cpy (M (28 + 2 * k + 1)) (M (28 + 2 * l + 1)) a b c' x = va_cpy (uS σ k).2.2 (uS σ l).2.2 a b c' x
            by_cases e : b ≤ x ∧ x < b + c'
            · rw [pk_cpy_in e.1 e.2, pk_cpy_in e.1 e.2]; exact g4 _ (by omega)
            · rw [pk_cpy_out (by omega), pk_cpy_out (by omega)]; exact q4 x hx
          · rw [if_neg h7, if_neg h7]; exact ⟨M, rfl, h⟩
        · rw [if_neg h6, if_neg h6]; exact ⟨M, rfl, h⟩
      · rw [if_neg h5, if_neg h5]; exact ⟨M, rfl, h⟩
    · rw [if_neg h2, if_neg h2]; exact ⟨M, rfl, h⟩
  · rw [if_neg h1, if_neg h1]
    by_cases h2 : ix o 4 = true
    · obtain ⟨l, hl, rfl⟩ := ix_of h2 (by decide)
      rw [if_pos h2, nI_clamp (show l < 2 ^ 31 by omega)]
      dsimp only
      rw [if_pos (shc_ok l hl)]; exact ⟨M, rfl, h⟩
    · rw [if_neg h2]; exact ⟨M, rfl, h⟩
/-- numbers moved within one row, upwards or downwards -/
theorem mv_up {R : Mi} {S : Ml} {s o a b c : Nat} (hs : s < 4) (ho : o < 4) (ha : a + c ≤ 40) (hb : b + c ≤ 40) (hd : s ≠ o ∨ b ≤ a) :
    ∀ d k m R1, k + d = c → d < m → (∀ i, i ≠ 10 → R1 i = R i) → (∀ i, i < k → R1 10 (40 * o + b + i) = R 10 (40 * s + a + i)) → (∀ i, (i < 40 * o + b ∨ 40 * o + b + k ≤ i) → R1 10 i = R 10 i) → ∃ R', F_X6_copy_k121 m R1 S (nI s) (nI a) (nI o) (nI b) (nI c) 0 (nI k) = some (nI c, R', S) ∧ (∀ i, i ≠ 10 → R' i = R i) ∧ (∀ i, i < c → R' 10 (40 * o + b + i) = R 10 (40 * s + a + i)) ∧ ∀ i, (i < 40 * o + b ∨ 40 * o + b + c ≤ i) → R' 10 i = R 10 i := by
  intro d
  induction d with
  | zero =>
    intro k m R1 hk hm h1 h2 h3
    obtain ⟨m, rfl⟩ : ∃ q, m = q + 1 := ⟨m - 1, by omega⟩
    rw [F_X6_copy_k121, if_pos (nI_le (by omega) (by omega))]
    have : k = c := by omega
    subst this
    exact ⟨R1, rfl, h1, h2, h3⟩
  | succ d ih =>
    intro k m R1 hk hm h1 h2 h3
    obtain ⟨m, rfl⟩ : ∃ q, m = q + 1 := ⟨m - 1, by omega⟩
    have e1 : (40 : Int32) * nI s + nI a + nI k = nI (40 * s + a + k) := by rw [show (40 : Int32) = nI 40 from rfl, pk_mul, nI_add, nI_add]
    have e2 : (40 : Int32) * nI o + nI b + nI k = nI (40 * o + b + k) := by rw [show (40 : Int32) = nI 40 from rfl, pk_mul, nI_add, nI_add]
    rw [F_X6_copy_k121, if_neg (nI_ge (by omega) (by omega)), if_pos (show (0 : Int32) = 0 from rfl)]
    unfold F_X6_copy_k145
    rw [e1, e2, if_pos (ix_nI (by omega) (by decide)), if_pos (ix_nI (by omega) (by decide)), nI_clamp (show 40 * s + a + k < 2 ^ 31 by omega), nI_clamp (show 40 * o + b + k < 2 ^ 31 by omega), nI_1, h3 (40 * s + a + k) (by omega)]
    refine ih (k + 1) m _ (by omega) (by omega) (fun i hi => by rw [up2_ne hi, h1 i hi]) (fun i hi => ?_) (fun i hi => by rw [up2_b (by omega)]; exact h3 i (by omega))
    by_cases e : i = k
    · rw [e, up2_at]
    · rw [up2_b (by omega)]; exact h2 i (by omega)
theorem mv_down {R : Mi} {S : Ml} {s a b c : Nat} (hs : s < 4) (ha : a + c ≤ 40) (hb : b + c ≤ 40) (hd : a < b) :
    ∀ d k m R1, k + d = c → d < m → (∀ i, i ≠ 10 → R1 i = R i) → (∀ i, i < c → d ≤ i → R1 10 (40 * s + b + i) = R 10 (40 * s + a + i)) → (∀ i, (i < 40 * s + b + d ∨ 40 * s + b + c ≤ i) → R1 10 i = R 10 i) → ∃ R', F_X6_copy_k121 m R1 S (nI s) (nI a) (nI s) (nI b) (nI c) 1 (nI k) = some (nI c, R', S) ∧ (∀ i, i ≠ 10 → R' i = R i) ∧ (∀ i, i < c → R' 10 (40 * s + b + i) = R 10 (40 * s + a + i)) ∧ ∀ i, (i < 40 * s + b ∨ 40 * s + b + c ≤ i) → R' 10 i = R 10 i := by
  intro d
  induction d with
  | zero =>
    intro k m R1 hk hm h1 h2 h3
    obtain ⟨m, rfl⟩ : ∃ q, m = q + 1 := ⟨m - 1, by omega⟩
    rw [F_X6_copy_k121, if_pos (nI_le (by omega) (by omega))]
    exact ⟨R1, rfl, h1, fun i hi => h2 i hi (Nat.zero_le _), fun i hi => h3 i (by omega)⟩
  | succ d ih =>
    intro k m R1 hk hm h1 h2 h3
    obtain ⟨m, rfl⟩ : ∃ q, m = q + 1 := ⟨m - 1, by omega⟩
    have e0 : nI c - 1 - nI k = nI d := by
      obtain ⟨c1, rfl⟩ : ∃ q, c = q + 1 := ⟨c - 1, by omega⟩
      rw [nI_pred, pk_sub (by omega)]; congr 1; omega
    have e1 : (40 : Int32) * nI s + nI a + nI d = nI (40 * s + a + d) := by rw [show (40 : Int32) = nI 40 from rfl, pk_mul, nI_add, nI_add]
    have e2 : (40 : Int32) * nI s + nI b + nI d = nI (40 * s + b + d) := by rw [show (40 : Int32) = nI 40 from rfl, pk_mul, nI_add, nI_add]
    rw [F_X6_copy_k121, if_neg (nI_ge (by omega) (by omega)), if_neg (show ¬ (1 : Int32) = 0 by decide), e0]
    unfold F_X6_copy_k145
    rw [e1, e2, if_pos (ix_nI (by omega) (by decide)), if_pos (ix_nI (by omega) (by decide)), nI_clamp (show 40 * s + a + d < 2 ^ 31 by omega), nI_clamp (show 40 * s + b + d < 2 ^ 31 by omega), nI_1, h3 (40 * s + a + d) (by omega)]
    refine ih (k + 1) m _ (by omega) (by omega) (fun i hi => by rw [up2_ne hi, h1 i hi]) (fun i hi hi2 => ?_) (fun i hi => by rw [up2_b (by omega)]; exact h3 i (by omega))
    by_cases e : i = d
    · rw [e, up2_at]
    · rw [up2_b (by omega)]; exact h2 i hi (by omega)
theorem okH_ref {i n : Int32} {size : Nat} (hz : size ≤ 40) (hn : ¬ n < 0) (hi : ¬ i < 0) : (nI size - n < i ↔ ¬ okH i n size = true) ∧ (i ≤ nI size - n ↔ okH i n size = true) := by
  rw [i_lt, show (0 : Int32).toInt = 0 from rfl] at hn hi
  unfold okH
  rw [decide_eq_true_iff, i_lt, i_le, sub40 hz (by omega)]
  constructor
  · constructor
    · intro _; omega
    · intro _; omega
  · constructor
    · intro _; omega
    · intro _; omega
theorem Y_copy {R : Mi} {S : Ml} {σ : Sg} (hS : WS σ) (h : YI R S σ) (s i o j n : Int32) : ∃ R', F_X6_copy R S s i o j n = some ((s_copy σ s i o j n).1, R', S) ∧ YI R' S (s_copy σ s i o j n).2 := by
  unfold F_X6_copy F_X6_isSheet s_copy
  rw [F_inN s 3 rfl, F_inN o 3 rfl, Option.bind_some, rz_zb, Option.bind_some, zb_if, Option.bind_some, rz_zb, Option.bind_some, zb_if]
  by_cases h1 : ix s 4 = true
  · by_cases h2 : ix o 4 = true
    · obtain ⟨k, hk, rfl⟩ := ix_of h1 (by decide)
      obtain ⟨l, hl, rfl⟩ := ix_of h2 (by decide)
      simp only [if_pos h1, if_pos h2, nI_clamp (show k < 2 ^ 31 by omega), nI_clamp (show l < 2 ^ 31 by omega)]
      obtain ⟨g1, g2⟩ := h.2.2.2.2.1 k hk
      obtain ⟨q1, q2⟩ := h.2.2.2.2.1 l hl
      rw [g1, q1]
      by_cases h3 : (uS σ k).1 = -1
      · rw [if_pos h3, if_pos h3, if_pos (show (0 : Int32) = 0 from rfl)]; exact ⟨R, rfl, h⟩
      rw [if_neg h3, if_neg h3, if_neg (show ¬ (1 : Int32) = 0 by decide)]
      by_cases h4 : (uS σ l).1 = -1
      · rw [if_pos h4, if_pos h4, if_pos (show (0 : Int32) = 0 from rfl)]; exact ⟨R, rfl, h⟩
      rw [if_neg h4, if_neg h4, if_neg (show ¬ (1 : Int32) = 0 by decide)]
      obtain ⟨g5, g3, g4⟩ := g2.resolve_left h3
      obtain ⟨q5, q3, q4⟩ := q2.resolve_left h4
      have hz := ((hS.2.2.2.2.2 k hk).resolve_left h3).2
      have hz2 := ((hS.2.2.2.2.2 l hl).resolve_left h4).2
      rw [g5, q5, g3, q3]
      by_cases h5 : (uS σ k).1 = (uS σ l).1
      · rw [if_pos h5, if_pos h5]
        have no12 : ∀ {A B : Prop} [Decidable A] [Decidable B] (x : Int32 × Sg), ¬ (A ∧ B) → (if A then (if B then x else (-12, σ)) else (-12, σ)) = (-12, σ) := by
          intro A B _ _ x hAB
          by_cases a : A
          · rw [if_pos a, if_neg (fun b => hAB ⟨a, b⟩)]
          · rw [if_neg a]
        by_cases n0 : n < 0
        · rw [if_pos n0, no12 _ (fun q => by have := q.1; unfold okH at this; rw [decide_eq_true_iff] at this; rw [i_lt, show (0 : Int32).toInt = 0 from rfl] at n0; omega)]; exact ⟨R, rfl, h⟩
        rw [if_neg n0]
        by_cases i0 : i < 0
        · rw [if_pos i0, no12 _ (fun q => by have := q.1; unfold okH at this; rw [decide_eq_true_iff] at this; rw [i_lt, show (0 : Int32).toInt = 0 from rfl] at i0; omega)]; exact ⟨R, rfl, h⟩
        rw [if_neg i0]
        by_cases j0 : j < 0
        · rw [if_pos j0, no12 _ (fun q => by have := q.2; unfold okH at this; rw [decide_eq_true_iff] at this; rw [i_lt, show (0 : Int32).toInt = 0 from rfl] at j0; omega)]; exact ⟨R, rfl, h⟩
        rw [if_neg j0]
        by_cases h6 : okH i n (uS σ k).2.1 = true
        · rw [if_pos h6, if_neg (fun q => (okH_ref hz n0 i0).1.mp q h6)]
          by_cases h7 : okH j n (uS σ l).2.1 = true
          · rw [if_pos h7, if_pos ((okH_ref hz2 n0 j0).2.mpr h7)]
            obtain ⟨a, c, hac, rfl, rfl⟩ := okH_of h6 hz
            obtain ⟨b, c', hbc, rfl, ec⟩ := okH_of h7 hz2
            have ecc : c' = c := ((nI_eq (by omega) (by omega)).mp ec).symm
            subst ecc
            rw [nI_clamp (show a < 2 ^ 31 by omega), nI_clamp (show b < 2 ^ 31 by omega), nI_clamp (show c' < 2 ^ 31 by omega)]
            unfold F_X6_copy_k115 F_X6_copy_k116
            have fin : ∀ R', (∀ i, i ≠ 10 → R' i = R i) → (∀ i, i < c' → R' 10 (40 * l + b + i) = R 10 (40 * k + a + i)) → (∀ i, (i < 40 * l + b ∨ 40 * l + b + c' ≤ i) → R' 10 i = R 10 i) → YI R' S (uSh σ l ((uS σ l).1, (uS σ l).2.1, va_cpy (uS σ k).2.2 (uS σ l).2.2 a b c')) := by
              intro R' r1 r2 r3
              refine YI.row hS h hl h4 r1 (fun x hx => ?_) (fun i hi => r3 i (by omega))
              by_cases e : b ≤ x ∧ x < b + c'
              · rw [pk_cpy_in e.1 e.2]
                have := r2 (x - b) (by omega)
                rw [show 40 * l + b + (x - b) = 40 * l + x by omega, show 40 * k + a + (x - b) = 40 * k + (a + (x - b)) by omega] at this
                rw [this]; exact g4 _ (by omega)
              · rw [pk_cpy_out (by omega), r3 _ (by omega)]; exact q4 x hx
            by_cases e1 : nI k = nI l
            · have ekl : k = l := (nI_eq (by omega) (by omega)).mp e1
              subst ekl
              rw [if_pos rfl]
              by_cases e2 : nI b ≤ nI a
              · rw [if_pos e2]
                have hba := (nI_leI (by omega) (by omega)).mp e2
                obtain ⟨R', r0, r1, r2, r3⟩ := mv_up (R := R) (S := S) (a := a) (b := b) (c := c') hk hk (by omega) (by omega) (Or.inr hba) c' 0 FU R (by omega) (by unfold FU; omega) (fun _ _ => rfl) (fun i hi => absurd hi (by omega)) (fun _ _ => rfl)
                exact ⟨R', r0, fin R' r1 r2 r3⟩
              · rw [if_neg e2]
                have hab : a < b := by
                  by_cases q : b ≤ a
                  · exact absurd (nI_le q (by omega)) e2
                  · omega
                obtain ⟨R', r0, r1, r2, r3⟩ := mv_down (R := R) (S := S) (a := a) (b := b) (c := c') hk (by omega) (by omega) hab c' 0 FU R (by omega) (by unfold FU; omega) (fun _ _ => rfl) (fun i hi hi2 => absurd hi (by omega)) (fun _ _ => rfl)
                exact ⟨R', r0, fin R' r1 r2 r3⟩
            · rw [if_neg e1]
              have ekl : k ≠ l := fun q => e1 (by rw [q])
              obtain ⟨R', r0, r1, r2, r3⟩ := mv_up (R := R) (S := S) (a := a) (b := b) (c := c') hk hl (by omega) (by omega) (Or.inl ekl) c' 0 FU R (by omega) (by unfold FU; omega) (fun _ _ => rfl) (fun i hi => absurd hi (by omega)) (fun _ _ => rfl)
              exact ⟨R', r0, fin R' r1 r2 r3⟩
          · rw [if_neg h7, if_neg (fun q => h7 ((okH_ref hz2 n0 j0).2.mp q))]; exact ⟨R, rfl, h⟩
        · rw [if_neg h6, if_pos ((okH_ref hz n0 i0).1.mpr h6)]; exact ⟨R, rfl, h⟩
      · rw [if_neg h5, if_neg h5]; exact ⟨R, rfl, h⟩
    · rw [if_neg h2, if_neg h2]
      by_cases q : ix s 4 = true
      · rw [if_pos q, if_pos q]; exact ⟨R, rfl, h⟩
      · exact absurd h1 q
  · rw [if_neg h1, if_neg h1]; exact ⟨R, rfl, h⟩
