/-! PURE: film (the reference), cell -/
theorem uSh_uSh (σ : Sg) (k : Nat) (h0 h' : Sh) : uSh (uSh σ k h0) k h' = uSh σ k h' := by
  unfold uSh
  have : (fun j => if j = k then h' else (fun j => if j = k then h0 else uS σ j) j) = fun j => if j = k then h' else uS σ j := by
    funext j
    by_cases e : j = k
    · rw [if_pos e, if_pos e]
    · rw [if_neg e, if_neg e]; exact if_neg e
  show (uA σ, uK σ, (uT σ, uX σ), (uN σ, uP σ), fun j => if j = k then h' else (fun j => if j = k then h0 else uS σ j) j) = _
  rw [this]
theorem s_sheet_0 (σ : Sg) {k N : Nat} (hk : k < 4) (hN : N ≤ 40) : s_sheet σ (nI k) 0 (nI N) = (1, uSh σ k (0, N, fun _ => 0)) := by
  unfold s_sheet
  rw [if_pos (ix_nI hk (by decide)), if_neg (show ¬ (0 : Int32) < -1 by decide), if_pos (show (0 : Int32) ≤ 2 by decide), if_neg (show ¬ (0 : Int32) = -1 by decide), if_pos (show nI N ≤ 40 from nI_le (b := 40) hN (by decide)), if_pos (nI_pos' (by omega)), nI_clamp (by omega), nI_clamp (by omega)]
theorem Y_film_k {σ : Sg} (hS : WS σ) {k p N : Nat} (hk : k < 4) (hp : p < aP (uA σ)) (hN : N ≤ 20) {R2 : Mi} {S2 : Ml} (yt : YT R2 (uT σ) (uX σ)) (yw : YW R2 (uA σ)) (h12 : R2 0 12 = -1) :
    ∀ d j m R S, j + d = N → d < m → (∀ i, i ≠ 0 → i ≠ 4 → i ≠ 10 → R i = R2 i) → (∀ j, j < 13 → j ≠ 7 → R 0 j = R2 0 j) → (∀ j, 27 < j → R 0 j = R2 0 j) → (∀ k j, (k ≠ 0 ∨ j ≠ 24) → S k j = S2 k j) → (∀ i, (i < 40 * k ∨ 40 * k + 40 ≤ i) → R 10 i = R2 10 i) → (∀ i, i < j → R 10 (40 * k + i) = fmI (uX σ (aU (uA σ))) (uA σ) p i) → YFl R S (Aft (uX σ (aU (uA σ))) (-1) j (uA σ)) →
      ∃ R' S', F_X6_film_k45 m R S (nI k) (nI p) (nI N) (nI j) = some (nI N, R', S') ∧ YFl R' S' (uA σ) ∧ (∀ i, i ≠ 0 → i ≠ 4 → i ≠ 10 → R' i = R2 i) ∧ (∀ j, j < 13 → j ≠ 7 → R' 0 j = R2 0 j) ∧ (∀ j, 27 < j → R' 0 j = R2 0 j) ∧ (∀ k j, (k ≠ 0 ∨ j ≠ 24) → S' k j = S2 k j) ∧ (∀ i, (i < 40 * k ∨ 40 * k + 40 ≤ i) → R' 10 i = R2 10 i) ∧ ∀ i, i < N → R' 10 (40 * k + i) = fmI (uX σ (aU (uA σ))) (uA σ) p i := by
  have hP := hS.1.1
  have hm0 := hS.2.1
  intro d
  induction d with
  | zero =>
    intro j m R S hj hm g1 g2 g3 g4 g5 g6 g7
    obtain ⟨m, rfl⟩ : ∃ q, m = q + 1 := ⟨m - 1, by omega⟩
    have yw' : YW R (uA σ) := by unfold YW at *; rw [g1 5 (by decide) (by decide) (by decide)]; exact yw
    obtain ⟨R3, c1, c2, c3, c4⟩ := Y_lback hP yw' g7 rfl rfl rfl rfl
    rw [F_X6_film_k45, if_pos (nI_le (by omega) (by omega)), c1]
    exact ⟨R3, S, rfl, c2, fun i a b c => (c3 i a b).trans (g1 i a b c), fun j a b => (c4 j b).trans (g2 j a b), fun j a => (c4 j (by omega)).trans (g3 j a), g4, fun i hi => by rw [c3 10 (by decide) (by decide)]; exact g5 i hi, fun i hi => by rw [c3 10 (by decide) (by decide)]; exact g6 i (by omega)⟩
  | succ d ih =>
    intro j m R S hj hm g1 g2 g3 g4 g5 g6 g7
    obtain ⟨m, rfl⟩ : ∃ q, m = q + 1 := ⟨m - 1, by omega⟩
    have hwj := wfA_Aft (C := uX σ (aU (uA σ))) (s := -1) hS.1 j
    have yt' : YT R (uT σ) (uX σ) := yt.keep (g2 3 (by decide) (by decide)) (g1 1 (by decide) (by decide) (by decide)) (g1 2 (by decide) (by decide) (by decide))
    obtain ⟨R3, S3, b1, b2, b3⟩ := Y_passes (S := S) hwj (by show aM (uA σ) + j < 2 ^ 30; omega) yt' g7
    rw [g2 12 (by decide) (by decide), h12] at b1 b2
    replace b2 : YFl R3 S3 (Aft (uX σ (aU (uA σ))) (-1) (j + 1) (uA σ)) := b2
    have e40 : (40 : Int32) * nI k + nI j = nI (40 * k + j) := by rw [show (40 : Int32) = nI 40 from rfl, pk_mul, nI_add]
    rw [F_X6_film_k45, if_neg (nI_ge (by omega) (by omega)), b1, Option.bind_some]
    dsimp only
    rw [Y_on (wfA_Aft hS.1 (j + 1)) b2 hp S3, Option.bind_some, e40, if_pos (ix_nI (by omega) (by decide)), nI_clamp (by omega), nI_1, Aft_on (by omega)]
    refine ih (j + 1) m _ S3 (by omega) (by omega) (fun i a b c => by rw [up2_ne c, b3.1 i a b, g1 i a b c]) (fun i a b => by rw [up2_a (by decide), b3.2.1 i a b, g2 i a b]) (fun i a => by rw [up2_a (by decide), b3.2.2.1 i a, g3 i a]) (fun i l a => (b3.2.2.2 i l a).trans (g4 i l a)) (fun i hi => by rw [up2_b (by omega), b3.1 10 (by decide) (by decide)]; exact g5 i hi) (fun i hi => ?_) ?_
    · by_cases e : i = j
      · rw [e, up2_at]; rfl
      · rw [up2_b (by omega), b3.1 10 (by decide) (by decide)]; exact g6 i (by omega)
    · unfold YFl YP at *
      rw [up2_a (show (0 : Nat) ≠ 10 by decide), up2_a (show (0 : Nat) ≠ 10 by decide), up2_a (show (0 : Nat) ≠ 10 by decide), up2_ne (show (4 : Nat) ≠ 10 by decide)]; exact b2
theorem Y_film_go {R : Mi} {S : Ml} {σ : Sg} (hS : WS σ) (h : YI R S σ) {k p N : Nat} (hk : k < 4) (hp : p < aP (uA σ)) (hN : N ≤ 20) : ∃ R1 R2 R' S', F_X6_sheet R S (nI k) 0 (nI N) = some (1, R1, S) ∧ F_X6_laysAside R1 S = some (R2, S) ∧ F_X6_film_k45 FU R2 S (nI k) (nI p) (nI N) (nI 0) = some (nI N, R', S') ∧ YI R' S' (uSh σ k (0, N, fmI (uX σ (aU (uA σ))) (uA σ) p)) := by
  have hP := hS.1.1
  obtain ⟨R1, a1, a2⟩ := Y_sheet hS h (nI k) 0 (nI N)
  rw [s_sheet_0 σ hk (by omega)] at a1 a2
  have i03 : ix 0 3 = true := by decide
  have wf0 : wfS (0, N, fun _ => 0) := Or.inr ⟨i03, by show N ≤ 40; omega⟩
  obtain ⟨R2, b1, b2, b3⟩ := Y_aside (S := S) hP a2.1
  have f2 : YFl R2 S (uA σ) := a2.1.off5 b3
  obtain ⟨R', S', c1, c2, c3, c4, c5, c6, c7, c8⟩ := Y_film_k hS hk hp hN (a2.2.2.1.off5 b3) b2 (by rw [b3 0 (by decide)]; exact a2.2.2.2.2.2) N 0 FU R2 S (by omega) (by unfold FU; omega) (fun _ _ _ _ => rfl) (fun _ _ _ => rfl) (fun _ _ => rfl) (fun _ _ _ => rfl) (fun _ _ => rfl) (fun i hi => absurd hi (by omega)) f2
  refine ⟨R1, R2, R', S', a1, b1, c1, ?_⟩
  rw [← uSh_uSh σ k (0, N, fun _ => 0)]
  obtain ⟨y1, y2⟩ := a2.2.2.2.2.1 k hk
  have es : uS (uSh σ k (0, N, fun _ => 0)) k = (0, N, fun _ => 0) := if_pos rfl
  rw [es] at y1 y2
  obtain ⟨y3, y4, y5⟩ := y2.resolve_left (show ¬ (0 : Int32) = -1 by decide)
  have o : ∀ i, i ≠ 0 → i ≠ 4 → i ≠ 5 → i ≠ 10 → R' i = R1 i := fun i a b c d => (c3 i a b d).trans (b3 i c)
  refine a2.sh (WS_sh hS wf0) c2 ⟨?_, Or.inr ⟨?_, ?_, c8⟩⟩ (fun t _ => ?_) (fun t _ => ?_) (fun t _ => ?_) (fun t h4 ht i hi => ?_) (fun i a b c d e f g => o i a b c g) (fun j hj => ?_) (fun j hj => c6 0 j (Or.inr (by omega)))
  · rw [o 7 (by decide) (by decide) (by decide) (by decide)]; exact y1
  · rw [o 8 (by decide) (by decide) (by decide) (by decide)]; exact y3
  · rw [o 9 (by decide) (by decide) (by decide) (by decide)]; exact y4
  · rw [o 7 (by decide) (by decide) (by decide) (by decide)]
  · rw [o 8 (by decide) (by decide) (by decide) (by decide)]
  · rw [o 9 (by decide) (by decide) (by decide) (by decide)]
  · rw [c7 _ (by omega), b3 10 (by decide)]
  · rcases hj with rfl | rfl | rfl | hj
    · rw [c4 3 (by decide) (by decide), b3 0 (by decide)]
    · rw [c4 6 (by decide) (by decide), b3 0 (by decide)]
    · rw [c4 12 (by decide) (by decide), b3 0 (by decide)]
    · rw [c5 j (by omega), b3 0 (by decide)]
theorem Y_film {R : Mi} {S : Ml} {σ : Sg} (hS : WS σ) (h : YI R S σ) (s one n : Int32) : ∃ R' S', F_X6_film R S s one n = some ((s_film σ s one n).1, R', S') ∧ YI R' S' (s_film σ s one n).2 := by
  have hP := hS.1.1
  unfold F_X6_film F_X6_isSheet s_film
  rw [F_inN s 3 rfl, Option.bind_some, rz_zb, Option.bind_some, zb_if, Y_isOne h.1.2.2.2.1 hP, Option.bind_some, zb_if, F_inN n 20 rfl, Option.bind_some, zb_if]
  by_cases h1 : ix s 4 = true
  · rw [if_pos h1, if_pos h1]
    obtain ⟨k, hk, rfl⟩ := ix_of h1 (by decide)
    rw [nI_clamp (show k < 2 ^ 31 by omega)]
    by_cases h2 : ix one (aP (uA σ)) = true
    · rw [if_pos h2, if_pos h2]
      by_cases h3 : ix n 21 = true
      · rw [if_pos h3, if_pos h3]
        obtain ⟨p, hp, rfl⟩ := ix_of h2 (by omega)
        obtain ⟨N, hN, rfl⟩ := ix_of h3 (by decide)
        rw [nI_clamp (show p < 2 ^ 31 by omega), nI_clamp (show N < 2 ^ 31 by omega)]
        obtain ⟨R1, R2, R', S', a1, b1, c1, c2⟩ := Y_film_go hS h hk hp (show N ≤ 20 by omega)
        rw [a1, Option.bind_some]
        dsimp only
        rw [b1, Option.bind_some]
        dsimp only
        exact ⟨R', S', c1, c2⟩
      · rw [if_neg h3, if_neg h3]; exact ⟨R, S, rfl, h⟩
    · rw [if_neg h2, if_neg h2]; exact ⟨R, S, rfl, h⟩
  · rw [if_neg h1, if_neg h1]; exact ⟨R, S, rfl, h⟩
/-! cell -/
theorem sub40 {size : Nat} {i : Int32} (hz : size ≤ 40) (hi : 0 ≤ i.toInt) : (nI size - i).toInt = (size : Int) - i.toInt := by
  have := Int32.toInt_lt i
  rw [Int32.toInt_sub, nI_toInt (by omega)]
  exact Int.bmod_eq_of_le (by omega) (by omega)
def okH (i n : Int32) (size : Nat) : Bool := decide (0 ≤ i.toInt ∧ 0 ≤ n.toInt ∧ i.toInt + n.toInt ≤ size)
theorem X_hasG {b : Nat} {M : Mi} (L : Ml) {size : Nat} (h2 : M b 2 = nI size) (hz : size ≤ 40) (i n : Int32) : F_X3_has b M L i n = some (zb (okH i n size)) := by
  unfold F_X3_has okH
  have z : (0 : Int32).toInt = 0 := rfl
  by_cases h1 : i < 0
  · rw [if_pos h1, rz_0, decide_eq_false (by rw [i_lt, z] at h1; omega)]
  · rw [if_neg h1]
    rw [i_lt, z] at h1
    by_cases h3 : n < 0
    · rw [if_pos h3, rz_0, decide_eq_false (by rw [i_lt, z] at h3; omega)]
    · rw [if_neg h3, h2]
      rw [i_lt, z] at h3
      have e := sub40 (i := i) hz (by omega)
      by_cases h4 : nI size - i < n
      · rw [if_pos h4, rz_0, decide_eq_false (by rw [i_lt, e] at h4; omega)]
      · rw [if_neg h4, rz_1, decide_eq_true (by rw [i_lt, e] at h4; omega)]
theorem okH_1 (i : Int32) (size : Nat) : okH i 1 size = ix i size := by
  rw [Bool.eq_iff_iff, ix_iff]
  unfold okH
  rw [decide_eq_true_iff, show (1 : Int32).toInt = 1 from rfl]; omega
def narS (sort v : Int32) : Int32 := if sort = 0 then Int8.toInt32 (Int32.toInt8 v) else if sort = 1 then Int16.toInt32 (Int32.toInt16 v) else v
def s_cell (σ : Sg) (s i v : Int32) : Int32 × Sg :=
  if ix s 4 = true then (if (uS σ s.toNatClampNeg).1 = -1 then (-11, σ) else if ix i (uS σ s.toNatClampNeg).2.1 = true then (1, uSh σ s.toNatClampNeg ((uS σ s.toNatClampNeg).1, (uS σ s.toNatClampNeg).2.1, fun x => if x = i.toNatClampNeg then narS (uS σ s.toNatClampNeg).1 v else (uS σ s.toNatClampNeg).2.2 x)) else (-12, σ)) else (-2, σ)
theorem Ws_cell {σ : Sg} (hS : WS σ) (s i v : Int32) : WS (s_cell σ s i v).2 := by
  unfold s_cell
  by_cases h1 : ix s 4 = true
  · rw [if_pos h1]
    by_cases h2 : (uS σ s.toNatClampNeg).1 = -1
    · rw [if_pos h2]; exact hS
    · rw [if_neg h2]
      by_cases h3 : ix i (uS σ s.toNatClampNeg).2.1 = true
      · rw [if_pos h3]
        exact WS_sh hS (Or.inr ((hS.2.2.2.2.2 _ (ix_self h1 (by decide)).2).resolve_left h2))
      · rw [if_neg h3]; exact hS
  · rw [if_neg h1]; exact hS
theorem X_cell {E : Ev} {M : Mi} {L : Ml} {σ : Sg} (hS : WS σ) (h : XI E M L σ) (s i v : Int32) : ∃ M', F_X5_cell M L s i v = some ((s_cell σ s i v).1, M', L) ∧ XI E M' L (s_cell σ s i v).2 := by
  unfold F_X5_cell s_cell
  rw [X_sheetAt, Option.bind_some]
  by_cases h1 : ix s 4 = true
  · rw [if_pos h1, if_pos h1]
    obtain ⟨k, hk, rfl⟩ := ix_of h1 (by decide)
    rw [nI_clamp (show k < 2 ^ 31 by omega)]
    dsimp only
    rw [if_pos (shc_ok k hk)]
    obtain ⟨g1, g2⟩ := h.2.2.2.2 k hk
    have hwf := hS.2.2.2.2.2 k hk
    rw [g1]
    by_cases h4 : (uS σ k).1 = -1
    · rw [if_pos h4, if_pos h4]; exact ⟨M, rfl, h⟩
    · rw [if_neg h4, if_neg h4]
      obtain ⟨g3, g4⟩ := g2.resolve_left h4
      have hz := (hwf.resolve_left h4).2
      unfold F_X3_put
      rw [X_hasG L g3 hz i 1, okH_1, Option.bind_some, zb_if]
      by_cases h5 : ix i (uS σ k).2.1 = true
      · rw [if_pos h5, if_pos h5, g1]
        obtain ⟨a, ha, rfl⟩ := ix_of h5 (by omega)
        have i40 := ix_nI (show a < 40 by omega) (show 40 < 2 ^ 31 by decide)
        rw [if_pos i40, if_pos i40, if_pos i40, nI_clamp (show a < 2 ^ 31 by omega), rzw_1, rzw_1, rzw_1]
        have fin : ∀ w, w = narS (uS σ k).1 v → XI E (up2 M (28 + 2 * k + 1) a w) L (uSh σ k ((uS σ k).1, (uS σ k).2.1, fun x => if x = a then narS (uS σ k).1 v else (uS σ k).2.2 x)) := by
          intro w hw
          refine h.sh hk ⟨by rw [up2_a (by omega)]; exact g1, Or.inr ⟨by rw [up2_a (by omega)]; exact g3, fun x hx => ?_⟩⟩ (fun j q1 q2 _ _ => up2_ne q2) (fun _ _ => rfl)
          show _ = if x = a then narS (uS σ k).1 v else (uS σ k).2.2 x
          by_cases e : x = a
          · rw [if_pos e, e, up2_at, hw]
          · rw [if_neg e, up2_b e]; exact g4 x hx
        by_cases e0 : (uS σ k).1 = 0
        · rw [if_pos e0]
          exact ⟨_, rfl, fin _ (by unfold narS; rw [if_pos e0])⟩
        · rw [if_neg e0]
          by_cases e1 : (uS σ k).1 = 1
          · rw [if_pos e1]
            exact ⟨_, rfl, fin _ (by unfold narS; rw [if_neg e0, if_pos e1])⟩
          · rw [if_neg e1]
            exact ⟨_, rfl, fin _ (by unfold narS; rw [if_neg e0, if_neg e1])⟩
      · rw [if_neg h5, if_neg h5, rzw_0]; exact ⟨M, rfl, h⟩
  · rw [if_neg h1, if_neg h1]; exact ⟨M, rfl, h⟩
theorem YI.row {R : Mi} {S : Ml} {σ : Sg} (hS : WS σ) (h : YI R S σ) {k : Nat} (hk : k < 4) {R' : Mi} {it : Nat → Int32} (h4 : ¬ (uS σ k).1 = -1) (hR : ∀ i, i ≠ 10 → R' i = R i) (hi : ∀ i, i < (uS σ k).2.1 → R' 10 (40 * k + i) = it i) (ho : ∀ i, (i < 40 * k ∨ 40 * k + 40 ≤ i) → R' 10 i = R 10 i) : YI R' S (uSh σ k ((uS σ k).1, (uS σ k).2.1, it)) := by
  obtain ⟨g1, g2⟩ := h.2.2.2.2.1 k hk
  obtain ⟨g3, g4, g5⟩ := g2.resolve_left h4
  refine h.sh hS ?_ ⟨by rw [hR 7 (by decide)]; exact g1, Or.inr ⟨by rw [hR 8 (by decide)]; exact g3, by rw [hR 9 (by decide)]; exact g4, hi⟩⟩ (fun t _ => by rw [hR 7 (by decide)]) (fun t _ => by rw [hR 8 (by decide)]) (fun t _ => by rw [hR 9 (by decide)]) (fun t ht hne i hi2 => ho _ (by omega)) (fun i a b c d e f g => hR i g) (fun j _ => by rw [hR 0 (by decide)]) (fun _ _ => rfl)
  have := h.1
  unfold YFl YP at *
  rw [hR 0 (by decide), hR 4 (by decide)]; exact this
theorem Y_cell {R : Mi} {S : Ml} {σ : Sg} (hS : WS σ) (h : YI R S σ) (s i v : Int32) : ∃ R', F_X6_cell R S s i v = some ((s_cell σ s i v).1, R', S) ∧ YI R' S (s_cell σ s i v).2 := by
  unfold F_X6_cell F_X6_isSheet s_cell
  rw [F_inN s 3 rfl, Option.bind_some, rz_zb, Option.bind_some, zb_if]
  by_cases h1 : ix s 4 = true
  · obtain ⟨k, hk, rfl⟩ := ix_of h1 (by decide)
    simp only [if_pos h1, nI_clamp (show k < 2 ^ 31 by omega)]
    obtain ⟨g1, g2⟩ := h.2.2.2.2.1 k hk
    have hwf := hS.2.2.2.2.2 k hk
    rw [g1]
    by_cases h4 : (uS σ k).1 = -1
    · rw [if_pos h4, if_pos h4, if_pos (show (0 : Int32) = 0 from rfl)]; exact ⟨R, rfl, h⟩
    · rw [if_neg h4, if_neg h4, if_neg (show ¬ (1 : Int32) = 0 by decide)]
      obtain ⟨g5, g3, g4⟩ := g2.resolve_left h4
      have hz := (hwf.resolve_left h4).2
      rw [g3, g5, F_inP i (by omega), Option.bind_some, zb_if]
      by_cases h5 : ix i (uS σ k).2.1 = true
      · rw [if_pos h5, if_pos h5]
        obtain ⟨a, ha, rfl⟩ := ix_of h5 (by omega)
        have e40 : (40 : Int32) * nI k + nI a = nI (40 * k + a) := by rw [show (40 : Int32) = nI 40 from rfl, pk_mul, nI_add]
        have i160 := ix_nI (show 40 * k + a < 160 by omega) (show 160 < 2 ^ 31 by decide)
        rw [e40, if_pos i160, if_pos i160, if_pos i160, nI_clamp (show 40 * k + a < 2 ^ 31 by omega), nI_clamp (show a < 2 ^ 31 by omega)]
        have fin : ∀ w, w = narS (uS σ k).1 v → YI (up2 R 10 (40 * k + a) w) S (uSh σ k ((uS σ k).1, (uS σ k).2.1, fun x => if x = a then narS (uS σ k).1 v else (uS σ k).2.2 x)) := by
          intro w hw
          refine YI.row hS h hk h4 (fun i hi => up2_ne hi) (fun x hx => ?_) (fun i hi => up2_b (by omega))
          by_cases e : x = a
          · rw [if_pos e, e, up2_at, hw]
          · rw [if_neg e, up2_b (by omega)]; exact g4 x hx
        by_cases e0 : (uS σ k).1 = 0
        · rw [if_pos e0]
          exact ⟨_, rfl, fin _ (by unfold narS; rw [if_pos e0])⟩
        · rw [if_neg e0]
          by_cases e1 : (uS σ k).1 = 1
          · rw [if_pos e1]
            exact ⟨_, rfl, fin _ (by unfold narS; rw [if_neg e0, if_pos e1])⟩
          · rw [if_neg e1]
            exact ⟨_, rfl, fin _ (by unfold narS; rw [if_neg e0, if_neg e1])⟩
      · rw [if_neg h5, if_neg h5]; exact ⟨R, rfl, h⟩
  · rw [if_neg h1, if_neg h1]; exact ⟨R, rfl, h⟩
