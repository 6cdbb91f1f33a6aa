/-! PURE: stood, film, cell -/
def gdS (X : Nat → Cd) (A : Af) (p : Nat) (it : Nat → Int32) (size : Nat) (c : Nat) : Bool := !tb (aH A) (nI c) && decide (fst1 X (aSet A p 4 (nI c)) p it size = -1)
def upL (G : Nat → Bool) (c : Nat) (x : Int64) : Int64 := if G c = true then x ||| lshl 1 (nI c) else x
def s_stood (σ : Sg) (s one : Int32) : Int64 :=
  if ix s 4 = true then (if ix one (aP (uA σ)) = true then (if (uS σ s.toNatClampNeg).1 = -1 then -4611686018427387904 else if 20 < (uS σ s.toNatClampNeg).2.1 then -4611686018427387904 else
    fo (upL (gdS (uX σ) (uA σ) one.toNatClampNeg (uS σ s.toNatClampNeg).2.2 (uS σ s.toNatClampNeg).2.1)) 64 0 0) else -4611686018427387904) else -4611686018427387904
theorem X_stood {E : Ev} {M : Mi} {L : Ml} {σ : Sg} (hS : WS σ) (h : XI E M L σ) (s one : Int32) : ∃ M' L', F_X5_stood E M L s one = some (s_stood σ s one, M', L') ∧ XI E M' L' σ := by
  have hP := hS.1.1
  have go : ∀ k, k < 4 → ∀ p, p < aP (uA σ) → ¬ (uS σ k).1 = -1 → ∀ d c m M L x, c + d = 64 → d < m → XI E M L σ → ∃ M' L', F_X5_stood_k45 E m M L (nI p) (28 + 2 * k) x (nI c) = some (fo (upL (gdS (uX σ) (uA σ) p (uS σ k).2.2 (uS σ k).2.1)) d c x, M', L') ∧ XI E M' L' σ := by
    intro k hk p hp h4 d
    have hz := ((hS.2.2.2.2.2 k hk).resolve_left h4).2
    induction d with
    | zero =>
      intro c m M L x hc hm hX
      obtain ⟨m, rfl⟩ : ∃ q, m = q + 1 := ⟨m - 1, by omega⟩
      rw [F_X5_stood_k45, if_pos (show (64 : Int32) ≤ nI c from nI_le (a := 64) (by omega) (by omega))]
      exact ⟨M, L, rfl, hX⟩
    | succ d ih =>
      intro c m M L x hc hm hX
      obtain ⟨m, rfl⟩ : ∃ q, m = q + 1 := ⟨m - 1, by omega⟩
      obtain ⟨M1, L1, a1, a2, a3, a4, a5⟩ := X_think (b := 6) (by decide) hS hX
      have f2 : XFl 6 (up2 M1 9 p (nI c)) L1 (aSet (uA σ) p 4 (nI c)) := XFl_set (w := 4) a2 (by decide)
      have I2 : XI E (up2 M1 9 p (nI c)) L1 σ := a3.keep (fun k _ hk => up2_ne (by omega)) (fun _ _ => rfl)
      have hw2 : wfA (uT σ) (aSet (uA σ) p 4 (nI c)) := wfA_set hS.1 (fun q => ⟨q.1, q.2.1, ix_nI (show c < 64 by omega) (by decide), q.2.2.2⟩)
      obtain ⟨q1, q2⟩ := (I2.2.2.2.2 k hk).2.resolve_left h4
      obtain ⟨M3, b1, b2, b3⟩ := X_first hw2 hk hz I2 f2 hp q1 q2
      rw [F_X5_stood_k45, if_neg (show ¬ (64 : Int32) ≤ nI c from nI_ge (b := 64) (by omega) (by decide)), a1]
      simp only [Option.bind_some]
      rw [if_pos (ix_nI (by omega) (by decide)), nI_clamp (show p < 2 ^ 31 by omega), F_isHollowX 1 _ _ (show c < 64 by omega), a5 1 (by decide), hX.1.2.1, Option.bind_some, zb_if]
      unfold F_X5_stood_k105
      rw [nI_1, b1]
      simp only [Option.bind_some]
      have es : fo (upL (gdS (uX σ) (uA σ) p (uS σ k).2.2 (uS σ k).2.1)) (d + 1) c x = fo (upL (gdS (uX σ) (uA σ) p (uS σ k).2.2 (uS σ k).2.1)) d (c + 1) (upL (gdS (uX σ) (uA σ) p (uS σ k).2.2 (uS σ k).2.1) c x) := rfl
      rw [es]
      unfold upL gdS
      by_cases e : tb (aH (uA σ)) (nI c) = true
      · rw [e, if_pos rfl, if_neg (show ¬ (!true && decide (fst1 (uX σ) (aSet (uA σ) p 4 (nI c)) p (uS σ k).2.2 (uS σ k).2.1 = -1)) = true by rw [Bool.not_true, Bool.false_and]; decide)]
        exact ih (c + 1) m _ _ x (by omega) (by omega) I2
      · rw [if_neg e]
        rw [Bool.not_eq_true] at e
        rw [e, Bool.not_false, Bool.true_and]
        by_cases e2 : fst1 (uX σ) (aSet (uA σ) p 4 (nI c)) p (uS σ k).2.2 (uS σ k).2.1 = -1
        · rw [if_pos e2, if_pos (decide_eq_true e2)]; exact ih (c + 1) m _ _ _ (by omega) (by omega) b2
        · rw [if_neg e2, if_neg (by rw [decide_eq_true_iff]; exact e2)]; exact ih (c + 1) m _ _ _ (by omega) (by omega) b2
  unfold F_X5_stood s_stood
  rw [X_sheetAt, Option.bind_some]
  by_cases h1 : ix s 4 = true
  · rw [if_pos h1, if_pos h1]
    obtain ⟨k, hk, rfl⟩ := ix_of h1 (by decide)
    rw [nI_clamp (show k < 2 ^ 31 by omega)]
    dsimp only
    rw [if_pos (shc_ok k hk), X_isParty h.1.2.2.2.1 hP]
    simp only [Option.bind_some, zb_if]
    by_cases h2 : ix one (aP (uA σ)) = true
    · rw [if_pos h2, if_pos h2]
      obtain ⟨g1, g2⟩ := h.2.2.2.2 k hk
      have hwf := hS.2.2.2.2.2 k hk
      rw [g1]
      by_cases h4 : (uS σ k).1 = -1
      · rw [if_pos h4, if_pos h4]; exact ⟨M, L, rfl, h⟩
      · rw [if_neg h4, if_neg h4]
        obtain ⟨g3, g4⟩ := g2.resolve_left h4
        have hz := (hwf.resolve_left h4).2
        rw [g3]
        by_cases h5 : 20 < (uS σ k).2.1
        · rw [if_pos h5, if_neg (show ¬ nI (uS σ k).2.1 ≤ 20 from nI_ge (a := 20) (by omega) (by omega))]; exact ⟨M, L, rfl, h⟩
        · rw [if_neg h5, if_pos (show nI (uS σ k).2.1 ≤ 20 from nI_le (b := 20) (by omega) (by decide))]
          obtain ⟨p, hp, rfl⟩ := ix_of h2 (by omega)
          rw [nI_clamp (show p < 2 ^ 31 by omega)]
          exact go k hk p hp h4 64 0 FU M L 0 (by decide) (by decide) h
    · rw [if_neg h2, if_neg h2]; exact ⟨M, L, rfl, h⟩
  · rw [if_neg h1, if_neg h1]; exact ⟨M, L, rfl, h⟩
theorem Y_stood {R : Mi} {S : Ml} {σ : Sg} (hS : WS σ) (h : YI R S σ) (s one : Int32) : ∃ R' S', F_X6_stood R S s one = some (s_stood σ s one, R', S') ∧ YI R' S' σ := by
  have hP := hS.1.1
  have put : ∀ (R : Mi) (S : Ml) (B : Af) (p : Nat) (v : Int32), YI R S (B, σ.2) → YI (up2 R 4 (4 * p + 1) v) S (aSet B p 4 v, σ.2) := fun R S B p v hX =>
    hX.now (by have := YFl_set (p := p) (w := 4) (v := v) hX.1 (by decide); rw [show 4 * p + 4 - 3 = 4 * p + 1 by omega] at this; exact this) (fun k _ hk _ => up2_ne hk) (fun j _ => up2_a (by decide)) (fun _ _ => rfl)
  have go : ∀ k, k < 4 → ∀ p, p < aP (uA σ) → ¬ (uS σ k).1 = -1 → ∀ d c m R S B x, c + d = 64 → d < m → YI R S (B, σ.2) → (∀ v, aSet B p 4 v = aSet (uA σ) p 4 v) → aH B = aH (uA σ) → ∃ R' S', F_X6_stood_k51 m R S (nI k) (nI p) (aQ (uA σ) p).2.2.1 x (nI c) = some (fo (upL (gdS (uX σ) (uA σ) p (uS σ k).2.2 (uS σ k).2.1)) d c x, R', S') ∧ YI R' S' σ := by
    intro k hk p hp h4 d
    have hz := ((hS.2.2.2.2.2 k hk).resolve_left h4).2
    induction d with
    | zero =>
      intro c m R S B x hc hm hX hB hH
      obtain ⟨m, rfl⟩ : ∃ q, m = q + 1 := ⟨m - 1, by omega⟩
      rw [F_X6_stood_k51, if_pos (show (64 : Int32) ≤ nI c from nI_le (a := 64) (by omega) (by omega)), i4p1, if_pos (ix_nI (by omega) (by decide)), nI_clamp (by omega)]
      refine ⟨_, S, rfl, ?_⟩
      have := put R S B p (aQ (uA σ) p).2.2.1 hX
      rw [hB] at this
      rw [show aSet (uA σ) p 4 (aQ (uA σ) p).2.2.1 = uA σ from aSet_back (uA σ) p 4] at this
      exact this
    | succ d ih =>
      intro c m R S B x hc hm hX hB hH
      obtain ⟨m, rfl⟩ : ∃ q, m = q + 1 := ⟨m - 1, by omega⟩
      have I2 := put R S B p (nI c) hX
      rw [hB] at I2
      have hw2 : wfA (uT σ) (aSet (uA σ) p 4 (nI c)) := wfA_set hS.1 (fun q => ⟨q.1, q.2.1, ix_nI (show c < 64 by omega) (by decide), q.2.2.2⟩)
      obtain ⟨-, q1, q2⟩ := (I2.2.2.2.2.1 k hk).2.resolve_left h4
      obtain ⟨R3, S3, b1, b2⟩ := Y_first (σ := (aSet (uA σ) p 4 (nI c), σ.2)) hw2 hS.2.1 hk hz I2 hp q1 q2
      replace b1 : F_X6_firstOther (up2 R 4 (4 * p + 1) (nI c)) S (nI k) (nI p) = some (fst1 (uX σ) (aSet (uA σ) p 4 (nI c)) p (uS σ k).2.2 (uS σ k).2.1, R3, S3) := b1
      rw [F_X6_stood_k51, if_neg (show ¬ (64 : Int32) ≤ nI c from nI_ge (b := 64) (by omega) (by decide)), i4p1, if_pos (ix_nI (by omega) (by decide)), nI_clamp (show 4 * p + 1 < 2 ^ 31 by omega), F_hasR _ (show c < 64 by omega), hX.1.2.1, Option.bind_some, zb_if]
      unfold F_X6_stood_k101 F_X6_stood_k102
      rw [nI_1, b1]
      simp only [Option.bind_some]
      have es : fo (upL (gdS (uX σ) (uA σ) p (uS σ k).2.2 (uS σ k).2.1)) (d + 1) c x = fo (upL (gdS (uX σ) (uA σ) p (uS σ k).2.2 (uS σ k).2.1)) d (c + 1) (upL (gdS (uX σ) (uA σ) p (uS σ k).2.2 (uS σ k).2.1) c x) := rfl
      rw [es]
      unfold upL gdS
      rw [show aH (B, σ.2).1 = aH (uA σ) from hH]
      have st : ∀ v, aSet (aSet (uA σ) p 4 (nI c)) p 4 v = aSet (uA σ) p 4 v := fun v => aSet_aSet (uA σ) p 4 (nI c) v
      by_cases e : tb (aH (uA σ)) (nI c) = true
      · rw [e, if_pos rfl, if_neg (show ¬ (!true && decide (fst1 (uX σ) (aSet (uA σ) p 4 (nI c)) p (uS σ k).2.2 (uS σ k).2.1 = -1)) = true by rw [Bool.not_true, Bool.false_and]; decide), or_0]
        exact ih (c + 1) m _ _ _ x (by omega) (by omega) I2 st rfl
      · rw [if_neg e]
        rw [Bool.not_eq_true] at e
        rw [e, Bool.not_false, Bool.true_and]
        by_cases e2 : fst1 (uX σ) (aSet (uA σ) p 4 (nI c)) p (uS σ k).2.2 (uS σ k).2.1 = -1
        · rw [if_pos e2, if_pos (decide_eq_true e2)]; exact ih (c + 1) m _ _ _ _ (by omega) (by omega) b2 st rfl
        · rw [if_neg e2, if_neg (by rw [decide_eq_true_iff]; exact e2), or_0]; exact ih (c + 1) m _ _ _ _ (by omega) (by omega) b2 st rfl
  unfold F_X6_stood F_X6_isSheet s_stood
  rw [F_inN s 3 rfl, Option.bind_some, rz_zb, Option.bind_some, zb_if, Y_isOne h.1.2.2.2.1 hP, Option.bind_some, zb_if]
  by_cases h1 : ix s 4 = true
  · obtain ⟨k, hk, rfl⟩ := ix_of h1 (by decide)
    simp only [if_pos h1, nI_clamp (show k < 2 ^ 31 by omega)]
    by_cases h2 : ix one (aP (uA σ)) = true
    · rw [if_pos h2, if_pos h2]
      obtain ⟨g1, g2⟩ := h.2.2.2.2.1 k hk
      have hwf := hS.2.2.2.2.2 k hk
      rw [g1]
      by_cases h4 : (uS σ k).1 = -1
      · rw [if_pos h4, if_pos h4, if_pos (show (0 : Int32) = 0 from rfl)]; exact ⟨R, S, rfl, h⟩
      · rw [if_neg h4, if_neg h4, if_neg (show ¬ (1 : Int32) = 0 by decide)]
        obtain ⟨-, g3, g4⟩ := g2.resolve_left h4
        have hz := (hwf.resolve_left h4).2
        rw [g3]
        by_cases h5 : 20 < (uS σ k).2.1
        · rw [if_pos h5, if_neg (show ¬ nI (uS σ k).2.1 ≤ 20 from nI_ge (a := 20) (by omega) (by omega))]; exact ⟨R, S, rfl, h⟩
        · rw [if_neg h5, if_pos (show nI (uS σ k).2.1 ≤ 20 from nI_le (b := 20) (by omega) (by decide))]
          obtain ⟨p, hp, rfl⟩ := ix_of h2 (by omega)
          rw [nI_clamp (show p < 2 ^ 31 by omega), Y_on hS.1 h.1 hp S, Option.bind_some]
          exact go k hk p hp h4 64 0 FU R S (uA σ) 0 (by decide) (by decide) h (fun _ => rfl) rfl
    · rw [if_neg h2, if_neg h2]; exact ⟨R, S, rfl, h⟩
  · rw [if_neg h1, if_neg h1]; exact ⟨R, S, rfl, h⟩
/-! film -/
def fmI (C : Cd) (A : Af) (p : Nat) (k : Nat) : Int32 := (wk C (aH A) (aM A) false (k + 1) (aQ A p)).2.2.1
def s_film (σ : Sg) (s one n : Int32) : Int32 × Sg :=
  if ix s 4 = true then (if ix one (aP (uA σ)) = true then (if ix n 21 = true then (n, uSh σ s.toNatClampNeg (0, n.toNatClampNeg, fmI (uX σ (aU (uA σ))) (uA σ) one.toNatClampNeg)) else (-2, σ)) else (-2, σ)) else (-2, σ)
theorem Ws_film {σ : Sg} (hS : WS σ) (s one n : Int32) : WS (s_film σ s one n).2 := by
  unfold s_film
  by_cases h1 : ix s 4 = true
  · rw [if_pos h1]
    by_cases h2 : ix one (aP (uA σ)) = true
    · rw [if_pos h2]
      by_cases h3 : ix n 21 = true
      · rw [if_pos h3]; exact WS_sh hS (Or.inr ⟨by show ix 0 3 = true; decide, by have := (ix_self h3 (by decide)).2; show n.toNatClampNeg ≤ 40; omega⟩)
      · rw [if_neg h3]; exact hS
    · rw [if_neg h2]; exact hS
  · rw [if_neg h1]; exact hS
theorem byte_id : ∀ c, c < 64 → Int8.toInt32 (Int32.toInt8 (nI c)) = nI c := by decide
theorem X_has {b : Nat} {M : Mi} {L : Ml} {size i n : Nat} (h2 : M b 2 = nI size) (hz : size ≤ 40) (hi : i < 2 ^ 30) (hn : n < 2 ^ 30) : F_X3_has b M L (nI i) (nI n) = some (zb (decide (i + n ≤ size))) := by
  unfold F_X3_has
  rw [if_neg (nI_pos (by omega)), if_neg (nI_pos (by omega)), h2]
  by_cases h : i + n ≤ size
  · rw [decide_eq_true h, if_neg (by rw [i_lt, pk_sub_toInt (by omega) (by omega), nI_toInt (by omega)]; omega), rz_1]
  · rw [decide_eq_false h, if_pos (by rw [i_lt, pk_sub_toInt (by omega) (by omega), nI_toInt (by omega)]; omega), rz_0]
theorem X_putB {b : Nat} {M : Mi} {L : Ml} {size j c : Nat} (h1 : M b 1 = 0) (h2 : M b 2 = nI size) (hz : size ≤ 40) (hj : j < size) (hc : c < 64) : F_X3_put b M L (nI j) (nI c) = some (zb true, up2 M (b + 1) j (nI c), L) := by
  unfold F_X3_put
  have hh : F_X3_has b M L (nI j) 1 = some (zb (decide (j + 1 ≤ size))) := X_has (n := 1) h2 hz (by omega) (by omega)
  rw [hh, Option.bind_some, zb_if, if_pos (decide_eq_true (show j + 1 ≤ size by omega)), h1, if_pos (show (0 : Int32) = 0 from rfl), if_pos (ix_nI (by omega) (by decide)), rzw_1, nI_clamp (show j < 2 ^ 31 by omega), byte_id c hc]
theorem X_film_k {E : Ev} {M2 : Mi} {L2 : Ml} {σ : Sg} (hS : WS σ) {k p N : Nat} (hk : k < 4) (hp : p < aP (uA σ)) (hN : N ≤ 20) (xt2 : XT E M2 (uT σ) (uX σ)) (f1 : L2 6 1 = aH (uA σ)) (s1 : M2 (28 + 2 * k) 1 = 0) (s2 : M2 (28 + 2 * k) 2 = nI N) :
    ∀ d j m M3, j + d = N → d < m → (∀ i, i ≠ 23 → (i < 6 ∨ 10 < i) → i ≠ 28 + 2 * k + 1 → M3 i = M2 i) → (∀ i, i < j → M3 (28 + 2 * k + 1) i = fmI (uX σ (aU (uA σ))) (uA σ) p i) → M3 6 2 = nI (aM (uA σ) + j) → M3 6 4 = nI (aU (uA σ)) → XP 6 M3 p (wk (uX σ (aU (uA σ))) (aH (uA σ)) (aM (uA σ)) false j (aQ (uA σ) p)) → ∃ M', F_X5_film_k53 E m M3 L2 (nI p) (nI N) (28 + 2 * k) (nI j) = some (nI N, M', L2) ∧ (∀ i, i ≠ 23 → (i < 6 ∨ 10 < i) → i ≠ 28 + 2 * k + 1 → M' i = M2 i) ∧ ∀ i, i < N → M' (28 + 2 * k + 1) i = fmI (uX σ (aU (uA σ))) (uA σ) p i := by
  have hP := hS.1.1
  intro d
  induction d with
  | zero =>
    intro j m M3 hj hm g1 g2 g3 g4 g5
    obtain ⟨m, rfl⟩ : ∃ q, m = q + 1 := ⟨m - 1, by omega⟩
    rw [F_X5_film_k53, if_pos (nI_le (by omega) (by omega))]
    exact ⟨M3, rfl, g1, fun i hi => g2 i (by omega)⟩
  | succ d ih =>
    intro j m M3 hj hm g1 g2 g3 g4 g5
    obtain ⟨m, rfl⟩ : ∃ q, m = q + 1 := ⟨m - 1, by omega⟩
    have xt : XT E M3 (uT σ) (uX σ) := xt2.keep (by rw [g1 21 (by decide) (by decide) (by omega)]) (fun i hi => g1 i (by omega) (by omega) (by omega))
    obtain ⟨M4, c1, c2, c3, c4⟩ := X_one (L := L2) (b := 6) (by decide) xt (show p < 5 by omega) g4 hS.1.2.1 g5 (wfp_wk (hS.1.2.2 p hp) j) false
    replace c1 : F_X1_passOne E 6 M3 L2 (nI p) 0 = _ := c1
    rw [f1, g3] at c2
    have e6 : M4 6 = M3 6 := c3 6 (by decide) (by decide) (by decide)
    generalize hq : pst (uX σ (aU (uA σ))) (aH (uA σ)) (nI (aM (uA σ) + j)) false (wk (uX σ (aU (uA σ))) (aH (uA σ)) (aM (uA σ)) false j (aQ (uA σ) p)) = q' at c2
    have hq2 : wk (uX σ (aU (uA σ))) (aH (uA σ)) (aM (uA σ)) false (j + 1) (aQ (uA σ) p) = q' := hq
    have hw' : wfp q' := by rw [← hq2]; exact wfp_wk (hS.1.2.2 p hp) (j + 1)
    have hon : fmI (uX σ (aU (uA σ))) (uA σ) p j = q'.2.2.1 := by unfold fmI; rw [hq2]
    obtain ⟨c, hc, ec⟩ := ix_of hw'.2.2.1 (by decide)
    have o5 : ∀ i, i ≠ 23 → (i < 6 ∨ 10 < i) → i ≠ 28 + 2 * k + 1 → up2 M4 6 2 (nI (aM (uA σ) + j + 1)) i = M2 i := fun i q1 q2 q3 => by rw [up2_ne (by omega), c3 i q1 (by omega) (by omega), g1 i q1 q2 q3]
    have t2 : up2 M4 6 2 (nI (aM (uA σ) + j + 1)) (28 + 2 * k) 2 = nI N := by rw [o5 _ (by omega) (by omega) (by omega)]; exact s2
    have t1 : up2 M4 6 2 (nI (aM (uA σ) + j + 1)) (28 + 2 * k) 1 = 0 := by rw [o5 _ (by omega) (by omega) (by omega)]; exact s1
    have pb := X_putB (L := L2) (c := c) t1 t2 (by omega) (show j < N by omega) hc
    rw [F_X5_film_k53, if_neg (nI_ge (by omega) (by omega)), c1]
    simp only [Option.bind_some]
    rw [if_pos (ix_nI (by omega) (by decide)), e6, g3, nI_1, nI_1, nI_clamp (show p < 2 ^ 31 by omega), up2_a (show 9 ≠ 6 by decide), c2.2.2.1, ec, pb]
    simp only [Option.bind_some]
    have o6 : ∀ i, i ≠ 28 + 2 * k + 1 → up2 (up2 M4 6 2 (nI (aM (uA σ) + j + 1))) (28 + 2 * k + 1) j (nI c) i = up2 M4 6 2 (nI (aM (uA σ) + j + 1)) i := fun i q => up2_ne q
    refine ih (j + 1) m _ (by omega) (by omega) (fun i q1 q2 q3 => by rw [o6 i q3]; exact o5 i q1 q2 q3) (fun i hi => ?_) ?_ ?_ ?_
    · by_cases e : i = j
      · rw [e, up2_at, hon, ec]
      · rw [up2_b e, up2_a (by omega), c3 _ (by omega) (by omega) (by omega)]; exact g2 i (by omega)
    · rw [o6 6 (by omega), up2_at, Nat.add_assoc]
    · rw [o6 6 (by omega), up2_b (by decide), e6]; exact g4
    · rw [hq2]
      exact ⟨by rw [o6 _ (by omega), up2_a (by decide)]; exact c2.1, by rw [o6 _ (by omega), up2_a (by decide)]; exact c2.2.1, by rw [o6 _ (by omega), up2_a (by decide)]; exact c2.2.2.1, by rw [o6 _ (by omega), up2_a (by decide)]; exact c2.2.2.2⟩
theorem X_film_go {E : Ev} {M : Mi} {L : Ml} {σ : Sg} (hS : WS σ) (h : XI E M L σ) {k p N : Nat} (hk : k < 4) (hp : p < aP (uA σ)) (hN : N ≤ 20) : ∃ M1 M2 L2 M', F_X3_become (28 + 2 * k) M L 0 (nI N) = some (M1, L) ∧ F_X0_become 6 1 M1 L = some (M2, L2) ∧ F_X5_film_k53 E FU M2 L2 (nI p) (nI N) (28 + 2 * k) (nI 0) = some (nI N, M', L2) ∧ XI E M' L2 (uSh σ k (0, N, fmI (uX σ (aU (uA σ))) (uA σ) p)) := by
  obtain ⟨M1, a1, a2, a3, a4, a5⟩ := X_become3 (b := 28 + 2 * k) M L 0 (nI N)
  have i03 : ix 0 3 = true := by decide
  have wf0 : wfS (0, N, fun _ => 0) := Or.inr ⟨i03, by show N ≤ 40; omega⟩
  have I1 : XI E M1 L (uSh σ k (0, N, fun _ => 0)) := h.sh hk ⟨a2, Or.inr ⟨a3, fun i hi => a4 i (by replace hi : i < N := hi; omega)⟩⟩ (fun i q1 q2 _ _ => a5 i q1 q2) (fun _ _ => rfl)
  obtain ⟨M2, L2, b1, b2, b3, b4, b5⟩ := X_think (b := 6) (by decide) (WS_sh hS wf0) I1
  have b2' : XFl 6 M2 L2 (uA σ) := b2
  have b3' : XT E M2 (uT σ) (uX σ) := b3.2.2.1
  obtain ⟨f0, f1, f2, f3, f4, f5⟩ := b2'
  have e1 : M2 (28 + 2 * k) 1 = 0 := by rw [b4 _ (by omega)]; exact a2
  have e2 : M2 (28 + 2 * k) 2 = nI N := by rw [b4 _ (by omega)]; exact a3
  obtain ⟨M', c1, c2, c3⟩ := X_film_k hS hk hp hN b3' f1 e1 e2 N 0 FU M2 (by omega) (by unfold FU; omega) (fun _ _ _ _ => rfl) (fun i hi => absurd hi (by omega)) f2 f4 (f5 p hp)
  refine ⟨M1, M2, L2, M', a1, b1, c1, ?_⟩
  refine h.sh hk ⟨?_, Or.inr ⟨?_, c3⟩⟩ (fun i q1 q2 q3 q4 => ?_) (fun i hi => b5 i (by omega))
  · rw [c2 _ (by omega) (by omega) (by omega)]; exact e1
  · rw [c2 _ (by omega) (by omega) (by omega)]; exact e2
  · rw [c2 i q3 (by omega) q2, b4 i (by omega), a5 i q1 q2]
theorem X_film {E : Ev} {M : Mi} {L : Ml} {σ : Sg} (hS : WS σ) (h : XI E M L σ) (s one n : Int32) : ∃ M' L', F_X5_film E M L s one n = some ((s_film σ s one n).1, M', L') ∧ XI E M' L' (s_film σ s one n).2 := by
  have hP := hS.1.1
  have w20 : F_X5_isWithin n 20 = some (zb (ix n 21)) := F_isWithinN n (m := 20) (by decide)
  unfold F_X5_film s_film
  rw [X_sheetAt, Option.bind_some]
  by_cases h1 : ix s 4 = true
  · rw [if_pos h1, if_pos h1]
    obtain ⟨k, hk, rfl⟩ := ix_of h1 (by decide)
    rw [nI_clamp (show k < 2 ^ 31 by omega)]
    dsimp only
    rw [if_pos (shc_ok k hk), X_isParty h.1.2.2.2.1 hP, w20]
    simp only [Option.bind_some, zb_if]
    by_cases h2 : ix one (aP (uA σ)) = true
    · rw [if_pos h2, if_pos h2]
      by_cases h3 : ix n 21 = true
      · rw [if_pos h3, if_pos h3]
        obtain ⟨p, hp, rfl⟩ := ix_of h2 (by omega)
        obtain ⟨N, hN, rfl⟩ := ix_of h3 (by decide)
        rw [nI_clamp (show p < 2 ^ 31 by omega), nI_clamp (show N < 2 ^ 31 by omega)]
        obtain ⟨M1, M2, L2, M', a1, b1, c1, c2⟩ := X_film_go hS h hk hp (show N ≤ 20 by omega)
        rw [a1, Option.bind_some]
        dsimp only
        rw [b1, Option.bind_some]
        dsimp only
        exact ⟨M', L2, c1, c2⟩
      · rw [if_neg h3, if_neg h3]; exact ⟨M, L, rfl, h⟩
    · rw [if_neg h2, if_neg h2]; exact ⟨M, L, rfl, h⟩
  · rw [if_neg h1, if_neg h1]; exact ⟨M, L, rfl, h⟩
