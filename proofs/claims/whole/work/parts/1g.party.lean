/-! PURE: party, feed, force, minute, taken -/
def aAdd (A : Af) (q : Pt) : Af := (aR A, aH A, aM A, aP A + 1, aU A, fun j => if j = aP A then q else aQ A j)
def okP (A : Af) (k n on : Int32) : Prop := ix k 6 = true ∧ ix n 10 = true ∧ ix on 64 = true ∧ tb (aH A) on = false
def s_party (A : Af) (k n on : Int32) : Int32 × Af := if ix k 6 = true ∧ ix n 10 = true ∧ ix on 64 = true ∧ tb (aH A) on = false then (if aP A = 5 then (-4, A) else (nI (aP A), aAdd A (k, n, on, 0))) else (-2, A)
theorem Ws_party {T : Nat} {A : Af} (hw : wfA T A) (k n on : Int32) : wfA T (s_party A k n on).2 ∧ aM (s_party A k n on).2 = aM A := by
  unfold s_party
  by_cases h : ix k 6 = true ∧ ix n 10 = true ∧ ix on 64 = true ∧ tb (aH A) on = false
  · rw [if_pos h]
    by_cases h5 : aP A = 5
    · rw [if_pos h5]; exact ⟨hw, rfl⟩
    · rw [if_neg h5]
      refine ⟨⟨by have := hw.1; show aP A + 1 ≤ 5; omega, hw.2.1, fun j hj => ?_⟩, rfl⟩
      show wfp (if j = aP A then (k, n, on, 0) else aQ A j)
      by_cases e : j = aP A
      · rw [if_pos e]; exact ⟨h.1, h.2.1, h.2.2.1, by show ix 0 100 = true; decide⟩
      · rw [if_neg e]; replace hj : j < aP A + 1 := hj; exact hw.2.2 j (by omega)
  · rw [if_neg h]; exact ⟨hw, rfl⟩
theorem X_party {M : Mi} {L : Ml} {A : Af} {T : Nat} (hw : wfA T A) (hF : XFl 1 M L A) (k n on : Int32) : ∃ M', F_X5_party M L k n on = some ((s_party A k n on).1, M', L) ∧ XFl 1 M' L (s_party A k n on).2 ∧ ∀ k, (k = 0 ∨ 5 < k) → M' k = M k := by
  have hP := hw.1
  have w9 : F_X5_isWithin n 9 = some (zb (ix n 10)) := F_isWithinN n (m := 9) (by decide)
  have bad : ¬ (ix k 6 = true ∧ ix n 10 = true ∧ ix on 64 = true ∧ tb (aH A) on = false) → ∃ M', (some (-2, M, L) : Option (Int32 × Mi × Ml)) = some ((s_party A k n on).1, M', L) ∧ XFl 1 M' L (s_party A k n on).2 ∧ ∀ k, (k = 0 ∨ 5 < k) → M' k = M k := by
    intro h; unfold s_party; rw [if_neg h]; exact ⟨M, rfl, hF, fun _ _ => rfl⟩
  unfold F_X5_party
  rw [F_isKindX, F_isTileX, w9]
  simp only [Option.bind_some, zb_if]
  by_cases h1 : ix k 6 = true
  · rw [if_pos h1]
    by_cases h2 : ix n 10 = true
    · rw [if_pos h2]
      by_cases h3 : ix on 64 = true
      · rw [if_pos h3]
        obtain ⟨c, hc, rfl⟩ := ix_of h3 (by decide)
        rw [F_isHollowX 1 M L hc, hF.2.1, Option.bind_some, zb_if]
        by_cases h4 : tb (aH A) (nI c) = true
        · rw [if_pos h4]; exact bad (fun q => by rw [h4] at q; cases q.2.2.2)
        · rw [if_neg h4]
          rw [Bool.not_eq_true] at h4
          unfold s_party
          have hc4 : ix k 6 = true ∧ ix n 10 = true ∧ ix (nI c) 64 = true ∧ tb (aH A) (nI c) = false := ⟨h1, h2, h3, h4⟩
          rw [if_pos hc4, hF.2.2.2.1]
          by_cases h5 : aP A = 5
          · rw [if_pos h5, if_neg (show ¬ nI (aP A) < 5 by rw [h5]; decide)]; exact ⟨M, rfl, hF, fun _ _ => rfl⟩
          · obtain ⟨f0, f1, f2, f3, f4, f5⟩ := hF
            have i5 := ix_nI (show aP A < 5 by omega) (show 5 < 2 ^ 31 by decide)
            rw [if_neg h5, if_pos (show nI (aP A) < 5 from nI_lt (b := 5) (by omega) (by decide)), if_pos i5, if_pos i5, if_pos i5, if_pos i5, nI_clamp (by omega), nI_1]
            refine ⟨_, rfl, ⟨f0, f1, ?_, up2_at _ _ _ _, ?_, fun j hj => ?_⟩, fun i hi => ?_⟩
            · rw [up2_b (by decide), up2_a (by decide), up2_a (by decide), up2_a (by decide), up2_a (by decide)]; exact f2
            · rw [up2_b (by decide), up2_a (by decide), up2_a (by decide), up2_a (by decide), up2_a (by decide)]; exact f4
            · show XP 1 _ j (if j = aP A then (k, n, nI c, 0) else aQ A j)
              by_cases e : j = aP A
              · rw [if_pos e, e]
                refine ⟨?_, ?_, ?_, ?_⟩
                · show up2 _ 1 3 _ 2 _ = k
                  rw [up2_a (by decide), up2_a (by decide), up2_a (by decide), up2_a (by decide), up2_at]
                · show up2 _ 1 3 _ 3 _ = n
                  rw [up2_a (by decide), up2_a (by decide), up2_a (by decide), up2_at]
                · show up2 _ 1 3 _ 4 _ = nI c
                  rw [up2_a (by decide), up2_a (by decide), up2_at]
                · show up2 _ 1 3 _ 5 _ = 0
                  rw [up2_a (by decide), up2_at]
              · rw [if_neg e]
                replace hj : j < aP A + 1 := hj
                have g := f5 j (by omega)
                refine ⟨?_, ?_, ?_, ?_⟩
                · show up2 _ 1 3 _ 2 _ = _
                  rw [up2_a (by decide), up2_a (by decide), up2_a (by decide), up2_a (by decide), up2_b e]; exact g.1
                · show up2 _ 1 3 _ 3 _ = _
                  rw [up2_a (by decide), up2_a (by decide), up2_a (by decide), up2_b e, up2_a (by decide)]; exact g.2.1
                · show up2 _ 1 3 _ 4 _ = _
                  rw [up2_a (by decide), up2_a (by decide), up2_b e, up2_a (by decide), up2_a (by decide)]; exact g.2.2.1
                · show up2 _ 1 3 _ 5 _ = _
                  rw [up2_a (by decide), up2_b e, up2_a (by decide), up2_a (by decide), up2_a (by decide)]; exact g.2.2.2
            · rw [up2_ne (by omega), up2_ne (by omega), up2_ne (by omega), up2_ne (by omega), up2_ne (by omega)]
      · rw [if_neg h3]; exact bad (fun q => h3 q.2.2.1)
    · rw [if_neg h2]; exact bad (fun q => h2 q.2.1)
  · rw [if_neg h1]; exact bad (fun q => h1 q.1)
theorem Y_party {R : Mi} {S : Ml} {A : Af} {T : Nat} (hw : wfA T A) (hF : YFl R S A) (k n on : Int32) : ∃ R', F_X6_party R S k n on = some ((s_party A k n on).1, R', S) ∧ YFl R' S (s_party A k n on).2 ∧ (∀ k, k ≠ 0 → k ≠ 4 → R' k = R k) ∧ ∀ j, j ≠ 11 → R' 0 j = R 0 j := by
  have hP := hw.1
  have bad : ¬ (ix k 6 = true ∧ ix n 10 = true ∧ ix on 64 = true ∧ tb (aH A) on = false) → ∃ R', (some (-2, R, S) : Option (Int32 × Mi × Ml)) = some ((s_party A k n on).1, R', S) ∧ YFl R' S (s_party A k n on).2 ∧ (∀ k, k ≠ 0 → k ≠ 4 → R' k = R k) ∧ ∀ j, j ≠ 11 → R' 0 j = R 0 j := by
    intro h; unfold s_party; rw [if_neg h]; exact ⟨R, rfl, hF, fun _ _ _ => rfl, fun _ _ => rfl⟩
  unfold F_X6_party
  rw [F_inN k 5 rfl, F_inN n 9 rfl, F_isTileR]
  simp only [Option.bind_some, zb_if]
  by_cases h1 : ix k 6 = true
  · rw [if_pos h1]
    by_cases h2 : ix n 10 = true
    · rw [if_pos h2]
      by_cases h3 : ix on 64 = true
      · rw [if_pos h3]
        obtain ⟨c, hc, rfl⟩ := ix_of h3 (by decide)
        rw [F_hasR _ hc, hF.2.1, Option.bind_some, zb_if]
        by_cases h4 : tb (aH A) (nI c) = true
        · rw [if_pos h4]; exact bad (fun q => by rw [h4] at q; cases q.2.2.2)
        · rw [if_neg h4]
          rw [Bool.not_eq_true] at h4
          unfold s_party
          have hc4 : ix k 6 = true ∧ ix n 10 = true ∧ ix (nI c) 64 = true ∧ tb (aH A) (nI c) = false := ⟨h1, h2, h3, h4⟩
          rw [if_pos hc4, hF.2.2.2.1]
          by_cases h5 : aP A = 5
          · rw [if_pos h5, if_pos (show nI (aP A) = 5 by rw [h5]; rfl)]; exact ⟨R, rfl, hF, fun _ _ _ => rfl, fun _ _ => rfl⟩
          · obtain ⟨f0, f1, f2, f3, f4, f5⟩ := hF
            rw [if_neg h5, if_neg (show ¬ nI (aP A) = 5 from fun q => h5 ((nI_eq (b := 5) (by omega) (by decide)).mp q))]
            simp only [up2_a (show (0 : Nat) ≠ 4 by decide), f3, i4p, nI_1, show nI (4 * aP A) + 2 = nI (4 * aP A + 2) from nI_add _ 2, show nI (4 * aP A) + 3 = nI (4 * aP A + 3) from nI_add _ 3, nI_clamp (show 4 * aP A < 2 ^ 31 by omega), nI_clamp (show 4 * aP A + 1 < 2 ^ 31 by omega), nI_clamp (show 4 * aP A + 2 < 2 ^ 31 by omega), nI_clamp (show 4 * aP A + 3 < 2 ^ 31 by omega), if_pos (ix_nI (show 4 * aP A < 20 by omega) (by decide)), if_pos (ix_nI (show 4 * aP A + 1 < 20 by omega) (by decide)), if_pos (ix_nI (show 4 * aP A + 2 < 20 by omega) (by decide)), if_pos (ix_nI (show 4 * aP A + 3 < 20 by omega) (by decide)), up2_at, nI_pred]
            refine ⟨_, rfl, ⟨f0, f1, ?_, up2_at _ _ _ _, ?_, fun j hj => ?_⟩, fun i hi h4 => ?_, fun i hi => ?_⟩
            · rw [up2_b (by decide), up2_a (by decide), up2_a (by decide), up2_a (by decide), up2_a (by decide)]; exact f2
            · rw [up2_b (by decide), up2_a (by decide), up2_a (by decide), up2_a (by decide), up2_a (by decide)]; exact f4
            · show YP _ j (if j = aP A then (k, n, nI c, 0) else aQ A j)
              by_cases e : j = aP A
              · rw [if_pos e, e]
                refine ⟨?_, ?_, ?_, ?_⟩
                · rw [up2_a (by decide), up2_at]
                · rw [up2_a (by decide), up2_b (by omega), up2_b (by omega), up2_b (by omega), up2_at]
                · rw [up2_a (by decide), up2_b (by omega), up2_b (by omega), up2_at]
                · rw [up2_a (by decide), up2_b (by omega), up2_at]
              · rw [if_neg e]
                replace hj : j < aP A + 1 := hj
                have g := f5 j (by omega)
                refine ⟨?_, ?_, ?_, ?_⟩
                · rw [up2_a (by decide), up2_b (by omega), up2_b (by omega), up2_b (by omega), up2_b (by omega)]; exact g.1
                · rw [up2_a (by decide), up2_b (by omega), up2_b (by omega), up2_b (by omega), up2_b (by omega)]; exact g.2.1
                · rw [up2_a (by decide), up2_b (by omega), up2_b (by omega), up2_b (by omega), up2_b (by omega)]; exact g.2.2.1
                · rw [up2_a (by decide), up2_b (by omega), up2_b (by omega), up2_b (by omega), up2_b (by omega)]; exact g.2.2.2
            · rw [up2_ne hi, up2_ne h4, up2_ne h4, up2_ne h4, up2_ne h4]
            · rw [up2_b hi, up2_a (by decide), up2_a (by decide), up2_a (by decide), up2_a (by decide)]
      · rw [if_neg h3]; exact bad (fun q => h3 q.2.2.1)
    · rw [if_neg h2]; exact bad (fun q => h2 q.2.1)
  · rw [if_neg h1]; exact bad (fun q => h1 q.1)
/-! minute -/
def s_minute (C : Cd) (A : Af) : Int32 × Af := if aM A = 999 then (-3, A) else (lft C (-1) A (aP A) 0 0, Aft C (-1) 1 A)
theorem Ws_minute {T : Nat} {A : Af} {C : Cd} (hw : wfA T A) (hm : aM A ≤ 999) : wfA T (s_minute C A).2 ∧ aM (s_minute C A).2 ≤ 999 := by
  unfold s_minute
  by_cases h : aM A = 999
  · rw [if_pos h]; exact ⟨hw, hm⟩
  · rw [if_neg h]; exact ⟨wfA_Aft hw 1, by show aM A + 1 ≤ 999; omega⟩
theorem X_minute {E : Ev} {M : Mi} {L : Ml} {σ : Sg} (hS : WS σ) (h : XI E M L σ) : ∃ M', F_X5_minute E M L = some ((s_minute (uX σ (aU (uA σ))) (uA σ)).1, M', L) ∧ XI E M' L ((s_minute (uX σ (aU (uA σ))) (uA σ)).2, σ.2) := by
  have hm := hS.2.1
  unfold F_X5_minute s_minute
  rw [h.1.2.2.1]
  by_cases e : aM (uA σ) = 999
  · rw [if_pos e, if_neg (show ¬ nI (aM (uA σ)) < 999 by rw [e]; decide)]; exact ⟨M, rfl, h⟩
  · rw [if_neg e, if_pos (show nI (aM (uA σ)) < 999 from nI_lt (b := 999) (by omega) (by decide))]
    obtain ⟨M', x', a1, a2, a3, a4, a5⟩ := X_pass (b := 1) (by decide) hS.1 h.2.2.1 h.1 (n := 1) (by decide) (-1)
    replace a1 : F_X1_passMinutes E 1 M L 1 (-1) = some (x', M', L) := a1
    rw [a1]
    simp only [Option.bind_some]
    rw [a4 rfl]
    exact ⟨M', rfl, h.now a2 (fun k h1 h2 => by
      rcases h2 with rfl | h2
      · exact a3 0 (by decide) (by decide)
      · exact a3 k h1 (by omega)) (fun _ _ => rfl)⟩
theorem YI.ky {R R' : Mi} {S S' : Ml} {σ : Sg} {A' : Af} (h : YI R S σ) (g : KY R R' S S') (hF : YFl R' S' A') : YI R' S' (A', σ.2) :=
  h.now hF (fun k a b _ => g.1 k a b) (fun j hj => by
    rcases hj with rfl | rfl | rfl | hj
    · exact g.2.1 3 (by decide) (by decide)
    · exact g.2.1 6 (by decide) (by decide)
    · exact g.2.1 12 (by decide) (by decide)
    · exact g.2.2.1 j (by omega)) (fun j hj => g.2.2.2 0 j (Or.inr (by omega)))
theorem Y_minute {R : Mi} {S : Ml} {σ : Sg} (hS : WS σ) (h : YI R S σ) : ∃ R' S', F_X6_minute R S = some ((s_minute (uX σ (aU (uA σ))) (uA σ)).1, R', S') ∧ YI R' S' ((s_minute (uX σ (aU (uA σ))) (uA σ)).2, σ.2) := by
  have hm := hS.2.1
  unfold F_X6_minute s_minute
  rw [h.1.2.2.1]
  by_cases e : aM (uA σ) = 999
  · rw [if_pos e, if_pos (show nI (aM (uA σ)) = 999 by rw [e]; rfl)]; exact ⟨R, S, rfl, h⟩
  · rw [if_neg e, if_neg (show ¬ nI (aM (uA σ)) = 999 from fun q => e ((nI_eq (b := 999) (by omega) (by decide)).mp q))]
    obtain ⟨R', S', a1, a2, a3⟩ := Y_passes hS.1 (by omega) h.2.2.1 h.1
    rw [h.2.2.2.2.2] at a1 a2
    rw [a1]
    simp only [Option.bind_some]
    exact ⟨R', S', rfl, h.ky a3 a2⟩
/-! feed, force -/
def s_feed (σ : Sg) (x : Int32) : Int32 × Sg := if ix x 256 = true then (if uN σ = 160 then (-4, σ) else (nI (uN σ + 1), (uA σ, uK σ, (uT σ, uX σ), (uN σ + 1, fun i => if i = uN σ then x else uP σ i), uS σ))) else (-2, σ)
theorem Ws_feed {σ : Sg} (hS : WS σ) (x : Int32) : WS (s_feed σ x).2 := by
  unfold s_feed
  by_cases h : ix x 256 = true
  · rw [if_pos h]
    by_cases e : uN σ = 160
    · rw [if_pos e]; exact hS
    · rw [if_neg e]
      refine ⟨hS.1, hS.2.1, hS.2.2.1, by have := hS.2.2.2.1; show uN σ + 1 ≤ 160; omega, fun i hi => ?_, hS.2.2.2.2.2⟩
      show ix (if i = uN σ then x else uP σ i) 256 = true
      replace hi : i < uN σ + 1 := hi
      by_cases e2 : i = uN σ
      · rw [if_pos e2]; exact h
      · rw [if_neg e2]; exact hS.2.2.2.2.1 i (by omega)
  · rw [if_neg h]; exact hS
theorem X_feed {E : Ev} {M : Mi} {L : Ml} {σ : Sg} (hS : WS σ) (h : XI E M L σ) (x : Int32) : ∃ M', F_X5_feed M L x = some ((s_feed σ x).1, M', L) ∧ XI E M' L (s_feed σ x).2 := by
  have hN := hS.2.2.2.1
  unfold F_X5_feed F_X2_takeIn s_feed
  rw [show (255 : Int32) = nI 255 from rfl, F_isWithinN x (by decide), Option.bind_some, zb_if]
  by_cases h1 : ix x 256 = true
  · rw [if_pos h1, if_pos h1, h.2.2.2.1.1]
    by_cases e : uN σ = 160
    · rw [if_pos e, if_neg (show ¬ nI (uN σ) < 160 by rw [e]; decide), rzw_0, Option.bind_some]; exact ⟨M, rfl, h⟩
    · rw [if_neg e, if_pos (show nI (uN σ) < 160 from nI_lt (b := 160) (by omega) (by decide)), if_pos (ix_nI (by omega) (by decide)), nI_clamp (by omega), up2_a (by decide), h.2.2.2.1.1, nI_1, rzw_1, Option.bind_some]
      refine ⟨up2 (up2 M 25 (uN σ) x) 24 2 (nI (uN σ + 1)), ?_, ?_⟩
      · rw [zb_if, if_pos rfl]; dsimp only; rw [up2_at]
      · have o : ∀ k, k ≠ 24 → k ≠ 25 → up2 (up2 M 25 (uN σ) x) 24 2 (nI (uN σ + 1)) k = M k := fun k a b => by rw [up2_ne a, up2_ne b]
        obtain ⟨a, b, c, d, f⟩ := h
        refine ⟨a.keep (o _ (by decide) (by decide)) (o _ (by decide) (by decide)) (o _ (by decide) (by decide)) (o _ (by decide) (by decide)) (o _ (by decide) (by decide)) rfl, ?_, c.keep (by rw [o 21 (by decide) (by decide)]) (fun k hk => o k (by omega) (by omega)), ⟨up2_at _ _ _ _, funext fun i => ?_⟩, fun s hs => (f s hs).keep (o _ (by omega) (by omega)) (o _ (by omega) (by omega))⟩
        · show XKp _ L (uK σ)
          cases hk : uK σ with
          | none => rw [hk] at b; show _ = _; rw [o 0 (by decide) (by decide)]; exact b
          | some k => rw [hk] at b; exact ⟨by rw [o 0 (by decide) (by decide)]; exact b.1, b.2.keep (o _ (by decide) (by decide)) (o _ (by decide) (by decide)) (o _ (by decide) (by decide)) (o _ (by decide) (by decide)) (o _ (by decide) (by decide)) rfl⟩
        · show _ = if i = uN σ then x else uP σ i
          rw [up2_a (by decide)]
          by_cases e2 : i = uN σ
          · rw [if_pos e2, e2, up2_at]
          · rw [if_neg e2, up2_b e2, d.2]
  · rw [if_neg h1, if_neg h1]; exact ⟨M, rfl, h⟩
theorem Y_feed {R : Mi} {S : Ml} {σ : Sg} (hS : WS σ) (h : YI R S σ) (x : Int32) : ∃ R', F_X6_feed R S x = some ((s_feed σ x).1, R', S) ∧ YI R' S (s_feed σ x).2 := by
  have hN := hS.2.2.2.1
  unfold F_X6_feed s_feed
  rw [F_inN x 255 rfl, Option.bind_some, zb_if]
  by_cases h1 : ix x 256 = true
  · rw [if_pos h1, if_pos h1, h.2.2.2.1.1]
    by_cases e : uN σ = 160
    · rw [if_pos e, if_pos (show nI (uN σ) = 160 by rw [e]; rfl)]; exact ⟨R, rfl, h⟩
    · rw [if_neg e, if_neg (show ¬ nI (uN σ) = 160 from fun q => e ((nI_eq (b := 160) (by omega) (by decide)).mp q)), if_pos (ix_nI (by omega) (by decide)), nI_clamp (by omega), up2_a (show (0 : Nat) ≠ 3 by decide), h.2.2.2.1.1, nI_1, up2_at]
      refine ⟨up2 (up2 R 3 (uN σ) x) 0 6 (nI (uN σ + 1)), rfl, ?_⟩
      have o : ∀ k, k ≠ 0 → k ≠ 3 → up2 (up2 R 3 (uN σ) x) 0 6 (nI (uN σ + 1)) k = R k := fun k a b => by rw [up2_ne a, up2_ne b]
      have o0 : ∀ j, j ≠ 6 → up2 (up2 R 3 (uN σ) x) 0 6 (nI (uN σ + 1)) 0 j = R 0 j := fun j a => by rw [up2_b a, up2_a (by decide)]
      obtain ⟨a, b, c, d, f, g⟩ := h
      refine ⟨?_, ?_, c.keep (o0 3 (by decide)) (o 1 (by decide) (by decide)) (o 2 (by decide) (by decide)), ⟨up2_at _ _ _ _, fun i hi => ?_⟩, fun s hs => ?_, by rw [o0 12 (by decide)]; exact g⟩
      · show YFl _ S (uA σ)
        unfold YFl YP at *
        rw [o0 7 (by decide), o0 11 (by decide), o0 4 (by decide), o 4 (by decide) (by decide)]; exact a
      · show YKp _ S (uK σ)
        cases hk : uK σ with
        | none => rw [hk] at b; show _ = _; rw [o0 32 (by decide)]; exact b
        | some k => rw [hk] at b; unfold YKp at *; rw [o0 32 (by decide), o0 33 (by decide), o0 34 (by decide), o 6 (by decide) (by decide)]; exact b
      · show _ = if i = uN σ then x else uP σ i
        replace hi : i < uN σ + 1 := hi
        rw [up2_a (by decide)]
        by_cases e2 : i = uN σ
        · rw [if_pos e2, e2, up2_at]
        · rw [if_neg e2, up2_b e2]; exact d.2 i (by omega)
      · have := f s hs
        unfold YSh at *
        rw [o 7 (by decide) (by decide), o 8 (by decide) (by decide), o 9 (by decide) (by decide), o 10 (by decide) (by decide)]; exact this
  · rw [if_neg h1, if_neg h1]; exact ⟨R, rfl, h⟩
def aRul (A : Af) (u : Nat) : Af := (aR A, aH A, aM A, aP A, u, aQ A)
def s_force (T : Nat) (A : Af) (t : Int32) : Int32 × Af := if ix t T = true then (nI (aU A), aRul A t.toNatClampNeg) else (-2, A)
theorem XFl_rul {b : Nat} {M : Mi} {L : Ml} {A : Af} (h : XFl b M L A) (u : Nat) : XFl b (up2 M b 4 (nI u)) L (aRul A u) := by
  obtain ⟨f0, f1, f2, f3, f4, f5⟩ := h
  refine ⟨f0, f1, (up2_b (by decide)).trans f2, (up2_b (by decide)).trans f3, up2_at _ _ _ _, fun p hp => ?_⟩
  have g := f5 p hp
  exact ⟨(up2_a (by omega)).trans g.1, (up2_a (by omega)).trans g.2.1, (up2_a (by omega)).trans g.2.2.1, (up2_a (by omega)).trans g.2.2.2⟩
theorem YFl_rul {R : Mi} {S : Ml} {A : Af} (h : YFl R S A) (u : Nat) : YFl (up2 R 0 4 (nI u)) S (aRul A u) := by
  obtain ⟨f0, f1, f2, f3, f4, f5⟩ := h
  exact ⟨f0, f1, (up2_b (by decide)).trans f2, (up2_b (by decide)).trans f3, up2_at _ _ _ _, fun p hp => (f5 p hp).keep (up2_ne (by decide))⟩
theorem Ws_force {T : Nat} {A : Af} (hw : wfA T A) (hT : T ≤ 6) (t : Int32) : wfA T (s_force T A t).2 ∧ aM (s_force T A t).2 = aM A := by
  unfold s_force
  by_cases h : ix t T = true
  · rw [if_pos h]; exact ⟨⟨hw.1, (ix_self h (by omega)).2, hw.2.2⟩, rfl⟩
  · rw [if_neg h]; exact ⟨hw, rfl⟩
theorem X_force {E : Ev} {M : Mi} {L : Ml} {σ : Sg} (h : XI E M L σ) (t : Int32) : ∃ M', F_X5_force M L t = some ((s_force (uT σ) (uA σ) t).1, M', L) ∧ XI E M' L ((s_force (uT σ) (uA σ) t).2, σ.2) := by
  have hT := h.2.2.1.2.1
  unfold F_X5_force F_X5_isText s_force
  rw [h.2.2.1.1, F_isWithinP _ (by omega), Option.bind_some, rz_zb, Option.bind_some, zb_if]
  by_cases e : ix t (uT σ) = true
  · rw [if_pos e, if_pos e, h.1.2.2.2.2.1]
    have et := (ix_self e (by omega)).1
    refine ⟨up2 M 1 4 t, rfl, h.now ?_ (fun k _ hk => up2_ne (by omega)) (fun _ _ => rfl)⟩
    have := XFl_rul h.1 t.toNatClampNeg
    rw [← et] at this; exact this
  · rw [if_neg e, if_neg e]; exact ⟨M, rfl, h⟩
theorem Y_force {R : Mi} {S : Ml} {σ : Sg} (h : YI R S σ) (t : Int32) : ∃ R', F_X6_force R S t = some ((s_force (uT σ) (uA σ) t).1, R', S) ∧ YI R' S ((s_force (uT σ) (uA σ) t).2, σ.2) := by
  have hT := h.2.2.1.2.1
  unfold F_X6_force s_force
  rw [h.2.2.1.1, F_inP _ (by omega), Option.bind_some, zb_if]
  by_cases e : ix t (uT σ) = true
  · rw [if_pos e, if_pos e, h.1.2.2.2.2.1]
    have et := (ix_self e (by omega)).1
    refine ⟨up2 R 0 4 t, rfl, h.now ?_ (fun k hk _ _ => up2_ne hk) (fun j hj => up2_b (by omega)) (fun _ _ => rfl)⟩
    have := YFl_rul h.1 t.toNatClampNeg
    rw [← et] at this; exact this
  · rw [if_neg e, if_neg e]; exact ⟨R, rfl, h⟩
