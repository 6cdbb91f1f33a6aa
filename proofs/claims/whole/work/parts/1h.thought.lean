/-! PURE: in thought: become, laid aside and back, found behind n minutes; run -/
theorem cp5 (f g : Nat → Int32) {j : Nat} (hj : j < 5) : va_cpy f g (Int32.toNatClampNeg 0) (Int32.toNatClampNeg 0) (Int32.toNatClampNeg 5) j = f j := by
  rw [pk_cpy_in (show Int32.toNatClampNeg 0 ≤ j from Nat.zero_le _) (show j < Int32.toNatClampNeg 0 + Int32.toNatClampNeg 5 from by rw [show Int32.toNatClampNeg 0 = 0 from rfl, show Int32.toNatClampNeg 5 = 5 from rfl]; omega)]
  rw [show Int32.toNatClampNeg 0 = 0 from rfl, Nat.zero_add, Nat.sub_zero]
theorem X_become {b c : Nat} (hbc : b + 4 < c ∨ c + 4 < b) {M : Mi} {L : Ml} {A : Af} (hP : aP A ≤ 5) (hF : XFl c M L A) :
    ∃ M' L', F_X0_become b c M L = some (M', L') ∧ XFl b M' L' A ∧ (∀ k, (k < b ∨ b + 4 < k) → M' k = M k) ∧ (∀ k, k ≠ b → L' k = L k) ∧ ∀ j, j ≠ 2 → j ≠ 3 → j ≠ 4 → M' b j = M b j := by
  obtain ⟨f0, f1, f2, f3, f4, f5⟩ := hF
  have c5 : cpok 0 0 5 5 5 = true := by decide
  unfold F_X0_become
  rw [if_pos c5, if_pos c5, if_pos c5, if_pos c5]
  generalize g1 : up2 M b 2 (M c 2) = M1
  generalize g2 : up2 M1 b 3 (M1 c 3) = M2
  generalize g3 : up2 M2 b 4 (M2 c 4) = M3
  generalize g4 : upr M3 (b + 1) (va_cpy (M3 (c + 1)) (M3 (b + 1)) (Int32.toNatClampNeg 0) (Int32.toNatClampNeg 0) (Int32.toNatClampNeg 5)) = M4
  generalize g5 : upr M4 (b + 2) (va_cpy (M4 (c + 2)) (M4 (b + 2)) (Int32.toNatClampNeg 0) (Int32.toNatClampNeg 0) (Int32.toNatClampNeg 5)) = M5
  generalize g6 : upr M5 (b + 3) (va_cpy (M5 (c + 3)) (M5 (b + 3)) (Int32.toNatClampNeg 0) (Int32.toNatClampNeg 0) (Int32.toNatClampNeg 5)) = M6
  generalize g7 : upr M6 (b + 4) (va_cpy (M6 (c + 4)) (M6 (b + 4)) (Int32.toNatClampNeg 0) (Int32.toNatClampNeg 0) (Int32.toNatClampNeg 5)) = M7
  generalize h1 : up2 L b 0 (L c 0) = L1
  generalize h2 : up2 L1 b 1 (L1 c 1) = L2
  have o3 : ∀ k, k ≠ b → M3 k = M k := fun k hk => by rw [← g3, up2_ne hk, ← g2, up2_ne hk, ← g1, up2_ne hk]
  have o7 : ∀ k, k ≠ b + 1 → k ≠ b + 2 → k ≠ b + 3 → k ≠ b + 4 → M7 k = M3 k := fun k a1 a2 a3 a4 => by rw [← g7, upr_ne a4, ← g6, upr_ne a3, ← g5, upr_ne a2, ← g4, upr_ne a1]
  have r1 : ∀ p, p < 5 → M7 (b + 1) p = M (c + 1) p := fun p hp => by
    rw [← g7, upr_ne (by omega), ← g6, upr_ne (by omega), ← g5, upr_ne (by omega), ← g4, upr_self, cp5 _ _ hp, o3 _ (by omega)]
  have r2 : ∀ p, p < 5 → M7 (b + 2) p = M (c + 2) p := fun p hp => by
    rw [← g7, upr_ne (by omega), ← g6, upr_ne (by omega), ← g5, upr_self, cp5 _ _ hp, ← g4, upr_ne (by omega), o3 _ (by omega)]
  have r3 : ∀ p, p < 5 → M7 (b + 3) p = M (c + 3) p := fun p hp => by
    rw [← g7, upr_ne (by omega), ← g6, upr_self, cp5 _ _ hp, ← g5, upr_ne (by omega), ← g4, upr_ne (by omega), o3 _ (by omega)]
  have r4 : ∀ p, p < 5 → M7 (b + 4) p = M (c + 4) p := fun p hp => by
    rw [← g7, upr_self, cp5 _ _ hp, ← g6, upr_ne (by omega), ← g5, upr_ne (by omega), ← g4, upr_ne (by omega), o3 _ (by omega)]
  have rb : M7 b = M3 b := o7 b (by omega) (by omega) (by omega) (by omega)
  refine ⟨M7, L2, rfl, ⟨?_, ?_, ?_, ?_, ?_, fun p hp => ?_⟩, fun k hk => ?_, fun k hk => ?_, fun j a2 a3 a4 => ?_⟩
  · rw [← h2, up2_b (by decide), ← h1, up2_at]; exact f0
  · rw [← h2, up2_at, ← h1, up2_a (by omega)]; exact f1
  · rw [rb, ← g3, up2_b (by decide), ← g2, up2_b (by decide), ← g1, up2_at]; exact f2
  · rw [rb, ← g3, up2_b (by decide), ← g2, up2_at, ← g1, up2_a (by omega)]; exact f3
  · rw [rb, ← g3, up2_at, ← g2, up2_a (by omega), ← g1, up2_a (by omega)]; exact f4
  · have g := f5 p hp
    exact ⟨by rw [r1 p (by omega)]; exact g.1, by rw [r2 p (by omega)]; exact g.2.1, by rw [r3 p (by omega)]; exact g.2.2.1, by rw [r4 p (by omega)]; exact g.2.2.2⟩
  · rw [o7 k (by omega) (by omega) (by omega) (by omega), o3 k (by omega)]
  · rw [← h2, up2_ne hk, ← h1, up2_ne hk]
  · rw [rb, ← g3, up2_b a4, ← g2, up2_b a3, ← g1, up2_b a2]
/-- a floor in thought becomes the true one -/
theorem X_think {E : Ev} {b : Nat} (hb : b = 6 ∨ b = 11) {M : Mi} {L : Ml} {σ : Sg} (hS : WS σ) (h : XI E M L σ) : ∃ M' L', F_X0_become b 1 M L = some (M', L') ∧ XFl b M' L' (uA σ) ∧ XI E M' L' σ ∧ (∀ k, (k < b ∨ b + 4 < k) → M' k = M k) ∧ ∀ k, k ≠ b → L' k = L k := by
  obtain ⟨M', L', a1, a2, a3, a4, a5⟩ := X_become (b := b) (c := 1) (by omega) hS.1.1 h.1
  exact ⟨M', L', a1, a2, h.keep (fun k _ hk => a3 k (by omega)) (fun k hk => a4 k (by omega)), a3, a4⟩
theorem X_thinkPass {E : Ev} {b : Nat} (hb : b = 6 ∨ b = 11) {M : Mi} {L : Ml} {σ : Sg} {A : Af} (hw : wfA (uT σ) A) (h : XI E M L σ) (hF : XFl b M L A) {n : Nat} (hn : n < 900) (s : Int32) : ∃ M' x', F_X1_passMinutes E b M L (nI n) s = some (x', M', L) ∧ XFl b M' L (Aft (uX σ (aU A)) s n A) ∧ XI E M' L σ ∧ ∀ k, k ≠ 23 → (k < b ∨ b + 4 < k) → M' k = M k := by
  obtain ⟨M', x', a1, a2, a3, a4, a5⟩ := X_pass (b := b) (by omega) hw h.2.2.1 hF hn s
  exact ⟨M', x', a1, a2, h.keep (fun k h1 h2 => a3 k h1 (by omega)) (fun _ _ => rfl), a3⟩
/-! the reference: laid aside and back -/
def YW (R : Mi) (A : Af) : Prop := R 5 20 = nI (aM A) ∧ ∀ p, p < aP A → R 5 (4 * p + 3) = (aQ A p).1 ∧ R 5 (4 * p) = (aQ A p).2.1 ∧ R 5 (4 * p + 1) = (aQ A p).2.2.1 ∧ R 5 (4 * p + 2) = (aQ A p).2.2.2
def KT (R R' : Mi) (S S' : Ml) : Prop := (∀ k, k ≠ 0 → k ≠ 4 → k ≠ 5 → R' k = R k) ∧ (∀ j, j < 13 → R' 0 j = R 0 j) ∧ (∀ j, 27 < j → R' 0 j = R 0 j) ∧ ∀ k j, (k ≠ 0 ∨ j ≠ 24) → S' k j = S k j
theorem KT.rfl' (R : Mi) (S : Ml) : KT R R S S := ⟨fun _ _ _ _ => rfl, fun _ _ => rfl, fun _ _ => rfl, fun _ _ _ => rfl⟩
theorem KT.trans {R R' R'' : Mi} {S S' S'' : Ml} (h : KT R R' S S') (g : KT R' R'' S' S'') : KT R R'' S S'' :=
  ⟨fun k a b c => (g.1 k a b c).trans (h.1 k a b c), fun j a => (g.2.1 j a).trans (h.2.1 j a), fun j a => (g.2.2.1 j a).trans (h.2.2.1 j a), fun k j a => (g.2.2.2 k j a).trans (h.2.2.2 k j a)⟩
theorem KT.yt {R R' : Mi} {S S' : Ml} {T : Nat} {Tx : Nat → Cd} (h : KT R R' S S') (g : YT R T Tx) : YT R' T Tx := g.keep (h.2.1 3 (by decide)) (h.1 1 (by decide) (by decide) (by decide)) (h.1 2 (by decide) (by decide) (by decide))
theorem YI.kt {R R' : Mi} {S S' : Ml} {σ : Sg} (h : YI R S σ) (hF : YFl R' S' (uA σ)) (g : KT R R' S S') : YI R' S' σ :=
  h.now hF g.1 (fun j hj => by rcases hj with rfl | rfl | rfl | hj; exact g.2.1 3 (by decide); exact g.2.1 6 (by decide); exact g.2.1 12 (by decide); exact g.2.2.1 j (by omega)) (fun j hj => g.2.2.2 0 j (Or.inr (by omega)))
theorem Y_aside {R : Mi} {S : Ml} {A : Af} (hP : aP A ≤ 5) (hF : YFl R S A) : ∃ R', F_X6_laysAside R S = some (R', S) ∧ YW R' A ∧ ∀ k, k ≠ 5 → R' k = R k := by
  have go : ∀ d j m R1, j + d = 20 → d < m → (∀ k, k ≠ 5 → R1 k = R k) → (∀ i, i < j → R1 5 i = R 4 i) → ∃ R', F_X6_laysAside_k2 m R1 S (nI j) = some (R', S) ∧ (∀ k, k ≠ 5 → R' k = R k) ∧ (∀ i, i < 20 → R' 5 i = R 4 i) ∧ R' 5 20 = R 0 7 := by
    intro d
    induction d with
    | zero =>
      intro j m R1 hj hm h1 h2
      obtain ⟨m, rfl⟩ : ∃ q, m = q + 1 := ⟨m - 1, by omega⟩
      have : j = 20 := by omega
      subst this
      rw [F_X6_laysAside_k2, if_pos (show (20 : Int32) ≤ nI 20 by decide), if_pos (show ix 20 21 = true by decide), show Int32.toNatClampNeg 20 = 20 from rfl]
      exact ⟨_, rfl, fun k hk => by rw [up2_ne hk, h1 k hk], fun i hi => by rw [up2_b (by omega)]; exact h2 i hi, by rw [up2_at, h1 0 (by decide)]⟩
    | succ d ih =>
      intro j m R1 hj hm h1 h2
      obtain ⟨m, rfl⟩ : ∃ q, m = q + 1 := ⟨m - 1, by omega⟩
      rw [F_X6_laysAside_k2, if_neg (show ¬ (20 : Int32) ≤ nI j from nI_ge (b := 20) (by omega) (by decide)), if_pos (ix_nI (by omega) (by decide)), if_pos (ix_nI (by omega) (by decide)), nI_clamp (by omega), nI_1]
      refine ih (j + 1) m _ (by omega) (by omega) (fun k hk => by rw [up2_ne hk, h1 k hk]) (fun i hi => ?_)
      by_cases e : i = j
      · rw [e, up2_at, h1 4 (by decide)]
      · rw [up2_b e]; exact h2 i (by omega)
  obtain ⟨R', a1, a2, a3, a4⟩ := go 20 0 FU R (by omega) (by decide) (fun _ _ => rfl) (fun i hi => absurd hi (by omega))
  refine ⟨R', a1, ⟨by rw [a4]; exact hF.2.2.1, fun p hp => ?_⟩, a2⟩
  have g := hF.2.2.2.2.2 p hp
  exact ⟨by rw [a3 _ (by omega)]; exact g.1, by rw [a3 _ (by omega)]; exact g.2.1, by rw [a3 _ (by omega)]; exact g.2.2.1, by rw [a3 _ (by omega)]; exact g.2.2.2⟩
theorem Y_lback {R : Mi} {S : Ml} {A B : Af} (hP : aP A ≤ 5) (hW : YW R A) (hF : YFl R S B) (e0 : aR B = aR A) (e1 : aH B = aH A) (e3 : aP B = aP A) (e4 : aU B = aU A) : ∃ R', F_X6_laysBack R S = some (R', S) ∧ YFl R' S A ∧ (∀ k, k ≠ 0 → k ≠ 4 → R' k = R k) ∧ ∀ j, j ≠ 7 → R' 0 j = R 0 j := by
  have go : ∀ d j m R1, j + d = 20 → d < m → (∀ k, k ≠ 4 → R1 k = R k) → (∀ i, i < j → R1 4 i = R 5 i) → ∃ R', F_X6_laysBack_k2 m R1 S (nI j) = some (R', S) ∧ (∀ k, k ≠ 0 → k ≠ 4 → R' k = R k) ∧ (∀ i, i < 20 → R' 4 i = R 5 i) ∧ R' 0 7 = R 5 20 ∧ ∀ j, j ≠ 7 → R' 0 j = R 0 j := by
    intro d
    induction d with
    | zero =>
      intro j m R1 hj hm h1 h2
      obtain ⟨m, rfl⟩ : ∃ q, m = q + 1 := ⟨m - 1, by omega⟩
      have : j = 20 := by omega
      subst this
      rw [F_X6_laysBack_k2, if_pos (show (20 : Int32) ≤ nI 20 by decide), if_pos (show ix 20 21 = true by decide), show Int32.toNatClampNeg 20 = 20 from rfl]
      exact ⟨_, rfl, fun k hk h4 => by rw [up2_ne hk, h1 k h4], fun i hi => by rw [up2_a (by decide)]; exact h2 i hi, by rw [up2_at, h1 5 (by decide)], fun j hj => by rw [up2_b hj, h1 0 (by decide)]⟩
    | succ d ih =>
      intro j m R1 hj hm h1 h2
      obtain ⟨m, rfl⟩ : ∃ q, m = q + 1 := ⟨m - 1, by omega⟩
      rw [F_X6_laysBack_k2, if_neg (show ¬ (20 : Int32) ≤ nI j from nI_ge (b := 20) (by omega) (by decide)), if_pos (ix_nI (by omega) (by decide)), if_pos (ix_nI (by omega) (by decide)), nI_clamp (by omega), nI_1]
      refine ih (j + 1) m _ (by omega) (by omega) (fun k hk => by rw [up2_ne hk, h1 k hk]) (fun i hi => ?_)
      by_cases e : i = j
      · rw [e, up2_at, h1 5 (by decide)]
      · rw [up2_b e]; exact h2 i (by omega)
  obtain ⟨R', a1, a2, a3, a4, a5⟩ := go 20 0 FU R (by omega) (by decide) (fun _ _ => rfl) (fun i hi => absurd hi (by omega))
  refine ⟨R', a1, ⟨by rw [hF.1, e0], by rw [hF.2.1, e1], by rw [a4]; exact hW.1, by rw [a5 11 (by decide), hF.2.2.2.1, e3], by rw [a5 4 (by decide), hF.2.2.2.2.1, e4], fun p hp => ?_⟩, a2, a5⟩
  have g := hW.2 p hp
  exact ⟨by rw [a3 _ (by omega)]; exact g.1, by rw [a3 _ (by omega)]; exact g.2.1, by rw [a3 _ (by omega)]; exact g.2.2.1, by rw [a3 _ (by omega)]; exact g.2.2.2⟩
theorem YFl.off5 {R R' : Mi} {S : Ml} {A : Af} (h : YFl R S A) (g : ∀ k, k ≠ 5 → R' k = R k) : YFl R' S A := by
  unfold YFl YP at *
  rw [g 0 (by decide), g 4 (by decide)]; exact h
theorem YT.off5 {R R' : Mi} {T : Nat} {Tx : Nat → Cd} (h : YT R T Tx) (g : ∀ k, k ≠ 5 → R' k = R k) : YT R' T Tx := h.keep (by rw [g 0 (by decide)]) (g 1 (by decide)) (g 2 (by decide))
theorem YW.ky {R R' : Mi} {S S' : Ml} {A : Af} (h : YW R A) (g : KY R R' S S') : YW R' A := by
  unfold YW at *; rw [g.1 5 (by decide) (by decide)]; exact h
theorem KT_of {R R1 R2 R3 : Mi} {S S2 : Ml} {A : Af} (h1 : ∀ k, k ≠ 5 → R1 k = R k) (h2 : KY R1 R2 S S2) (h3 : ∀ k, k ≠ 0 → k ≠ 4 → R3 k = R2 k) (h4 : ∀ j, j ≠ 7 → R3 0 j = R2 0 j) (h7 : R3 0 7 = nI (aM A)) (h8 : R 0 7 = nI (aM A)) : KT R R3 S S2 := by
  refine ⟨fun k a b c => ?_, fun j hj => ?_, fun j hj => ?_, h2.2.2.2⟩
  · rw [h3 k a b, h2.1 k a b, h1 k c]
  · by_cases e : j = 7
    · rw [e, h7, h8]
    · rw [h4 j e, h2.2.1 j hj e, h1 0 (by decide)]
  · rw [h4 j (by omega), h2.2.2.1 j hj, h1 0 (by decide)]
theorem Y_behind {T : Nat} {Tx : Nat → Cd} {A : Af} {R : Mi} {S : Ml} {n : Nat} (hw : wfA T A) (hmi : aM A < 2 ^ 20) (hT : YT R T Tx) (hF : YFl R S A) (hn : n < 900) (f : Int32) :
    ∃ R' S', F_X6_foundBehind R S f (nI n) = some (cnt (Aft (Tx (aU A)) (R 0 12) n A) f, R', S') ∧ YFl R' S' A ∧ KT R R' S S' := by
  obtain ⟨R1, a1, a2, a3⟩ := Y_aside hw.1 hF
  obtain ⟨R2, S2, b1, b2, b3⟩ := Y_goes hw (by omega) (hT.off5 a3) (hF.off5 a3) hn
  rw [a3 0 (by decide)] at b2
  obtain ⟨R3, c1, c2, c3, c4⟩ := Y_lback hw.1 (a2.ky b3) b2 rfl rfl rfl rfl
  unfold F_X6_foundBehind
  rw [a1]; simp only [Option.bind_some]
  rw [b1]; simp only [Option.bind_some]
  rw [Y_cnt (wfA_Aft hw n) b2]; simp only [Option.bind_some]
  rw [c1]
  exact ⟨R3, S2, rfl, c2, KT_of a3 b3 c3 c4 c2.2.2.1 hF.2.2.1⟩
/-! run -/
def s_run (C : Cd) (A : Af) (one n what : Int32) : Int32 := if ix one (aP A) = true then (if ix n 41 = true then (if ix what 4 = true then (if what = 0 then (aQ (Aft C (-1) n.toNatClampNeg A) one.toNatClampNeg).2.2.1 else if what = 1 then (aQ (Aft C (-1) n.toNatClampNeg A) one.toNatClampNeg).2.2.2 else if what = 2 then fnd (Aft C (-1) n.toNatClampNeg A) one.toNatClampNeg else cnt (Aft C (-1) n.toNatClampNeg A) 1) else -2) else -2) else -2
theorem X_run {E : Ev} {M : Mi} {L : Ml} {σ : Sg} (hS : WS σ) (h : XI E M L σ) (one n what : Int32) : ∃ M' L', F_X5_run E M L one n what = some (s_run (uX σ (aU (uA σ))) (uA σ) one n what, M', L') ∧ XI E M' L' σ := by
  have hP := hS.1.1
  unfold F_X5_run s_run
  rw [X_isParty h.1.2.2.2.1 hP, show F_X5_isWithin n 40 = some (zb (ix n 41)) from F_isWithinN n (m := 40) (by decide), show F_X5_isWithin what 3 = some (zb (ix what 4)) from F_isWithinN what (m := 3) (by decide)]
  simp only [Option.bind_some, zb_if]
  by_cases h1 : ix one (aP (uA σ)) = true
  · rw [if_pos h1, if_pos h1]
    by_cases h2 : ix n 41 = true
    · rw [if_pos h2, if_pos h2]
      by_cases h3 : ix what 4 = true
      · rw [if_pos h3, if_pos h3]
        obtain ⟨p, hp, rfl⟩ := ix_of h1 (by omega)
        obtain ⟨k, hk, rfl⟩ := ix_of h2 (by decide)
        obtain ⟨M1, L1, a1, a2, a3, a4, a5⟩ := X_think (b := 6) (by decide) hS h
        obtain ⟨M2, x2, b1, b2, b3, b4⟩ := X_thinkPass (b := 6) (by decide) hS.1 a3 a2 (n := k) (by omega) (-1)
        have hw2 := wfA_Aft (C := uX σ (aU (uA σ))) (s := -1) hS.1 k
        have g := b2.2.2.2.2.2 p hp
        rw [a1]; simp only [Option.bind_some]
        rw [b1]; simp only [Option.bind_some]
        rw [if_pos (ix_nI (by omega) (by decide)), if_pos (ix_nI (by omega) (by decide)), nI_clamp (by omega), nI_clamp (by omega), X_fnd hw2 b2 hp, X_cnt hw2 b2]
        simp only [Option.bind_some]
        by_cases e0 : what = 0
        · rw [if_pos e0, if_pos e0]; exact ⟨M2, L1, by rw [g.2.2.1], b3⟩
        rw [if_neg e0, if_neg e0]
        by_cases e1 : what = 1
        · rw [if_pos e1, if_pos e1]; exact ⟨M2, L1, by rw [g.2.2.2], b3⟩
        rw [if_neg e1, if_neg e1]
        by_cases e2 : what = 2
        · rw [if_pos e2, if_pos e2]; exact ⟨M2, L1, rfl, b3⟩
        rw [if_neg e2, if_neg e2]
        exact ⟨M2, L1, rfl, b3⟩
      · rw [if_neg h3, if_neg h3]; exact ⟨M, L, rfl, h⟩
    · rw [if_neg h2, if_neg h2]; exact ⟨M, L, rfl, h⟩
  · rw [if_neg h1, if_neg h1]; exact ⟨M, L, rfl, h⟩
theorem Y_run {R : Mi} {S : Ml} {σ : Sg} (hS : WS σ) (h : YI R S σ) (one n what : Int32) : ∃ R' S', F_X6_run R S one n what = some (s_run (uX σ (aU (uA σ))) (uA σ) one n what, R', S') ∧ YI R' S' σ := by
  have hP := hS.1.1
  have hm := hS.2.1
  unfold F_X6_run s_run
  rw [Y_isOne h.1.2.2.2.1 hP, F_inN n 40 rfl, F_inN what 3 rfl]
  simp only [Option.bind_some, zb_if]
  by_cases h1 : ix one (aP (uA σ)) = true
  · rw [if_pos h1, if_pos h1]
    by_cases h2 : ix n 41 = true
    · rw [if_pos h2, if_pos h2]
      by_cases h3 : ix what 4 = true
      · rw [if_pos h3, if_pos h3]
        obtain ⟨p, hp, rfl⟩ := ix_of h1 (by omega)
        obtain ⟨k, hk, rfl⟩ := ix_of h2 (by decide)
        obtain ⟨R1, a1, a2, a3⟩ := Y_aside hP h.1
        obtain ⟨R2, S2, b1, b2, b3⟩ := Y_goes hS.1 (by omega) (h.2.2.1.off5 a3) (h.1.off5 a3) (n := k) (by omega)
        rw [a3 0 (by decide), h.2.2.2.2.2] at b2
        obtain ⟨R3, c1, c2, c3, c4⟩ := Y_lback hP (a2.ky b3) b2 rfl rfl rfl rfl
        have kt := KT_of a3 b3 c3 c4 c2.2.2.1 h.1.2.2.1
        have hw2 := wfA_Aft (C := uX σ (aU (uA σ))) (s := -1) hS.1 k
        have g := b2.2.2.2.2.2 p hp
        have fin := h.kt c2 kt
        unfold F_X6_run_k82
        rw [a1]; simp only [Option.bind_some]
        rw [b1]; simp only [Option.bind_some]
        rw [c1, Y_fnd hw2 b2 hp, Y_cnt hw2 b2, i4p, nI_1, nI_clamp (show p < 2 ^ 31 by omega), nI_clamp (show k < 2 ^ 31 by omega)]
        simp only [Option.bind_some]
        obtain ⟨w, hw4, rfl⟩ := ix_of h3 (by decide)
        rcases (show w = 0 ∨ w = 1 ∨ w = 2 ∨ w = 3 by omega) with rfl | rfl | rfl | rfl
        · rw [if_neg (show ¬ (2 : Int32) ≤ nI 0 by decide), if_pos (show nI 0 = 0 from rfl), nI_add, if_pos (ix_nI (by omega) (by decide)), nI_clamp (by omega)]
          exact ⟨R3, S2, by rw [show 4 * p + 1 + 0 = 4 * p + 1 by omega, g.2.2.1], fin⟩
        · rw [if_neg (show ¬ (2 : Int32) ≤ nI 1 by decide), if_neg (show ¬ nI 1 = 0 by decide), if_pos (show nI 1 = 1 from rfl), nI_add, if_pos (ix_nI (by omega) (by decide)), nI_clamp (by omega)]
          exact ⟨R3, S2, by rw [show 4 * p + 1 + 1 = 4 * p + 2 by omega, g.2.2.2], fin⟩
        · rw [if_pos (show (2 : Int32) ≤ nI 2 by decide), if_pos (show nI 2 = 2 from rfl), if_neg (show ¬ nI 2 = 0 by decide), if_neg (show ¬ nI 2 = 1 by decide), if_pos (show nI 2 = 2 from rfl)]
          exact ⟨R3, S2, rfl, fin⟩
        · rw [if_pos (show (2 : Int32) ≤ nI 3 by decide), if_neg (show ¬ nI 3 = 2 by decide), if_neg (show ¬ nI 3 = 0 by decide), if_neg (show ¬ nI 3 = 1 by decide), if_neg (show ¬ nI 3 = 2 by decide)]
          exact ⟨R3, S2, rfl, fin⟩
      · rw [if_neg h3, if_neg h3]; exact ⟨R, S, rfl, h⟩
    · rw [if_neg h2, if_neg h2]; exact ⟨R, S, rfl, h⟩
  · rw [if_neg h1, if_neg h1]; exact ⟨R, S, rfl, h⟩
