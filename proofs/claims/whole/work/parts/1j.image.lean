/-! PURE: image, back, taken -/
def s_image (σ : Sg) : Int32 × Sg := (nI (aP (uA σ)), (uA σ, some (uA σ), σ.2.2))
def s_back (σ : Sg) : Int32 × Sg := match uK σ with
  | none => (-3, σ)
  | some k => (nI (aP k), (k, σ.2))
theorem Ws_image {σ : Sg} (hS : WS σ) : WS (s_image σ).2 := ⟨hS.1, hS.2.1, fun k hk => by cases hk; exact ⟨hS.1, hS.2.1⟩, hS.2.2.2⟩
theorem Ws_back {σ : Sg} (hS : WS σ) : WS (s_back σ).2 := by
  unfold s_back
  cases hk : uK σ with
  | none => exact hS
  | some k => exact ⟨(hS.2.2.1 k hk).1, (hS.2.2.1 k hk).2, hS.2.2⟩
theorem X_image {E : Ev} {M : Mi} {L : Ml} {σ : Sg} (hS : WS σ) (h : XI E M L σ) : ∃ M' L', F_X5_image M L = some ((s_image σ).1, M', L') ∧ XI E M' L' (s_image σ).2 := by
  obtain ⟨M1, L1, a1, a2, a3, a4, a5⟩ := X_become (b := 16) (c := 1) (by decide) hS.1.1 h.1
  unfold F_X5_image
  rw [a1]; simp only [Option.bind_some]
  have o : ∀ k, k ≠ 0 → up2 M1 0 7 1 k = M1 k := fun k hk => up2_ne hk
  obtain ⟨a, b, c, d, e⟩ := h
  refine ⟨up2 M1 0 7 1, L1, by rw [o 16 (by decide), a2.2.2.2.1]; rfl, ⟨?_, ⟨up2_at _ _ _ _, ?_⟩, c.keep (by rw [o 21 (by decide), a3 21 (by decide)]) (fun k hk => by rw [o k (by omega), a3 k (by omega)]), ⟨by rw [o 24 (by decide), a3 24 (by decide)]; exact d.1, by rw [o 25 (by decide), a3 25 (by decide)]; exact d.2⟩, fun s hs => (e s hs).keep (by rw [o _ (by omega), a3 _ (by omega)]) (by rw [o _ (by omega), a3 _ (by omega)])⟩⟩
  · exact a.keep (by rw [o _ (by decide), a3 _ (by decide)]) (by rw [o _ (by decide), a3 _ (by decide)]) (by rw [o _ (by decide), a3 _ (by decide)]) (by rw [o _ (by decide), a3 _ (by decide)]) (by rw [o _ (by decide), a3 _ (by decide)]) (a4 1 (by decide))
  · exact a2.keep (o _ (by decide)) (o _ (by decide)) (o _ (by decide)) (o _ (by decide)) (o _ (by decide)) rfl
theorem X_back {E : Ev} {M : Mi} {L : Ml} {σ : Sg} (hS : WS σ) (h : XI E M L σ) : ∃ M' L', F_X5_back M L = some ((s_back σ).1, M', L') ∧ XI E M' L' (s_back σ).2 := by
  unfold F_X5_back s_back
  have hk := h.2.1
  cases e : uK σ with
  | none => rw [e] at hk; replace hk : M 0 7 = 0 := hk; rw [if_pos hk]; exact ⟨M, L, rfl, h⟩
  | some k =>
    rw [e] at hk
    rw [if_neg (by rw [hk.1]; decide)]
    obtain ⟨M1, L1, a1, a2, a3, a4, a5⟩ := X_become (b := 1) (c := 16) (by decide) (hS.2.2.1 k e).1.1 hk.2
    rw [a1]; simp only [Option.bind_some]
    exact ⟨M1, L1, by rw [a2.2.2.2.1], h.now a2 (fun i _ hi => a3 i (by omega)) (fun i hi => a4 i (by omega))⟩
theorem Y_image {R : Mi} {S : Ml} {σ : Sg} (hS : WS σ) (h : YI R S σ) : ∃ R' S', F_X6_image R S = some ((s_image σ).1, R', S') ∧ YI R' S' (s_image σ).2 := by
  have hP := hS.1.1
  obtain ⟨a, b, c, d, e, f⟩ := h
  have go : ∀ d j m R1, j + d = 20 → d < m → (∀ k, k ≠ 6 → R1 k = R k) → (∀ i, i < j → R1 6 i = R 4 i) → ∃ R', F_X6_image_k2 m R1 S (nI j) = some (nI (aP (uA σ)), R', up2 (up2 S 0 35 (aR (uA σ))) 0 36 (aH (uA σ))) ∧ (∀ k, k ≠ 0 → k ≠ 6 → R' k = R k) ∧ (∀ i, i < 20 → R' 6 i = R 4 i) ∧ (∀ j, j < 32 → R' 0 j = R 0 j) ∧ R' 0 32 = nI (aP (uA σ)) ∧ R' 0 33 = nI (aM (uA σ)) ∧ R' 0 34 = nI (aU (uA σ)) := by
    intro d
    induction d with
    | zero =>
      intro j m R1 hj hm h1 h2
      obtain ⟨m, rfl⟩ : ∃ q, m = q + 1 := ⟨m - 1, by omega⟩
      have : j = 20 := by omega
      subst this
      have e0 := h1 0 (by decide)
      rw [F_X6_image_k2, if_pos (show (20 : Int32) ≤ nI 20 by decide)]
      rw [up2_b (show 7 ≠ 32 by decide), up2_b (show 4 ≠ 33 by decide), up2_b (show 4 ≠ 32 by decide), up2_b (show 11 ≠ 34 by decide), up2_b (show 11 ≠ 33 by decide), up2_b (show 11 ≠ 32 by decide), up2_b (show 9 ≠ 35 by decide), e0, a.2.2.2.1, a.2.2.1, a.2.2.2.2.1, a.1, a.2.1]
      refine ⟨_, rfl, fun k hk h6 => by rw [up2_ne hk, up2_ne hk, up2_ne hk, h1 k h6], fun i hi => by rw [up2_a (by decide), up2_a (by decide), up2_a (by decide)]; exact h2 i hi, fun j hj => by rw [up2_b (by omega), up2_b (by omega), up2_b (by omega), e0], by rw [up2_b (by decide), up2_b (by decide), up2_at], by rw [up2_b (by decide), up2_at], up2_at _ _ _ _⟩
    | succ d ih =>
      intro j m R1 hj hm h1 h2
      obtain ⟨m, rfl⟩ : ∃ q, m = q + 1 := ⟨m - 1, by omega⟩
      rw [F_X6_image_k2, if_neg (show ¬ (20 : Int32) ≤ nI j from nI_ge (b := 20) (by omega) (by decide)), if_pos (ix_nI (by omega) (by decide)), if_pos (ix_nI (by omega) (by decide)), nI_clamp (by omega), nI_1]
      refine ih (j + 1) m _ (by omega) (by omega) (fun k hk => by rw [up2_ne hk, h1 k hk]) (fun i hi => ?_)
      by_cases e : i = j
      · rw [e, up2_at, h1 4 (by decide)]
      · rw [up2_b e]; exact h2 i (by omega)
  obtain ⟨R', a1, a2, a3, a4, a5, a6, a7⟩ := go 20 0 FU R (by omega) (by decide) (fun _ _ => rfl) (fun i hi => absurd hi (by omega))
  refine ⟨R', _, a1, ?_, ⟨a5, a6, a7, (up2_b (show 35 ≠ 36 by decide)).trans (up2_at _ _ _ _), up2_at _ _ _ _, fun p hp => ?_⟩, c.keep (a4 3 (by decide)) (a2 1 (by decide) (by decide)) (a2 2 (by decide) (by decide)), ⟨by rw [a4 6 (by decide)]; exact d.1, by rw [a2 3 (by decide) (by decide)]; exact d.2⟩, fun s hs => ?_, by rw [a4 12 (by decide)]; exact f⟩
  · show YFl _ _ (uA σ)
    unfold YFl YP at *
    rw [a4 7 (by decide), a4 11 (by decide), a4 4 (by decide), a2 4 (by decide) (by decide), up2_b (show 8 ≠ 36 by decide), up2_b (show 8 ≠ 35 by decide), up2_b (show 9 ≠ 36 by decide), up2_b (show 9 ≠ 35 by decide)]; exact a
  · have g := a.2.2.2.2.2 p hp
    exact ⟨by rw [a3 _ (by omega)]; exact g.1, by rw [a3 _ (by omega)]; exact g.2.1, by rw [a3 _ (by omega)]; exact g.2.2.1, by rw [a3 _ (by omega)]; exact g.2.2.2⟩
  · have := e s hs
    unfold YSh at *
    rw [a2 7 (by decide) (by decide), a2 8 (by decide) (by decide), a2 9 (by decide) (by decide), a2 10 (by decide) (by decide)]; exact this
theorem Y_back {R : Mi} {S : Ml} {σ : Sg} (hS : WS σ) (h : YI R S σ) : ∃ R' S', F_X6_back R S = some ((s_back σ).1, R', S') ∧ YI R' S' (s_back σ).2 := by
  unfold F_X6_back s_back
  have hk := h.2.1
  cases e : uK σ with
  | none => rw [e] at hk; replace hk : R 0 32 = -1 := hk; rw [if_pos hk]; exact ⟨R, S, rfl, h⟩
  | some q =>
    rw [e] at hk
    obtain ⟨k1, k2, k3, k4, k5, k6⟩ := hk
    have hP := (hS.2.2.1 q e).1.1
    rw [if_neg (by rw [k1, i_eq, nI_toInt (by omega), show (-1 : Int32).toInt = -1 from rfl]; omega)]
    have go : ∀ d j m R1, j + d = 20 → d < m → (∀ k, k ≠ 4 → R1 k = R k) → (∀ i, i < j → R1 4 i = R 6 i) → ∃ R', F_X6_back_k13 m R1 S (nI j) = some (nI (aP q), R', up2 (up2 S 0 8 (aR q)) 0 9 (aH q)) ∧ (∀ k, k ≠ 0 → k ≠ 4 → R' k = R k) ∧ (∀ i, i < 20 → R' 4 i = R 6 i) ∧ (∀ j, j ≠ 11 → j ≠ 7 → j ≠ 4 → R' 0 j = R 0 j) ∧ R' 0 11 = nI (aP q) ∧ R' 0 7 = nI (aM q) ∧ R' 0 4 = nI (aU q) := by
      intro d
      induction d with
      | zero =>
        intro j m R1 hj hm h1 h2
        obtain ⟨m, rfl⟩ : ∃ q, m = q + 1 := ⟨m - 1, by omega⟩
        have : j = 20 := by omega
        subst this
        have e0 := h1 0 (by decide)
        rw [F_X6_back_k13, if_pos (show (20 : Int32) ≤ nI 20 by decide)]
        rw [up2_b (show 33 ≠ 11 by decide), up2_b (show 34 ≠ 7 by decide), up2_b (show 34 ≠ 11 by decide), up2_b (show 11 ≠ 4 by decide), up2_b (show 11 ≠ 7 by decide), up2_at R1 0 11, up2_b (show 36 ≠ 8 by decide), e0, k1, k2, k3, k4, k5]
        refine ⟨_, rfl, fun k hk h6 => by rw [up2_ne hk, up2_ne hk, up2_ne hk, h1 k h6], fun i hi => by rw [up2_a (by decide), up2_a (by decide), up2_a (by decide)]; exact h2 i hi, fun j hj hj2 hj3 => by rw [up2_b hj3, up2_b hj2, up2_b hj, e0], by rw [up2_b (by decide), up2_b (by decide), up2_at], by rw [up2_b (by decide), up2_at], up2_at _ _ _ _⟩
      | succ d ih =>
        intro j m R1 hj hm h1 h2
        obtain ⟨m, rfl⟩ : ∃ q, m = q + 1 := ⟨m - 1, by omega⟩
        rw [F_X6_back_k13, if_neg (show ¬ (20 : Int32) ≤ nI j from nI_ge (b := 20) (by omega) (by decide)), if_pos (ix_nI (by omega) (by decide)), if_pos (ix_nI (by omega) (by decide)), nI_clamp (by omega), nI_1]
        refine ih (j + 1) m _ (by omega) (by omega) (fun k hk => by rw [up2_ne hk, h1 k hk]) (fun i hi => ?_)
        by_cases e : i = j
        · rw [e, up2_at, h1 6 (by decide)]
        · rw [up2_b e]; exact h2 i (by omega)
    obtain ⟨R', a1, a2, a3, a4, a5, a6, a7⟩ := go 20 0 FU R (by omega) (by decide) (fun _ _ => rfl) (fun i hi => absurd hi (by omega))
    refine ⟨R', _, a1, h.now ⟨(up2_b (show 8 ≠ 9 by decide)).trans (up2_at _ _ _ _), up2_at _ _ _ _, a6, a5, a7, fun p hp => ?_⟩ (fun k a b _ => a2 k a b) (fun j hj => a4 j (by omega) (by omega) (by omega)) (fun j hj => by rw [up2_b (by omega), up2_b (by omega)])⟩
    have g := k6 p hp
    exact ⟨by rw [a3 _ (by omega)]; exact g.1, by rw [a3 _ (by omega)]; exact g.2.1, by rw [a3 _ (by omega)]; exact g.2.2.1, by rw [a3 _ (by omega)]; exact g.2.2.2⟩
/-! taken -/
def anc (d k : Nat) : Bool := d == k || (k == 0 || ((d == 3 && k == 1) || (d == 4 && k == 2)))
def s_taken (A : Af) (one k : Int32) : Int32 := if ix k 6 = true then (if ix one (aP A) = true then (if anc (aQ A one.toNatClampNeg).1.toNatClampNeg k.toNatClampNeg = true then (aQ A one.toNatClampNeg).2.1 else -13) else -11) else -2
theorem tkX0 : ∀ d, d < 6 → ∀ k, k < 6 → F_X5_taken_k34 (fun _ _ => 0) (fun _ _ => 0) 8 0 (nI k) (nI d) 0 = some (if anc d k = true then 0 else -13) := by decide +kernel
theorem tkX_map (M : Mi) (L : Ml) {p : Nat} (hp : p < 5) (x2 : Int32) : ∀ n x3 x4, F_X5_taken_k34 M L n (nI p) x2 x3 x4 = (F_X5_taken_k34 (fun _ _ => 0) (fun _ _ => 0) n 0 x2 x3 x4).map (fun v => if v = 0 then M 3 p else v) := by
  intro n
  induction n with
  | zero => intro x3 x4; rfl
  | succ n ih =>
    intro x3 x4
    rw [F_X5_taken_k34, F_X5_taken_k34]
    by_cases h1 : (6 : Int32) ≤ x4
    · rw [if_pos h1, if_pos h1]; rfl
    · rw [if_neg h1, if_neg h1, F_isKindX]
      simp only [Option.bind_some, zb_if]
      by_cases h2 : ix x3 6 = true
      · rw [if_pos h2, if_pos h2]
        by_cases h3 : x3 = x2
        · rw [if_pos h3, if_pos h3, if_pos (ix_nI hp (by decide)), if_pos (show ix 0 5 = true by decide), nI_clamp (by omega)]; rfl
        · rw [if_neg h3, if_neg h3]
          by_cases h4 : ix x3 (sA 0).length = true
          · rw [if_pos h4, if_pos h4]; exact ih _ _
          · rw [if_neg h4, if_neg h4]; rfl
      · rw [if_neg h2, if_neg h2]; rfl
theorem tkX_mono (M : Mi) (L : Ml) (x1 x2 : Int32) : ∀ n x3 x4 v, F_X5_taken_k34 M L n x1 x2 x3 x4 = some v → ∀ m, n ≤ m → F_X5_taken_k34 M L m x1 x2 x3 x4 = some v := by
  intro n
  induction n with
  | zero => intro x3 x4 v h; rw [F_X5_taken_k34] at h; cases h
  | succ n ih =>
    intro x3 x4 v h m hm
    obtain ⟨m, rfl⟩ : ∃ q, m = q + 1 := ⟨m - 1, by omega⟩
    rw [F_X5_taken_k34] at h ⊢
    by_cases h1 : (6 : Int32) ≤ x4
    · rw [if_pos h1] at h ⊢; exact h
    · rw [if_neg h1, F_isKindX] at h ⊢
      simp only [Option.bind_some, zb_if] at h ⊢
      by_cases h2 : ix x3 6 = true
      · rw [if_pos h2] at h ⊢
        by_cases h3 : x3 = x2
        · rw [if_pos h3] at h ⊢; exact h
        · rw [if_neg h3] at h ⊢
          by_cases h4 : ix x3 (sA 0).length = true
          · rw [if_pos h4] at h ⊢; exact ih _ _ _ h m (by omega)
          · rw [if_neg h4] at h; cases h
      · rw [if_neg h2] at h ⊢; exact h
theorem tkR0 : ∀ d, d < 6 → ∀ k, k < 6 → F_X6_taken_k37 (fun _ _ => 0) (fun _ _ => 0) 8 0 (nI k) (nI d) = some (if anc d k = true then 0 else -13) := by decide +kernel
theorem tkR_map (M : Mi) (L : Ml) {p : Nat} (hp : p < 5) (x2 : Int32) : ∀ n x3, F_X6_taken_k37 M L n (nI p) x2 x3 = (F_X6_taken_k37 (fun _ _ => 0) (fun _ _ => 0) n 0 x2 x3).map (fun v => if v = 0 then M 4 (4 * p) else v) := by
  have k55 : ∀ x3, F_X6_taken_k55 M L (nI p) x2 x3 = (F_X6_taken_k55 (fun _ _ => 0) (fun _ _ => 0) 0 x2 x3).map (fun v => if v = 0 then M 4 (4 * p) else v) := by
    intro x3
    unfold F_X6_taken_k55
    by_cases h : x3 = x2
    · rw [if_pos h, if_pos h, i4p, if_pos (ix_nI (by omega) (by decide)), if_pos (show ix (4 * 0) 20 = true by decide), nI_clamp (by omega)]; rfl
    · rw [if_neg h, if_neg h]; rfl
  intro n
  induction n with
  | zero => intro x3; rfl
  | succ n ih =>
    intro x3
    rw [F_X6_taken_k37, F_X6_taken_k37]
    by_cases h1 : x3 = -1
    · rw [if_pos h1, if_pos h1]; exact k55 _
    · rw [if_neg h1, if_neg h1]
      by_cases h2 : x3 = x2
      · rw [if_pos h2, if_pos h2]; exact k55 _
      · rw [if_neg h2, if_neg h2]
        cases F_X6_over x3 with
        | none => rfl
        | some v => exact ih v
theorem tkR_mono (M : Mi) (L : Ml) (x1 x2 : Int32) : ∀ n x3 v, F_X6_taken_k37 M L n x1 x2 x3 = some v → ∀ m, n ≤ m → F_X6_taken_k37 M L m x1 x2 x3 = some v := by
  intro n
  induction n with
  | zero => intro x3 v h; rw [F_X6_taken_k37] at h; cases h
  | succ n ih =>
    intro x3 v h m hm
    obtain ⟨m, rfl⟩ : ∃ q, m = q + 1 := ⟨m - 1, by omega⟩
    rw [F_X6_taken_k37] at h ⊢
    by_cases h1 : x3 = -1
    · rw [if_pos h1] at h ⊢; exact h
    · rw [if_neg h1] at h ⊢
      by_cases h2 : x3 = x2
      · rw [if_pos h2] at h ⊢; exact h
      · rw [if_neg h2] at h ⊢
        cases hv : F_X6_over x3 with
        | none => rw [hv] at h; cases h
        | some w => rw [hv, Option.bind_some] at h; rw [Option.bind_some]; exact ih w v h m (by omega)
theorem X_taken {M : Mi} {L : Ml} {A : Af} {T : Nat} (hw : wfA T A) (hF : XFl 1 M L A) (one k : Int32) : F_X5_taken M L one k = some (s_taken A one k) := by
  have hP := hw.1
  unfold F_X5_taken s_taken
  rw [F_isKindX, X_isParty hF.2.2.2.1 hP]
  simp only [Option.bind_some, zb_if]
  by_cases h1 : ix k 6 = true
  · rw [if_pos h1, if_pos h1]
    by_cases h2 : ix one (aP A) = true
    · rw [if_pos h2, if_pos h2]
      obtain ⟨p, hp, rfl⟩ := ix_of h2 (by omega)
      obtain ⟨c, hc, rfl⟩ := ix_of h1 (by decide)
      have g := hF.2.2.2.2.2 p hp
      obtain ⟨d, hd, ed⟩ := ix_of (hw.2.2 p hp).1 (by decide)
      rw [if_pos (ix_nI (by omega) (by decide)), nI_clamp (show p < 2 ^ 31 by omega), nI_clamp (show c < 2 ^ 31 by omega), g.1, ed, nI_clamp (show d < 2 ^ 31 by omega), tkX_map M L (by omega), tkX_mono _ _ _ _ 8 _ _ _ (tkX0 d hd c hc) FU (by decide), g.2.1]
      cases anc d c <;> rfl
    · rw [if_neg h2, if_neg h2]
  · rw [if_neg h1, if_neg h1]
theorem Y_taken {R : Mi} {S : Ml} {A : Af} {T : Nat} (hw : wfA T A) (hF : YFl R S A) (one k : Int32) : F_X6_taken R S one k = some (s_taken A one k) := by
  have hP := hw.1
  unfold F_X6_taken s_taken
  rw [F_inN k 5 rfl, Y_isOne hF.2.2.2.1 hP]
  simp only [Option.bind_some, zb_if]
  by_cases h1 : ix k 6 = true
  · rw [if_pos h1, if_pos h1]
    by_cases h2 : ix one (aP A) = true
    · rw [if_pos h2, if_pos h2]
      obtain ⟨p, hp, rfl⟩ := ix_of h2 (by omega)
      obtain ⟨c, hc, rfl⟩ := ix_of h1 (by decide)
      have g := hF.2.2.2.2.2 p hp
      obtain ⟨d, hd, ed⟩ := ix_of (hw.2.2 p hp).1 (by decide)
      rw [i4p3, if_pos (ix_nI (by omega) (by decide)), nI_clamp (show 4 * p + 3 < 2 ^ 31 by omega), nI_clamp (show p < 2 ^ 31 by omega), nI_clamp (show c < 2 ^ 31 by omega), g.1, ed, nI_clamp (show d < 2 ^ 31 by omega), tkR_map R S (by omega), tkR_mono _ _ _ _ 8 _ _ (tkR0 d hd c hc) FU (by decide), g.2.1]
      cases anc d c <;> rfl
    · rw [if_neg h2, if_neg h2]
  · rw [if_neg h1, if_neg h1]
