/-! PURE: reached, fewest -/
def stepL (A : Af) (p : Nat) (last : Int64) (k : Nat) (x : Int64) : Int64 := if tb last (nI (k / 8)) = true then (x ||| (if plnd A p (nI (k / 8)) (k % 8) = -1 then 0 else lshl 1 (plnd A p (nI (k / 8)) (k % 8)))) else x
def lf (A : Af) (p : Nat) (last : Int64) : Int64 := fo (stepL A p last) 512 0 last
def rch (A : Af) (p : Nat) : Nat → Int64
  | 0 => lshl 1 (aQ A p).2.2.1
  | n + 1 => lf A p (rch A p n)
theorem fo_add {α : Type} (g : Nat → α → α) : ∀ d1 d2 j x, fo g (d1 + d2) j x = fo g d2 (j + d1) (fo g d1 j x) := by
  intro d1
  induction d1 with
  | zero => intro d2 j x; rw [Nat.zero_add]; rfl
  | succ d1 ih =>
    intro d2 j x
    rw [show d1 + 1 + d2 = (d1 + d2) + 1 by omega]
    show fo g (d1 + d2) (j + 1) (g j x) = fo g d2 (j + (d1 + 1)) (fo g d1 (j + 1) (g j x))
    rw [ih, show j + 1 + d1 = j + (d1 + 1) by omega]
theorem step_skip {A : Af} {p : Nat} {last : Int64} {j : Nat} (h : ¬ tb last (nI j) = true) : ∀ d v x, v + d ≤ 8 → fo (stepL A p last) d (8 * j + v) x = x := by
  intro d
  induction d with
  | zero => intro v x _; rfl
  | succ d ih =>
    intro v x hv
    show fo (stepL A p last) d (8 * j + v + 1) (stepL A p last (8 * j + v) x) = x
    have e : stepL A p last (8 * j + v) x = x := by
      unfold stepL; rw [show (8 * j + v) / 8 = j by omega, if_neg h]
    rw [e, show 8 * j + v + 1 = 8 * j + (v + 1) by omega]
    exact ih (v + 1) x (by omega)
theorem X_further {M : Mi} {L : Ml} {A : Af} {T p : Nat} (hw : wfA T A) (hF : XFl 1 M L A) (hp : p < aP A) (last : Int64) : F_X0_aLeapFurther 1 M L (nI p) last = some (lf A p last) := by
  have hP := hw.1
  have inn : ∀ (kf6 : Int32 → Int64 → Int64 → Int32 → Option Int64) j, j < 64 → tb last (nI j) = true → ∀ d v m x, v + d = 8 → d < m → F_X0_aLeapFurther_k16 1 M L kf6 m (nI p) last x (nI j) (nI v) = kf6 (nI p) last (fo (stepL A p last) d (8 * j + v) x) (nI (j + 1)) := by
    intro kf6 j hj ht d
    induction d with
    | zero =>
      intro v m x hv hm
      obtain ⟨m, rfl⟩ : ∃ q, m = q + 1 := ⟨m - 1, by omega⟩
      have : v = 8 := by omega
      subst this
      rw [F_X0_aLeapFurther_k16, if_pos (show (8 : Int32) ≤ nI 8 by decide)]
      unfold F_X0_aLeapFurther_k68
      rw [nI_1]; rfl
    | succ d ih =>
      intro v m x hv hm
      obtain ⟨m, rfl⟩ : ∃ q, m = q + 1 := ⟨m - 1, by omega⟩
      rw [F_X0_aLeapFurther_k16, if_neg (show ¬ (8 : Int32) ≤ nI v from nI_ge (b := 8) (by omega) (by decide)), F_isInX _ hj, Option.bind_some, zb_if, if_pos ht, X_land hw hF hp (by omega), Option.bind_some]
      unfold F_X0_aLeapFurther_k59
      have e1 : (8 * j + v) / 8 = j := by omega
      have e2 : (8 * j + v) % 8 = v := by omega
      have es : fo (stepL A p last) (d + 1) (8 * j + v) x = fo (stepL A p last) d (8 * j + (v + 1)) (x ||| (if plnd A p (nI j) v = -1 then 0 else lshl 1 (plnd A p (nI j) v))) := by
        show fo (stepL A p last) d (8 * j + v + 1) (stepL A p last (8 * j + v) x) = _
        unfold stepL
        rw [e1, e2, if_pos ht]; rfl
      rw [es, nI_1]
      by_cases e : plnd A p (nI j) v = -1
      · rw [if_pos e, if_pos e]; exact ih (v + 1) m _ (by omega) (by omega)
      · rw [if_neg e, if_neg e]; exact ih (v + 1) m _ (by omega) (by omega)
  have out : ∀ d j m x, j + d = 64 → d < m → F_X0_aLeapFurther_k6 1 M L m (nI p) last x (nI j) = some (fo (stepL A p last) (8 * d) (8 * j) x) := by
    intro d
    induction d with
    | zero =>
      intro j m x hj hm
      obtain ⟨m, rfl⟩ : ∃ q, m = q + 1 := ⟨m - 1, by omega⟩
      rw [F_X0_aLeapFurther_k6, if_pos (show (64 : Int32) ≤ nI j from nI_le (a := 64) (by omega) (by omega))]; rfl
    | succ d ih =>
      intro j m x hj hm
      obtain ⟨m, rfl⟩ : ∃ q, m = q + 1 := ⟨m - 1, by omega⟩
      rw [F_X0_aLeapFurther_k6, if_neg (show ¬ (64 : Int32) ≤ nI j from nI_ge (b := 64) (by omega) (by decide)), show 8 * (d + 1) = 8 + 8 * d by omega, fo_add]
      by_cases ht : tb last (nI j) = true
      · rw [show (0 : Int32) = nI 0 from rfl, inn _ j (by omega) ht 8 0 FU x (by decide) (by decide), ih (j + 1) m _ (by omega) (by omega)]
        rfl
      · rw [show FU = 999 + 1 from rfl, F_X0_aLeapFurther_k16, if_neg (show ¬ (8 : Int32) ≤ 0 by decide), F_isInX _ (by omega), Option.bind_some, zb_if, if_neg ht]
        unfold F_X0_aLeapFurther_k68
        rw [nI_1, ih (j + 1) m _ (by omega) (by omega), show 8 * j = 8 * j + 0 from rfl, step_skip ht 8 0 x (by decide)]
        rfl
  exact out 64 0 FU last (by omega) (by decide)
def s_reached (A : Af) (one n : Int32) : Int64 := if ix one (aP A) = true then (if ix n 64 = true then rch A one.toNatClampNeg n.toNatClampNeg else -4611686018427387904) else -4611686018427387904
theorem X_reached {M : Mi} {L : Ml} {A : Af} {T : Nat} (hw : wfA T A) (hF : XFl 1 M L A) (one n : Int32) : F_X5_reached M L one n = some (s_reached A one n) := by
  have hP := hw.1
  have go : ∀ p, p < aP A → ∀ N, N < 64 → ∀ d j m, j + d = N → d < m → F_X5_reached_k36 M L m (nI p) (nI N) (rch A p j) (nI j) = some (rch A p N) := by
    intro p hp N hN d
    induction d with
    | zero =>
      intro j m hj hm
      obtain ⟨m, rfl⟩ : ∃ q, m = q + 1 := ⟨m - 1, by omega⟩
      rw [F_X5_reached_k36, if_pos (nI_le (by omega) (by omega)), show j = N by omega]
    | succ d ih =>
      intro j m hj hm
      obtain ⟨m, rfl⟩ : ∃ q, m = q + 1 := ⟨m - 1, by omega⟩
      rw [F_X5_reached_k36, if_neg (nI_ge (by omega) (by omega)), X_further hw hF hp, Option.bind_some, nI_1]
      exact ih (j + 1) m (by omega) (by omega)
  unfold F_X5_reached s_reached
  rw [X_isParty hF.2.2.2.1 hP, show F_X5_isWithin n 63 = some (zb (ix n 64)) from F_isWithinN n (m := 63) (by decide)]
  simp only [Option.bind_some, zb_if]
  by_cases h1 : ix one (aP A) = true
  · rw [if_pos h1, if_pos h1]
    by_cases h2 : ix n 64 = true
    · rw [if_pos h2, if_pos h2]
      obtain ⟨p, hp, rfl⟩ := ix_of h1 (by omega)
      obtain ⟨k, hk, rfl⟩ := ix_of h2 (by decide)
      rw [if_pos (ix_nI (by omega) (by decide)), nI_clamp (show p < 2 ^ 31 by omega), nI_clamp (show k < 2 ^ 31 by omega), (hF.2.2.2.2.2 p hp).2.2.1]
      exact go p hp k hk k 0 FU (by omega) (by unfold FU; omega)
    · rw [if_neg h2, if_neg h2]
  · rw [if_neg h1, if_neg h1]
theorem rch_s (A : Af) (p t : Nat) : rch A p (t + 1) = fo (stepL A p (rch A p t)) 512 0 (rch A p t) := by rw [rch, lf]
theorem rch_fix {A : Af} {p t : Nat} (h : rch A p (t + 1) = rch A p t) : ∀ k, rch A p (t + k) = rch A p t := by
  intro k
  induction k with
  | zero => rfl
  | succ k ih =>
    show lf A p (rch A p (t + k)) = rch A p t
    rw [ih]; exact h
theorem bit_ne0 : ∀ c, c < 64 → ¬ lshl (1 : Int64) (nI c) = 0 := by decide
theorem Y_reachedBy {R : Mi} {S : Ml} {A : Af} {T p N : Nat} (hw : wfA T A) (hm : aM A < 2 ^ 30) (hF : YFl R S A) (hp : p < aP A) (hN : N < 64) : F_X6_reachedBy R S (nI p) (nI N) = some (rch A p N) := by
  have hP := hw.1
  have inn : ∀ (kf14 : Int32 → Int32 → Int64 → Int64 → Int32 → Option Int64) x2 last x7 d k m x, k + d = 512 → d < m → F_X6_reachedBy_k33 R S kf14 m (nI p) x2 x last x7 (nI k) = kf14 (nI p) x2 (fo (stepL A p last) d k x) last (x7 + 1) := by
    intro kf14 x2 last x7 d
    induction d with
    | zero =>
      intro k m x hk hm'
      obtain ⟨m, rfl⟩ : ∃ q, m = q + 1 := ⟨m - 1, by omega⟩
      rw [F_X6_reachedBy_k33, if_pos (show (512 : Int32) ≤ nI k from nI_le (a := 512) (by omega) (by omega))]; rfl
    | succ d ih =>
      intro k m x hk hm'
      obtain ⟨m, rfl⟩ : ∃ q, m = q + 1 := ⟨m - 1, by omega⟩
      rw [F_X6_reachedBy_k33, if_neg (show ¬ (512 : Int32) ≤ nI k from nI_ge (b := 512) (by omega) (by decide)), show (8 : Int32) = nI 8 from rfl, pk_div (by omega) (by decide) (by decide), irm_nI (by omega) (by decide) (by decide), F_hasR _ (show k / 8 < 64 by omega), Option.bind_some, zb_if]
      unfold F_X6_reachedBy_k73 F_X6_reachedBy_k90
      rw [Y_land hw hm hF hp (Nat.mod_lt _ (by decide)), Option.bind_some, nI_1, if_pos (show (-1 : Int32) = -1 from rfl)]
      have es : fo (stepL A p last) (d + 1) k x = fo (stepL A p last) d (k + 1) (stepL A p last k x) := rfl
      rw [es]
      unfold stepL
      by_cases ht : tb last (nI (k / 8)) = true
      · rw [if_pos ht, if_pos ht]
        by_cases e : plnd A p (nI (k / 8)) (k % 8) = -1
        · rw [if_pos e, if_pos e]; exact ih (k + 1) m _ (by omega) (by omega)
        · rw [if_neg e, if_neg e]; exact ih (k + 1) m _ (by omega) (by omega)
      · rw [if_neg ht, if_neg ht, or_0]; exact ih (k + 1) m _ (by omega) (by omega)
  have out : ∀ d t m last, t + d = N → d < m → (t = 0 → last = 0) → (∀ s, t = s + 1 → last = rch A p s) → F_X6_reachedBy_k14 R S m (nI p) (nI N) (rch A p t) last (nI t) = some (rch A p N) := by
    intro d
    induction d with
    | zero =>
      intro t m last ht hm' _ _
      obtain ⟨m, rfl⟩ : ∃ q, m = q + 1 := ⟨m - 1, by omega⟩
      rw [F_X6_reachedBy_k14, if_pos (nI_le (by omega) (by omega)), show t = N by omega]
    | succ d ih =>
      intro t m last ht hm' h0 hs
      obtain ⟨m, rfl⟩ : ∃ q, m = q + 1 := ⟨m - 1, by omega⟩
      rw [F_X6_reachedBy_k14, if_neg (nI_ge (by omega) (by omega))]
      simp only [lg_eq0]
      by_cases e : rch A p t = last
      · rw [if_pos e]
        cases t with
        | zero =>
          exfalso
          obtain ⟨c, hc, ec⟩ := ix_of (hw.2.2 p hp).2.2.1 (by decide)
          have : lshl 1 (aQ A p).2.2.1 = last := e
          rw [h0 rfl, ec] at this
          exact bit_ne0 c hc this
        | succ s =>
          rw [hs s rfl] at e
          have := rch_fix e (N - s)
          rw [show s + (N - s) = N by omega] at this
          rw [this, e]
      · rw [if_neg e, show (0 : Int32) = nI 0 from rfl, inn _ _ _ _ 512 0 FU _ (by decide) (by decide), nI_1, ← rch_s]
        exact ih (t + 1) m _ (by omega) (by omega) (fun q => absurd q (by omega)) (fun s q => by rw [show s = t by omega])
  unfold F_X6_reachedBy
  rw [Y_on hw hF hp S, Option.bind_some]
  exact out N 0 FU 0 (by omega) (by unfold FU; omega) (fun _ => rfl) (fun s q => absurd q (by omega))
theorem Y_reached {R : Mi} {S : Ml} {A : Af} {T : Nat} (hw : wfA T A) (hm : aM A < 2 ^ 30) (hF : YFl R S A) (one n : Int32) : F_X6_reached R S one n = some (s_reached A one n) := by
  have hP := hw.1
  unfold F_X6_reached s_reached
  rw [Y_isOne hF.2.2.2.1 hP, F_inN n 63 rfl]
  simp only [Option.bind_some, zb_if]
  by_cases h1 : ix one (aP A) = true
  · rw [if_pos h1, if_pos h1]
    by_cases h2 : ix n 64 = true
    · rw [if_pos h2, if_pos h2]
      obtain ⟨p, hp, rfl⟩ := ix_of h1 (by omega)
      obtain ⟨k, hk, rfl⟩ := ix_of h2 (by decide)
      rw [nI_clamp (show p < 2 ^ 31 by omega), nI_clamp (show k < 2 ^ 31 by omega), Y_reachedBy hw hm hF hp hk]; rfl
    · rw [if_neg h2, if_neg h2]
  · rw [if_neg h1, if_neg h1]
def fewG (A : Af) (p : Nat) (c : Int32) : Nat → Nat → Int32
  | 0, _ => -1
  | d + 1, k => if tb (rch A p k) c = true then nI k else fewG A p c d (k + 1)
def s_fewest (A : Af) (one tile : Int32) : Int32 := if ix one (aP A) = true then (if ix tile 64 = true then fewG A one.toNatClampNeg tile 64 0 else -2) else -2
theorem X_fewest {M : Mi} {L : Ml} {A : Af} {T : Nat} (hw : wfA T A) (hF : XFl 1 M L A) (one tile : Int32) : F_X5_fewest M L one tile = some (s_fewest A one tile) := by
  have hP := hw.1
  have go : ∀ p, p < aP A → ∀ c, c < 64 → ∀ d j m, j + d = 64 → d < m → F_X5_fewest_k33 M L m (nI p) (nI c) (rch A p j) (nI j) = some (fewG A p (nI c) d j) := by
    intro p hp c hc d
    induction d with
    | zero =>
      intro j m hj hm
      obtain ⟨m, rfl⟩ : ∃ q, m = q + 1 := ⟨m - 1, by omega⟩
      rw [F_X5_fewest_k33, if_pos (show (63 : Int32) < nI j from nI_lt (a := 63) (by omega) (by omega))]; rfl
    | succ d ih =>
      intro j m hj hm
      obtain ⟨m, rfl⟩ : ∃ q, m = q + 1 := ⟨m - 1, by omega⟩
      rw [F_X5_fewest_k33, if_neg (show ¬ (63 : Int32) < nI j from nI_nlt (a := 63) (by omega) (by decide)), F_isInX _ hc, Option.bind_some, zb_if, X_further hw hF hp, Option.bind_some, nI_1]
      unfold fewG
      by_cases e : tb (rch A p j) (nI c) = true
      · rw [if_pos e, if_pos e]
      · rw [if_neg e, if_neg e]; exact ih (j + 1) m (by omega) (by omega)
  unfold F_X5_fewest s_fewest
  rw [X_isParty hF.2.2.2.1 hP, F_isTileX]
  simp only [Option.bind_some, zb_if]
  by_cases h1 : ix one (aP A) = true
  · rw [if_pos h1, if_pos h1]
    by_cases h2 : ix tile 64 = true
    · rw [if_pos h2, if_pos h2]
      obtain ⟨p, hp, rfl⟩ := ix_of h1 (by omega)
      obtain ⟨k, hk, rfl⟩ := ix_of h2 (by decide)
      rw [if_pos (ix_nI (by omega) (by decide)), nI_clamp (show p < 2 ^ 31 by omega), (hF.2.2.2.2.2 p hp).2.2.1]
      exact go p hp k hk 64 0 FU (by omega) (by decide)
    · rw [if_neg h2, if_neg h2]
  · rw [if_neg h1, if_neg h1]
theorem Y_fewest {R : Mi} {S : Ml} {A : Af} {T : Nat} (hw : wfA T A) (hm : aM A < 2 ^ 30) (hF : YFl R S A) (one tile : Int32) : F_X6_fewest R S one tile = some (s_fewest A one tile) := by
  have hP := hw.1
  have go : ∀ p, p < aP A → ∀ c, c < 64 → ∀ d j m, j + d = 64 → d < m → F_X6_fewest_k20 R S m (nI p) (nI c) (nI j) = some (fewG A p (nI c) d j) := by
    intro p hp c hc d
    induction d with
    | zero =>
      intro j m hj hm'
      obtain ⟨m, rfl⟩ : ∃ q, m = q + 1 := ⟨m - 1, by omega⟩
      have : j = 64 := by omega
      subst this
      rw [F_X6_fewest_k20, if_pos (show (64 : Int32) ≤ nI 64 by decide)]
      unfold F_X6_fewest_k45
      rw [if_pos (show nI 64 = 64 from rfl)]; rfl
    | succ d ih =>
      intro j m hj hm'
      obtain ⟨m, rfl⟩ : ∃ q, m = q + 1 := ⟨m - 1, by omega⟩
      rw [F_X6_fewest_k20, if_neg (show ¬ (64 : Int32) ≤ nI j from nI_ge (b := 64) (by omega) (by decide)), Y_reachedBy hw hm hF hp (by omega), Option.bind_some, F_hasR _ hc, Option.bind_some, zb_if, nI_1]
      unfold fewG F_X6_fewest_k45
      by_cases e : tb (rch A p j) (nI c) = true
      · rw [if_pos e, if_pos e, if_neg (show ¬ nI j = 64 from fun q => by have := (nI_eq (b := 64) (by omega) (by decide)).mp q; omega)]
      · rw [if_neg e, if_neg e]; exact ih (j + 1) m (by omega) (by omega)
  unfold F_X6_fewest s_fewest
  rw [Y_isOne hF.2.2.2.1 hP, F_isTileR]
  simp only [Option.bind_some, zb_if]
  by_cases h1 : ix one (aP A) = true
  · rw [if_pos h1, if_pos h1]
    by_cases h2 : ix tile 64 = true
    · rw [if_pos h2, if_pos h2]
      obtain ⟨p, hp, rfl⟩ := ix_of h1 (by omega)
      obtain ⟨k, hk, rfl⟩ := ix_of h2 (by decide)
      rw [nI_clamp (show p < 2 ^ 31 by omega)]
      exact go p hp k hk 64 0 FU (by omega) (by decide)
    · rw [if_neg h2, if_neg h2]
  · rw [if_neg h1, if_neg h1]
