/-! PURE: tells -/
def aVar (p w : Nat) (A : Af) (v : Nat) : Af := if w = 7 then aRul A v else aSet A p w (nI v)
def gdB (X : Nat → Cd) (A : Af) (p w : Nat) (it : Nat → Int32) (size : Nat) (v : Nat) : Bool := decide (fst1 X (aVar p w A v) p it size = -1)
def s_tells (σ : Sg) (s one what : Int32) : Int32 :=
  if ix s 4 = true then (if ix one (aP (uA σ)) = true then (if ix what 7 = true then (if (uS σ s.toNatClampNeg).1 = -1 then -11 else if 20 < (uS σ s.toNatClampNeg).2.1 then -2 else
    if what = 0 then fst1 (uX σ) (uA σ) one.toNatClampNeg (uS σ s.toNatClampNeg).2.2 (uS σ s.toNatClampNeg).2.1
    else if what = 6 then fo (upB (fun v => decide (fst1 (uX σ) (uA σ) v (uS σ s.toNatClampNeg).2.2 (uS σ s.toNatClampNeg).2.1 = -1))) (aP (uA σ)) 0 0
    else if what = 3 then (fo (upC (gdB (uX σ) (uA σ) one.toNatClampNeg 5 (uS σ s.toNatClampNeg).2.2 (uS σ s.toNatClampNeg).2.1)) 100 0 (0, -1)).1
    else if what = 4 then (fo (upC (gdB (uX σ) (uA σ) one.toNatClampNeg 5 (uS σ s.toNatClampNeg).2.2 (uS σ s.toNatClampNeg).2.1)) 100 0 (0, -1)).2
    else if what = 1 then fo (upB (gdB (uX σ) (uA σ) one.toNatClampNeg 6 (uS σ s.toNatClampNeg).2.2 (uS σ s.toNatClampNeg).2.1)) 6 0 0
    else if what = 2 then fo (upB (gdB (uX σ) (uA σ) one.toNatClampNeg 3 (uS σ s.toNatClampNeg).2.2 (uS σ s.toNatClampNeg).2.1)) 10 0 0
    else fo (upB (gdB (uX σ) (uA σ) one.toNatClampNeg 7 (uS σ s.toNatClampNeg).2.2 (uS σ s.toNatClampNeg).2.1)) (uT σ) 0 0) else -2) else -2) else -2
theorem X_sheetAt (M : Mi) (L : Ml) (s : Int32) : F_X5_sheetAt M L s = some (if ix s 4 = true then some (28 + 2 * s.toNatClampNeg) else none) := by
  unfold F_X5_sheetAt
  rw [show F_X5_isWithin s 3 = some (zb (ix s 4)) from F_isWithinN s (m := 3) (by decide), Option.bind_some, zb_if]
  by_cases h : ix s 4 = true
  · rw [if_pos h, if_pos h, if_pos h]
  · rw [if_neg h, if_neg h]
theorem shc_ok : ∀ s, s < 4 → shc (28 + 2 * s) = true := by decide
theorem wfA_var {T : Nat} {A : Af} {p w v : Nat} (h : wfA T A) (hw : (w = 3 ∧ v < 10) ∨ (w = 5 ∧ v < 100) ∨ (w = 6 ∧ v < 6) ∨ (w = 7 ∧ v < T)) : wfA T (aVar p w A v) ∧ aM (aVar p w A v) = aM A ∧ aP (aVar p w A v) = aP A := by
  unfold aVar
  rcases hw with ⟨rfl, hv⟩ | ⟨rfl, hv⟩ | ⟨rfl, hv⟩ | ⟨rfl, hv⟩
  · rw [if_neg (by decide)]; exact ⟨wfA_set h (fun q => ⟨q.1, ix_nI hv (by decide), q.2.2.1, q.2.2.2⟩), rfl, rfl⟩
  · rw [if_neg (by decide)]; exact ⟨wfA_set h (fun q => ⟨q.1, q.2.1, q.2.2.1, ix_nI hv (by decide)⟩), rfl, rfl⟩
  · rw [if_neg (by decide)]; exact ⟨wfA_set h (fun q => ⟨ix_nI hv (by decide), q.2.1, q.2.2.1, q.2.2.2⟩), rfl, rfl⟩
  · rw [if_pos rfl]; exact ⟨⟨h.1, hv, h.2.2⟩, rfl, rfl⟩
/-! the class -/
theorem X_weary {E : Ev} {σ : Sg} (hS : WS σ) {s p size : Nat} {it : Nat → Int32} (hs : s < 4) (hz : size ≤ 40) (hp : p < aP (uA σ)) (what : Int32) :
    ∀ d v m (M : Mi) (L : Ml) (y : Int32 × Int32), v + d = 100 → d < m → XI E M L σ → (∀ M' L', XI E M' L' σ → M' (28 + 2 * s) 2 = nI size ∧ ∀ i, i < size → M' (28 + 2 * s + 1) i = it i) → ∃ M' L', F_X5_wearyTold_k9 E (28 + 2 * s) m M L (nI p) what y.1 y.2 (nI v) = some (if what = 3 then (fo (upC (gdB (uX σ) (uA σ) p 5 it size)) d v y).1 else (fo (upC (gdB (uX σ) (uA σ) p 5 it size)) d v y).2, M', L') ∧ XI E M' L' σ := by
  have hP := hS.1.1
  intro d
  induction d with
  | zero =>
    intro v m M L y hv hm hX hsh
    obtain ⟨m, rfl⟩ : ∃ q, m = q + 1 := ⟨m - 1, by omega⟩
    rw [F_X5_wearyTold_k9, if_pos (show (99 : Int32) < nI v from nI_lt (a := 99) (by omega) (by omega))]
    by_cases e : what = 3
    · rw [if_pos e, if_pos e]; exact ⟨M, L, rfl, hX⟩
    · rw [if_neg e, if_neg e]; exact ⟨M, L, rfl, hX⟩
  | succ d ih =>
    intro v m M L y hv hm hX hsh
    obtain ⟨m, rfl⟩ : ∃ q, m = q + 1 := ⟨m - 1, by omega⟩
    obtain ⟨M1, L1, a1, a2, a3, a4, a5⟩ := X_think (b := 6) (by decide) hS hX
    have f2 : XFl 6 (up2 M1 10 p (nI v)) L1 (aSet (uA σ) p 5 (nI v)) := XFl_set (w := 5) a2 (by decide)
    have I2 : XI E (up2 M1 10 p (nI v)) L1 σ := a3.keep (fun k _ hk => up2_ne (by omega)) (fun _ _ => rfl)
    have hw2 := wfA_var (p := p) (w := 5) (v := v) hS.1 (Or.inr (Or.inl ⟨rfl, by omega⟩))
    obtain ⟨q1, q2⟩ := hsh _ _ I2
    obtain ⟨M3, b1, b2, b3⟩ := X_first (B := aSet (uA σ) p 5 (nI v)) hw2.1 hs hz I2 f2 hp q1 q2
    rw [F_X5_wearyTold_k9, if_neg (show ¬ (99 : Int32) < nI v from nI_nlt (a := 99) (by omega) (by decide)), a1]
    simp only [Option.bind_some]
    rw [if_pos (ix_nI (by omega) (by decide)), nI_clamp (show p < 2 ^ 31 by omega), b1]
    simp only [Option.bind_some]
    unfold F_X5_wearyTold_k64 F_X5_wearyTold_k66
    rw [nI_1 v]
    have es : fo (upC (gdB (uX σ) (uA σ) p 5 it size)) (d + 1) v y = fo (upC (gdB (uX σ) (uA σ) p 5 it size)) d (v + 1) (upC (gdB (uX σ) (uA σ) p 5 it size) v y) := rfl
    rw [es]
    have eg : gdB (uX σ) (uA σ) p 5 it size v = decide (fst1 (uX σ) (aSet (uA σ) p 5 (nI v)) p it size = -1) := rfl
    unfold upC
    rw [eg]
    by_cases e : fst1 (uX σ) (aSet (uA σ) p 5 (nI v)) p it size = -1
    · rw [if_pos e, if_pos (decide_eq_true e)]
      by_cases e2 : y.2 = -1
      · rw [if_pos e2, if_pos e2]; exact ih (v + 1) m M3 L1 (y.1 + 1, nI v) (by omega) (by omega) b2 hsh
      · rw [if_neg e2, if_neg e2]; exact ih (v + 1) m M3 L1 (y.1 + 1, y.2) (by omega) (by omega) b2 hsh
    · rw [if_neg e, if_neg (show ¬ decide (fst1 (uX σ) (aSet (uA σ) p 5 (nI v)) p it size = -1) = true by rw [decide_eq_true_iff]; exact e)]
      exact ih (v + 1) m M3 L1 y (by omega) (by omega) b2 hsh
theorem X_bits {E : Ev} {σ : Sg} {c1 : Nat} {G : Nat → Bool} {p N : Nat} {what : Int32} (hN : N < 1000) (hb : ∀ v, v < N → ∀ m M L x, XI E M L σ → ∃ M' L', F_X5_bitsTold_k50 E c1 (m + 1) M L (nI p) what x (nI N) (nI v) = F_X5_bitsTold_k50 E c1 m M' L' (nI p) what (upB G v x) (nI N) (nI (v + 1)) ∧ XI E M' L' σ) :
    ∀ d v m M L x, v + d = N → d < m → XI E M L σ → ∃ M' L', F_X5_bitsTold_k50 E c1 m M L (nI p) what x (nI N) (nI v) = some (fo (upB G) d v x, M', L') ∧ XI E M' L' σ := by
  intro d
  induction d with
  | zero =>
    intro v m M L x hv hm hX
    obtain ⟨m, rfl⟩ : ∃ q, m = q + 1 := ⟨m - 1, by omega⟩
    rw [F_X5_bitsTold_k50, if_pos (nI_le (by omega) (by omega))]
    exact ⟨M, L, rfl, hX⟩
  | succ d ih =>
    intro v m M L x hv hm hX
    obtain ⟨m, rfl⟩ : ∃ q, m = q + 1 := ⟨m - 1, by omega⟩
    obtain ⟨M1, L1, a1, a2⟩ := hb v (by omega) m M L x hX
    rw [a1]
    exact ih (v + 1) m M1 L1 _ (by omega) (by omega) a2
theorem X_bit1 {E : Ev} {σ : Sg} (hS : WS σ) {s p N size w : Nat} {it : Nat → Int32} {what : Int32} (hw : (what = 1 ∧ w = 6 ∧ N = 6) ∨ (what = 2 ∧ w = 3 ∧ N = 10) ∨ (what = 5 ∧ w = 7 ∧ N = uT σ)) (hs : s < 4) (hz : size ≤ 40) (hp : p < aP (uA σ)) (hT : uT σ ≤ 6)
    (hsh : ∀ M' L', XI E M' L' σ → M' (28 + 2 * s) 2 = nI size ∧ ∀ i, i < size → M' (28 + 2 * s + 1) i = it i) :
    ∀ v, v < N → ∀ m M L x, XI E M L σ → ∃ M' L', F_X5_bitsTold_k50 E (28 + 2 * s) (m + 1) M L (nI p) what x (nI N) (nI v) = F_X5_bitsTold_k50 E (28 + 2 * s) m M' L' (nI p) what (upB (gdB (uX σ) (uA σ) p w it size) v x) (nI N) (nI (v + 1)) ∧ XI E M' L' σ := by
  intro v hv m M L x hX
  have hP := hS.1.1
  have hN : N ≤ 10 := by rcases hw with ⟨_, _, rfl⟩ | ⟨_, _, rfl⟩ | ⟨_, _, rfl⟩ <;> omega
  obtain ⟨M1, L1, a1, a2, a3, a4, a5⟩ := X_think (b := 6) (by decide) hS hX
  have fin : ∀ (M2 : Mi), XFl 6 M2 L1 (aVar p w (uA σ) v) → XI E M2 L1 σ → wfA (uT σ) (aVar p w (uA σ) v) → aP (aVar p w (uA σ) v) = aP (uA σ) → ∃ M' L', F_X5_bitsTold_k134 E (28 + 2 * s) (F_X5_bitsTold_k50 E (28 + 2 * s) m) M2 L1 (nI p) what x (nI N) (nI v) (nI p) = F_X5_bitsTold_k50 E (28 + 2 * s) m M' L' (nI p) what (upB (gdB (uX σ) (uA σ) p w it size) v x) (nI N) (nI (v + 1)) ∧ XI E M' L' σ := by
    intro M2 f2 I2 hw2 ep
    obtain ⟨q1, q2⟩ := hsh _ _ I2
    obtain ⟨M3, b1, b2, b3⟩ := X_first hw2 hs hz I2 f2 (by rw [ep]; exact hp) q1 q2
    unfold F_X5_bitsTold_k134 F_X5_bitsTold_k150
    rw [b1]
    simp only [Option.bind_some]
    rw [nI_1]
    unfold upB gdB
    by_cases e : fst1 (uX σ) (aVar p w (uA σ) v) p it size = -1
    · rw [if_pos e, if_pos (decide_eq_true e)]; exact ⟨M3, L1, rfl, b2⟩
    · rw [if_neg e, if_neg (by rw [decide_eq_true_iff]; exact e)]; exact ⟨M3, L1, rfl, b2⟩
  rw [F_X5_bitsTold_k50, if_neg (nI_ge (by omega) (by omega)), a1]
  simp only [Option.bind_some]
  unfold F_X5_bitsTold_k120
  rcases hw with ⟨rfl, rfl, rfl⟩ | ⟨rfl, rfl, rfl⟩ | ⟨rfl, rfl, rfl⟩
  · rw [if_pos (show (1 : Int32) = 1 from rfl), if_pos (ix_nI (by omega) (by decide)), nI_clamp (show p < 2 ^ 31 by omega), if_neg (show ¬ (1 : Int32) = 6 by decide)]
    have W := wfA_var (p := p) (w := 6) (v := v) hS.1 (Or.inr (Or.inr (Or.inl ⟨rfl, hv⟩)))
    exact fin _ (XFl_set (w := 6) a2 (by decide)) (a3.keep (fun k _ hk => up2_ne (by omega)) (fun _ _ => rfl)) W.1 W.2.2
  · rw [if_neg (show ¬ (2 : Int32) = 1 by decide), if_pos (show (2 : Int32) = 2 from rfl), if_pos (ix_nI (by omega) (by decide)), nI_clamp (show p < 2 ^ 31 by omega), if_neg (show ¬ (2 : Int32) = 6 by decide)]
    have W := wfA_var (p := p) (w := 3) (v := v) hS.1 (Or.inl ⟨rfl, hv⟩)
    exact fin _ (XFl_set (w := 3) a2 (by decide)) (a3.keep (fun k _ hk => up2_ne (by omega)) (fun _ _ => rfl)) W.1 W.2.2
  · rw [if_neg (show ¬ (5 : Int32) = 1 by decide), if_neg (show ¬ (5 : Int32) = 2 by decide), if_pos (show (5 : Int32) = 5 from rfl), if_neg (show ¬ (5 : Int32) = 6 by decide)]
    have W := wfA_var (p := p) (w := 7) (v := v) hS.1 (Or.inr (Or.inr (Or.inr ⟨rfl, hv⟩)))
    exact fin _ (XFl_rul a2 v) (a3.keep (fun k _ hk => up2_ne (by omega)) (fun _ _ => rfl)) W.1 W.2.2
theorem X_bit6 {E : Ev} {σ : Sg} (hS : WS σ) {s p size : Nat} {it : Nat → Int32} (hs : s < 4) (hz : size ≤ 40)
    (hsh : ∀ M' L', XI E M' L' σ → M' (28 + 2 * s) 2 = nI size ∧ ∀ i, i < size → M' (28 + 2 * s + 1) i = it i) :
    ∀ v, v < aP (uA σ) → ∀ m M L x, XI E M L σ → ∃ M' L', F_X5_bitsTold_k50 E (28 + 2 * s) (m + 1) M L (nI p) 6 x (nI (aP (uA σ))) (nI v) = F_X5_bitsTold_k50 E (28 + 2 * s) m M' L' (nI p) 6 (upB (fun v => decide (fst1 (uX σ) (uA σ) v it size = -1)) v x) (nI (aP (uA σ))) (nI (v + 1)) ∧ XI E M' L' σ := by
  intro v hv m M L x hX
  have hP := hS.1.1
  obtain ⟨M1, L1, a1, a2, a3, a4, a5⟩ := X_think (b := 6) (by decide) hS hX
  obtain ⟨q1, q2⟩ := hsh _ _ a3
  obtain ⟨M3, b1, b2, b3⟩ := X_first hS.1 hs hz a3 a2 hv q1 q2
  rw [F_X5_bitsTold_k50, if_neg (nI_ge (by omega) (by omega)), a1]
  simp only [Option.bind_some]
  unfold F_X5_bitsTold_k120
  rw [if_neg (show ¬ (6 : Int32) = 1 by decide), if_neg (show ¬ (6 : Int32) = 2 by decide), if_neg (show ¬ (6 : Int32) = 5 by decide), if_pos (show (6 : Int32) = 6 from rfl)]
  unfold F_X5_bitsTold_k134 F_X5_bitsTold_k150
  rw [b1]
  simp only [Option.bind_some]
  rw [nI_1]
  unfold upB
  by_cases e : fst1 (uX σ) (uA σ) v it size = -1
  · rw [if_pos e, if_pos (decide_eq_true e)]; exact ⟨M3, L1, rfl, b2⟩
  · rw [if_neg e, if_neg (by rw [decide_eq_true_iff]; exact e)]; exact ⟨M3, L1, rfl, b2⟩
theorem X_tells {E : Ev} {M : Mi} {L : Ml} {σ : Sg} (hS : WS σ) (h : XI E M L σ) (s one what : Int32) : ∃ M' L', F_X5_tells E M L s one what = some (s_tells σ s one what, M', L') ∧ XI E M' L' σ := by
  have hP := hS.1.1
  have hT := h.2.2.1.2.1
  unfold F_X5_tells s_tells
  rw [X_sheetAt, Option.bind_some]
  by_cases h1 : ix s 4 = true
  · rw [if_pos h1, if_pos h1]
    obtain ⟨k, hk, rfl⟩ := ix_of h1 (by decide)
    rw [nI_clamp (show k < 2 ^ 31 by omega)]
    dsimp only
    rw [if_pos (shc_ok k hk), X_isParty h.1.2.2.2.1 hP, show F_X5_isWithin what 6 = some (zb (ix what 7)) from F_isWithinN what (m := 6) (by decide)]
    simp only [Option.bind_some, zb_if]
    by_cases h2 : ix one (aP (uA σ)) = true
    · rw [if_pos h2, if_pos h2]
      by_cases h3 : ix what 7 = true
      · rw [if_pos h3, if_pos h3]
        obtain ⟨g1, g2⟩ := h.2.2.2.2 k hk
        have hwf := hS.2.2.2.2.2 k hk
        rw [g1]
        by_cases h4 : (uS σ k).1 = -1
        · rw [if_pos h4, if_pos h4]; exact ⟨M, L, rfl, h⟩
        · rw [if_neg h4, if_neg h4]
          obtain ⟨g3, g4⟩ := g2.resolve_left h4
          have hz := (hwf.resolve_left h4).2
          have hsh : ∀ M' L', XI E M' L' σ → M' (28 + 2 * k) 2 = nI (uS σ k).2.1 ∧ ∀ i, i < (uS σ k).2.1 → M' (28 + 2 * k + 1) i = (uS σ k).2.2 i := fun M' L' hX => (hX.2.2.2.2 k hk).2.resolve_left h4
          rw [g3]
          by_cases h5 : 20 < (uS σ k).2.1
          · rw [if_pos h5, if_neg (show ¬ nI (uS σ k).2.1 ≤ 20 from nI_ge (a := 20) (by omega) (by omega))]; exact ⟨M, L, rfl, h⟩
          · rw [if_neg h5, if_pos (show nI (uS σ k).2.1 ≤ 20 from nI_le (b := 20) (by omega) (by decide))]
            obtain ⟨p, hp, rfl⟩ := ix_of h2 (by omega)
            obtain ⟨w, hw7, rfl⟩ := ix_of h3 (by decide)
            rw [nI_clamp (show p < 2 ^ 31 by omega)]
            rcases (show w = 0 ∨ w = 3 ∨ w = 4 ∨ w = 1 ∨ w = 2 ∨ w = 5 ∨ w = 6 by omega) with rfl | rfl | rfl | rfl | rfl | rfl | rfl
            · rw [if_pos (show nI 0 = 0 from rfl), if_pos (show nI 0 = 0 from rfl)]
              obtain ⟨M1, L1, a1, a2, a3, a4, a5⟩ := X_think (b := 6) (by decide) hS h
              obtain ⟨q1, q2⟩ := hsh _ _ a3
              obtain ⟨M3, b1, b2, b3⟩ := X_first hS.1 hk hz a3 a2 hp q1 q2
              rw [a1]; simp only [Option.bind_some]
              rw [b1]
              exact ⟨M3, L1, rfl, b2⟩
            · rw [if_neg (show ¬ nI 3 = 0 by decide), if_pos (show nI 3 = 3 from rfl), if_neg (show ¬ nI 3 = 0 by decide), if_neg (show ¬ nI 3 = 6 by decide), if_pos (show nI 3 = 3 from rfl)]
              obtain ⟨M1, L1, a1, a2⟩ := X_weary hS hk hz hp (nI 3) 100 0 FU M L (0, -1) (by decide) (by decide) h hsh
              rw [if_pos (show nI 3 = 3 from rfl)] at a1
              unfold F_X5_tells_k90 F_X5_wearyTold
              replace a1 : F_X5_wearyTold_k9 E (28 + 2 * k) FU M L (nI p) (nI 3) 0 (-1) 0 = _ := a1
              rw [a1]; exact ⟨M1, L1, rfl, a2⟩
            · rw [if_neg (show ¬ nI 4 = 0 by decide), if_neg (show ¬ nI 4 = 3 by decide), if_pos (show nI 4 = 4 from rfl), if_neg (show ¬ nI 4 = 0 by decide), if_neg (show ¬ nI 4 = 6 by decide), if_neg (show ¬ nI 4 = 3 by decide), if_pos (show nI 4 = 4 from rfl)]
              obtain ⟨M1, L1, a1, a2⟩ := X_weary hS hk hz hp (nI 4) 100 0 FU M L (0, -1) (by decide) (by decide) h hsh
              rw [if_neg (show ¬ nI 4 = 3 by decide)] at a1
              unfold F_X5_tells_k90 F_X5_wearyTold
              replace a1 : F_X5_wearyTold_k9 E (28 + 2 * k) FU M L (nI p) (nI 4) 0 (-1) 0 = _ := a1
              rw [a1]; exact ⟨M1, L1, rfl, a2⟩
            · rw [if_neg (show ¬ nI 1 = 0 by decide), if_neg (show ¬ nI 1 = 3 by decide), if_neg (show ¬ nI 1 = 4 by decide), if_neg (show ¬ nI 1 = 0 by decide), if_neg (show ¬ nI 1 = 6 by decide), if_neg (show ¬ nI 1 = 3 by decide), if_neg (show ¬ nI 1 = 4 by decide), if_pos (show nI 1 = 1 from rfl)]
              obtain ⟨M1, L1, a1, a2⟩ := X_bits (what := 1) (by decide) (X_bit1 (it := (uS σ k).2.2) hS (Or.inl ⟨rfl, rfl, rfl⟩) hk hz hp hT hsh) 6 0 FU M L 0 (by decide) (by decide) h
              unfold F_X5_bitsTold F_X5_bitsTold_k45
              rw [if_pos (show nI 1 = 1 from rfl)]
              replace a1 : F_X5_bitsTold_k50 E (28 + 2 * k) FU M L (nI p) (nI 1) 0 6 0 = _ := a1
              rw [a1]; exact ⟨M1, L1, rfl, a2⟩
            · rw [if_neg (show ¬ nI 2 = 0 by decide), if_neg (show ¬ nI 2 = 3 by decide), if_neg (show ¬ nI 2 = 4 by decide), if_neg (show ¬ nI 2 = 0 by decide), if_neg (show ¬ nI 2 = 6 by decide), if_neg (show ¬ nI 2 = 3 by decide), if_neg (show ¬ nI 2 = 4 by decide), if_neg (show ¬ nI 2 = 1 by decide), if_pos (show nI 2 = 2 from rfl)]
              obtain ⟨M1, L1, a1, a2⟩ := X_bits (what := 2) (by decide) (X_bit1 (it := (uS σ k).2.2) hS (Or.inr (Or.inl ⟨rfl, rfl, rfl⟩)) hk hz hp hT hsh) 10 0 FU M L 0 (by decide) (by decide) h
              unfold F_X5_bitsTold F_X5_bitsTold_k45
              rw [if_neg (show ¬ nI 2 = 1 by decide), if_pos (show nI 2 = 2 from rfl)]
              replace a1 : F_X5_bitsTold_k50 E (28 + 2 * k) FU M L (nI p) (nI 2) 0 10 0 = _ := a1
              rw [a1]; exact ⟨M1, L1, rfl, a2⟩
            · rw [if_neg (show ¬ nI 5 = 0 by decide), if_neg (show ¬ nI 5 = 3 by decide), if_neg (show ¬ nI 5 = 4 by decide), if_neg (show ¬ nI 5 = 0 by decide), if_neg (show ¬ nI 5 = 6 by decide), if_neg (show ¬ nI 5 = 3 by decide), if_neg (show ¬ nI 5 = 4 by decide), if_neg (show ¬ nI 5 = 1 by decide), if_neg (show ¬ nI 5 = 2 by decide)]
              obtain ⟨M1, L1, a1, a2⟩ := X_bits (what := 5) (by omega) (X_bit1 (it := (uS σ k).2.2) hS (Or.inr (Or.inr ⟨rfl, rfl, rfl⟩)) hk hz hp hT hsh) (uT σ) 0 FU M L 0 (by omega) (by unfold FU; omega) h
              unfold F_X5_bitsTold F_X5_bitsTold_k45
              rw [if_neg (show ¬ nI 5 = 1 by decide), if_neg (show ¬ nI 5 = 2 by decide), if_pos (show nI 5 = 5 from rfl), h.2.2.1.1]
              replace a1 : F_X5_bitsTold_k50 E (28 + 2 * k) FU M L (nI p) (nI 5) 0 (nI (uT σ)) 0 = _ := a1
              rw [a1]; exact ⟨M1, L1, rfl, a2⟩
            · rw [if_neg (show ¬ nI 6 = 0 by decide), if_neg (show ¬ nI 6 = 3 by decide), if_neg (show ¬ nI 6 = 4 by decide), if_neg (show ¬ nI 6 = 0 by decide), if_pos (show nI 6 = 6 from rfl)]
              obtain ⟨M1, L1, a1, a2⟩ := X_bits (p := p) (what := 6) (by omega) (X_bit6 (it := (uS σ k).2.2) hS hk hz hsh) (aP (uA σ)) 0 FU M L 0 (by omega) (by unfold FU; omega) h
              unfold F_X5_bitsTold F_X5_bitsTold_k45
              rw [if_neg (show ¬ nI 6 = 1 by decide), if_neg (show ¬ nI 6 = 2 by decide), if_neg (show ¬ nI 6 = 5 by decide), h.1.2.2.2.1]
              replace a1 : F_X5_bitsTold_k50 E (28 + 2 * k) FU M L (nI p) (nI 6) 0 (nI (aP (uA σ))) 0 = _ := a1
              rw [a1]; exact ⟨M1, L1, rfl, a2⟩
      · rw [if_neg h3, if_neg h3]; exact ⟨M, L, rfl, h⟩
    · rw [if_neg h2, if_neg h2]; exact ⟨M, L, rfl, h⟩
  · rw [if_neg h1, if_neg h1]; exact ⟨M, L, rfl, h⟩
