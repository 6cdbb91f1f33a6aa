/-! PURE: best -/
def aRed (A : Af) (c : Nat) : Af := (aR A ||| lshl 1 (nI c), aH A, aM A, aP A, aU A, aQ A)
def aHol (A : Af) (c : Nat) : Af := (aR A, aH A ||| lshl 1 (nI c), aM A, aP A, aU A, aQ A)
def bfnd (C : Cd) (A : Af) (f : Int32) (n : Nat) (what : Int32) (c : Nat) : Int32 :=
  if (2 : Int32) ≤ what then (if (4 : Int32) ≤ what then (if tb (aH A) (nI c) = true then -1 else if who A (nI c) = 0 then cnt (Aft C (-1) n (aHol A c)) f else -1) else (if tb (aR A) (nI c) = true then -1 else if tb (aH A) (nI c) = true then -1 else cnt (Aft C (-1) n (aRed A c)) f)) else cnt (Aft C (nI c) n A) f
def bstG (g : Nat → Int32) (c : Nat) (x : Int32 × Int32) : Int32 × Int32 := if g c ≤ x.2 then x else (nI c, g c)
def bres (what : Int32) (x : Int32 × Int32) : Int32 := if irm what 2 = 0 then x.1 else x.2
def s_best (C : Cd) (A : Af) (f n what : Int32) : Int32 := if ix f 3 = true then (if decide (1 ≤ n.toInt ∧ n.toInt ≤ 20) = true then (if ix what 6 = true then bres what (fo (bstG (bfnd C A f n.toNatClampNeg what)) (if (2 : Int32) ≤ what then 64 else aP A) 0 (-1, cnt (Aft C (-1) n.toNatClampNeg A) f)) else -2) else -2) else -2
/-- later: what is behind n minutes, but for red -/
def XLa (M : Mi) (L : Ml) (A : Af) : Prop := ∃ r : Int64, XFl 11 M L (r, A.2)
theorem XLa.keep {M M' : Mi} {L L' : Ml} {A : Af} (h : XLa M L A) (hM : ∀ k, 11 ≤ k → k ≤ 15 → M' k = M k) (hL : L' 11 = L 11) : XLa M' L' A := by
  obtain ⟨r, h⟩ := h
  exact ⟨r, h.keep (hM _ (by decide) (by decide)) (hM _ (by decide) (by decide)) (hM _ (by decide) (by decide)) (hM _ (by decide) (by decide)) (hM _ (by decide) (by decide)) hL⟩
theorem X_b1 {E : Ev} {σ : Sg} (hS : WS σ) {f what : Int32} {n c : Nat} (hn : n ≤ 20) (hc : c < 64) (hcP : ¬ (2 : Int32) ≤ what → c < aP (uA σ)) {M : Mi} {L : Ml} (h : XI E M L σ) (hl : XLa M L (Aft (uX σ (aU (uA σ))) (-1) n (uA σ))) (K : Int32 × Mi × Ml → Option (Int32 × Mi × Ml)) :
    ∃ M' L', (if (2 : Int32) ≤ what then (if (4 : Int32) ≤ what then ((F_X5_foundWithHollow E M L f (nI n) (nI c)).bind K) else ((F_X5_foundWithRed M L f (nI c)).bind K)) else ((F_X5_foundWithOneStill E M L f (nI n) (nI c)).bind K)) = K (bfnd (uX σ (aU (uA σ))) (uA σ) f n what c, M', L') ∧ XI E M' L' σ ∧ XLa M' L' (Aft (uX σ (aU (uA σ))) (-1) n (uA σ)) := by
  unfold bfnd
  by_cases h2 : (2 : Int32) ≤ what
  · rw [if_pos h2, if_pos h2]
    by_cases h4 : (4 : Int32) ≤ what
    · rw [if_pos h4, if_pos h4]
      unfold F_X5_foundWithHollow
      rw [F_isHollowX 1 M L hc, h.1.2.1, Option.bind_some, zb_if]
      by_cases e1 : tb (aH (uA σ)) (nI c) = true
      · rw [if_pos e1, if_pos e1]; exact ⟨M, L, rfl, h, hl⟩
      · rw [if_neg e1, if_neg e1, X_who hS.1 h.1, Option.bind_some]
        by_cases e2 : who (uA σ) (nI c) = 0
        · rw [if_pos e2, if_pos e2]
          obtain ⟨M1, L1, a1, a2, a3, a4, a5⟩ := X_think (b := 6) (by decide) hS h
          rw [a1]; simp only [Option.bind_some]
          have f2 : XFl 6 M1 (up2 L1 6 1 (L1 6 1 ||| lshl 1 (nI c))) (aHol (uA σ) c) := by
            obtain ⟨f0, f1, f2, f3, f4, f5⟩ := a2
            exact ⟨(up2_b (by decide)).trans f0, by rw [up2_at, f1]; rfl, f2, f3, f4, f5⟩
          have I1 : XI E M1 (up2 L1 6 1 (L1 6 1 ||| lshl 1 (nI c))) σ := a3.keep (fun _ _ _ => rfl) (fun k hk => up2_ne (by omega))
          obtain ⟨M2, x2, b1, b2, b3, b4⟩ := X_thinkPass (b := 6) (A := aHol (uA σ) c) (by decide) hS.1 I1 f2 (n := n) (by omega) (-1)
          rw [b1]; simp only [Option.bind_some]
          rw [X_cnt (wfA_Aft (A := aHol (uA σ) c) hS.1 n) b2]
          exact ⟨M2, _, rfl, b3, hl.keep (fun k k1 k2 => (b4 k (by omega) (by omega)).trans (a4 k (by omega))) ((up2_ne (by decide)).trans (a5 11 (by decide)))⟩
        · rw [if_neg e2, if_neg e2]; exact ⟨M, L, rfl, h, hl⟩
    · rw [if_neg h4, if_neg h4]
      unfold F_X5_foundWithRed
      rw [F_isRedX 1 M L hc, h.1.1, Option.bind_some, zb_if]
      by_cases e1 : tb (aR (uA σ)) (nI c) = true
      · rw [if_pos e1, if_pos e1]; exact ⟨M, L, rfl, h, hl⟩
      · rw [if_neg e1, if_neg e1, F_isHollowX 1 M L hc, h.1.2.1, Option.bind_some, zb_if]
        by_cases e2 : tb (aH (uA σ)) (nI c) = true
        · rw [if_pos e2, if_pos e2]; exact ⟨M, L, rfl, h, hl⟩
        · rw [if_neg e2, if_neg e2]
          obtain ⟨r, f0, f1, f2, f3, f4, f5⟩ := hl
          have g : XFl 11 M (up2 L 11 0 (aR (uA σ) ||| lshl 1 (nI c))) (Aft (uX σ (aU (uA σ))) (-1) n (aRed (uA σ) c)) := ⟨up2_at _ _ _ _, (up2_b (by decide)).trans f1, f2, f3, f4, f5⟩
          rw [X_cnt (wfA_Aft (A := aRed (uA σ) c) hS.1 n) g]
          exact ⟨M, _, rfl, h.keep (fun _ _ _ => rfl) (fun k hk => up2_ne (by omega)), ⟨aR (uA σ) ||| lshl 1 (nI c), g⟩⟩
  · rw [if_neg h2, if_neg h2]
    have hcp := hcP h2
    unfold F_X5_foundWithOneStill
    obtain ⟨M1, L1, a1, a2, a3, a4, a5⟩ := X_think (b := 6) (by decide) hS h
    obtain ⟨M2, x2, b1, b2, b3, b4⟩ := X_thinkPass (b := 6) (by decide) hS.1 a3 a2 (n := n) (by omega) (nI c)
    rw [a1]; simp only [Option.bind_some]
    rw [b1]; simp only [Option.bind_some]
    rw [X_cnt (wfA_Aft hS.1 n) b2]
    exact ⟨M2, _, rfl, b3, hl.keep (fun k k1 k2 => (b4 k (by omega) (by omega)).trans (a4 k (by omega))) (a5 11 (by decide))⟩
theorem X_best {E : Ev} {M : Mi} {L : Ml} {σ : Sg} (hS : WS σ) (h : XI E M L σ) (f n what : Int32) : ∃ M' L', F_X5_best E M L f n what = some (s_best (uX σ (aU (uA σ))) (uA σ) f n what, M', L') ∧ XI E M' L' σ := by
  have hP := hS.1.1
  have go : ∀ N, N ≤ 20 → ∀ ch, ch ≤ 64 → (¬ (2 : Int32) ≤ what → ch ≤ aP (uA σ)) → ∀ d c m M L x, c + d = ch → d < m → XI E M L σ → XLa M L (Aft (uX σ (aU (uA σ))) (-1) N (uA σ)) → ∃ M' L', F_X5_best_k90 E m M L f (nI N) what x.1 x.2 (nI ch) (nI c) = some (bres what (fo (bstG (bfnd (uX σ (aU (uA σ))) (uA σ) f N what)) d c x), M', L') ∧ XI E M' L' σ := by
    intro N hN ch hch hchP d
    induction d with
    | zero =>
      intro c m M L x hc hm hX hl
      obtain ⟨m, rfl⟩ : ∃ q, m = q + 1 := ⟨m - 1, by omega⟩
      rw [F_X5_best_k90, if_pos (nI_le (by omega) (by omega))]
      unfold bres
      by_cases e : irm what 2 = 0
      · rw [if_pos e, if_pos e]; exact ⟨M, L, rfl, hX⟩
      · rw [if_neg e, if_neg e]; exact ⟨M, L, rfl, hX⟩
    | succ d ih =>
      intro c m M L x hc hm hX hl
      obtain ⟨m, rfl⟩ : ∃ q, m = q + 1 := ⟨m - 1, by omega⟩
      obtain ⟨M1, L1, a1, a2, a3⟩ := X_b1 (f := f) hS hN (show c < 64 by omega) (fun q => by have := hchP q; omega) hX hl (fun r => F_X5_best_k136 E (F_X5_best_k90 E m) r.2.1 r.2.2 f (nI N) what x.1 x.2 (nI ch) (nI c) r.1)
      rw [F_X5_best_k90, if_neg (nI_ge (by omega) (by omega)), a1]
      unfold F_X5_best_k136 F_X5_best_k153
      rw [nI_1]
      have es : fo (bstG (bfnd (uX σ (aU (uA σ))) (uA σ) f N what)) (d + 1) c x = fo (bstG (bfnd (uX σ (aU (uA σ))) (uA σ) f N what)) d (c + 1) (bstG (bfnd (uX σ (aU (uA σ))) (uA σ) f N what) c x) := rfl
      rw [es]
      by_cases e : bfnd (uX σ (aU (uA σ))) (uA σ) f N what c ≤ x.2
      · rw [if_pos e, show bstG (bfnd (uX σ (aU (uA σ))) (uA σ) f N what) c x = x from if_pos e]
        exact ih (c + 1) m M1 L1 x (by omega) (by omega) a2 a3
      · rw [if_neg e, show bstG (bfnd (uX σ (aU (uA σ))) (uA σ) f N what) c x = (nI c, bfnd (uX σ (aU (uA σ))) (uA σ) f N what c) from if_neg e]
        exact ih (c + 1) m M1 L1 (nI c, bfnd (uX σ (aU (uA σ))) (uA σ) f N what c) (by omega) (by omega) a2 a3
  unfold F_X5_best s_best
  rw [show F_X5_isWithin f 2 = some (zb (ix f 3)) from F_isWithinN f (m := 2) (by decide), show F_X5_isWithin what 5 = some (zb (ix what 6)) from F_isWithinN what (m := 5) (by decide)]
  simp only [Option.bind_some, zb_if]
  by_cases h1 : ix f 3 = true
  · rw [if_pos h1, if_pos h1]
    by_cases h2 : 1 ≤ n.toInt ∧ n.toInt ≤ 20
    · rw [if_pos (decide_eq_true h2), if_neg (show ¬ n < 1 by rw [i_lt, show (1 : Int32).toInt = 1 from rfl]; omega), if_neg (show ¬ (20 : Int32) < n by rw [i_lt, show (20 : Int32).toInt = 20 from rfl]; omega)]
      by_cases h3 : ix what 6 = true
      · rw [if_pos h3, if_pos h3]
        obtain ⟨k, hk0, hk, rfl⟩ : ∃ k, 0 < k ∧ k ≤ 20 ∧ n = nI k := ⟨n.toInt.toNat, by omega, by omega, by rw [i_eq, nI_toInt (by omega)]; omega⟩
        obtain ⟨M1, L1, a1, a2, a3, a4, a5⟩ := X_think (b := 11) (by decide) hS h
        obtain ⟨M2, x2, b1, b2, b3, b4⟩ := X_thinkPass (b := 11) (by decide) hS.1 a3 a2 (n := k) (by omega) (-1)
        rw [a1]; simp only [Option.bind_some]
        rw [b1]; simp only [Option.bind_some]
        rw [X_cnt (wfA_Aft hS.1 k) b2]; simp only [Option.bind_some]
        unfold F_X5_best_k85
        rw [b3.1.2.2.2.1, nI_clamp (show k < 2 ^ 31 by omega)]
        have hl : XLa M2 L1 (Aft (uX σ (aU (uA σ))) (-1) k (uA σ)) := ⟨aR (uA σ), b2⟩
        by_cases h5 : (2 : Int32) ≤ what
        · rw [if_pos h5, if_pos h5]
          exact go k hk 64 (by decide) (fun q => absurd h5 q) 64 0 FU M2 L1 (-1, _) (by omega) (by decide) b3 hl
        · rw [if_neg h5, if_neg h5]
          exact go k hk (aP (uA σ)) (by omega) (fun _ => Nat.le_refl _) (aP (uA σ)) 0 FU M2 L1 (-1, _) (by omega) (by unfold FU; omega) b3 hl
      · rw [if_neg h3, if_neg h3]; exact ⟨M, L, rfl, h⟩
    · rw [if_neg (show ¬ decide (1 ≤ n.toInt ∧ n.toInt ≤ 20) = true by rw [decide_eq_true_iff]; exact h2)]
      by_cases h3 : n < 1
      · rw [if_pos h3]; exact ⟨M, L, rfl, h⟩
      · rw [if_neg h3, if_pos (show (20 : Int32) < n by rw [i_lt] at h3 ⊢; rw [show (1 : Int32).toInt = 1 from rfl] at h3; rw [show (20 : Int32).toInt = 20 from rfl]; omega)]; exact ⟨M, L, rfl, h⟩
  · rw [if_neg h1, if_neg h1]; exact ⟨M, L, rfl, h⟩
/-! the reference -/
theorem Y_tries {R : Mi} {S : Ml} {σ : Sg} (h : YI R S σ) (c : Nat) (v : Int32) (x : Int32 × Int32) (h29 : R 0 29 = x.1) (h30 : R 0 30 = x.2) : ∃ R', F_X6_tries R S (nI c) v = some (R', S) ∧ YI R' S σ ∧ R' 0 29 = (if v ≤ x.2 then x else (nI c, v)).1 ∧ R' 0 30 = (if v ≤ x.2 then x else (nI c, v)).2 := by
  unfold F_X6_tries
  rw [h30]
  by_cases e : v ≤ x.2
  · rw [if_pos e, if_pos e]; exact ⟨R, rfl, h, h29, h30⟩
  · rw [if_neg e, if_neg e]
    exact ⟨_, rfl, h.keep (fun k a _ => by rw [up2_ne a, up2_ne a]) (fun j hj => by rw [up2_b (by omega), up2_b (by omega)]) (fun _ _ => rfl), (up2_b (show 29 ≠ 30 by decide)).trans (up2_at _ _ _ _), up2_at _ _ _ _⟩
theorem Y_bstill {R : Mi} {S : Ml} {σ : Sg} (hS : WS σ) (h : YI R S σ) {n : Nat} (hn : n ≤ 20) (f : Int32) (s : Int32) : ∃ R' S', F_X6_foundBehind (up2 R 0 12 s) S f (nI n) = some (cnt (Aft (uX σ (aU (uA σ))) s n (uA σ)) f, R', S') ∧ YI (up2 R' 0 12 (-1)) S' σ ∧ up2 R' 0 12 (-1) 0 29 = R 0 29 ∧ up2 R' 0 12 (-1) 0 30 = R 0 30 := by
  have hm := hS.2.1
  have o : ∀ k, k ≠ 0 → up2 R 0 12 s k = R k := fun k hk => up2_ne hk
  have o0 : ∀ j, j ≠ 12 → up2 R 0 12 s 0 j = R 0 j := fun j hj => up2_b hj
  have hF : YFl (up2 R 0 12 s) S (uA σ) := by
    have := h.1
    unfold YFl YP at *
    rw [o0 7 (by decide), o0 11 (by decide), o0 4 (by decide), o 4 (by decide)]; exact this
  obtain ⟨R', S', b1, b2, b3⟩ := Y_behind (n := n) hS.1 (by omega) (h.2.2.1.keep (o0 3 (by decide)) (o 1 (by decide)) (o 2 (by decide))) hF (by omega) f
  rw [up2_at] at b1
  refine ⟨R', S', b1, ?_, by rw [up2_b (by decide), b3.2.2.1 29 (by decide), o0 29 (by decide)], by rw [up2_b (by decide), b3.2.2.1 30 (by decide), o0 30 (by decide)]⟩
  have kt : KT R (up2 R' 0 12 (-1)) S S' := by
    refine ⟨fun k a1 a2 a3 => by rw [up2_ne a1, b3.1 k a1 a2 a3, o k a1], fun j hj => ?_, fun j hj => by rw [up2_b (by omega), b3.2.2.1 j hj, o0 j (by omega)], b3.2.2.2⟩
    by_cases e : j = 12
    · rw [e, up2_at]; exact h.2.2.2.2.2.symm
    · rw [up2_b e, b3.2.1 j hj, o0 j e]
  refine h.kt ?_ kt
  unfold YFl YP at *
  rw [up2_b (by decide), up2_b (by decide), up2_b (by decide), up2_ne (by decide)]; exact b2
/-- a tile tried: what is behind the minutes of the floor changed, and all as it was -/
theorem Y_try {R : Mi} {S S1 : Ml} {σ : Sg} {A' : Af} (hS : WS σ) (h : YI R S σ) {n : Nat} (hn : n ≤ 20) (f : Int32) (hF : YFl R S1 A') (e3 : aM A' = aM (uA σ)) (e4 : aP A' = aP (uA σ)) (e5 : aU A' = aU (uA σ)) (e6 : aQ A' = aQ (uA σ)) (hS1 : ∀ j, j ≠ 8 → j ≠ 9 → S1 0 j = S 0 j) :
    ∃ R' S', F_X6_foundBehind R S1 f (nI n) = some (cnt (Aft (uX σ (aU (uA σ))) (-1) n A') f, R', S') ∧ YI R' (up2 (up2 S' 0 8 (aR (uA σ))) 0 9 (aH (uA σ))) σ ∧ R' 0 29 = R 0 29 ∧ R' 0 30 = R 0 30 := by
  have hm := hS.2.1
  have hw : wfA (uT σ) A' := ⟨by rw [e4]; exact hS.1.1, by rw [e5]; exact hS.1.2.1, fun p hp => by rw [e6]; exact hS.1.2.2 p (by rw [← e4]; exact hp)⟩
  obtain ⟨R', S', b1, b2, b3⟩ := Y_behind (n := n) hw (by omega) h.2.2.1 hF (by omega) f
  rw [h.2.2.2.2.2, e5] at b1
  refine ⟨R', S', b1, ?_, b3.2.2.1 29 (by decide), b3.2.2.1 30 (by decide)⟩
  refine h.now ?_ b3.1 (fun j hj => by rcases hj with rfl | rfl | rfl | hj; exact b3.2.1 3 (by decide); exact b3.2.1 6 (by decide); exact b3.2.1 12 (by decide); exact b3.2.2.1 j (by omega)) (fun j hj => by rw [up2_b (by omega), up2_b (by omega), b3.2.2.2 0 j (Or.inr (by omega)), hS1 j (by omega) (by omega)])
  obtain ⟨f0, f1, f2, f3, f4, f5⟩ := b2
  rw [e3] at f2; rw [e4] at f3; rw [e5] at f4; rw [e4, e6] at f5
  exact ⟨(up2_b (show 8 ≠ 9 by decide)).trans (up2_at _ _ _ _), up2_at _ _ _ _, f2, f3, f4, f5⟩
theorem Y_tile {R : Mi} {S : Ml} {σ : Sg} (hS : WS σ) (h : YI R S σ) {n c : Nat} (hn : n ≤ 20) (hc : c < 64) (f what : Int32) (hw : what = 2 ∨ what = 3 ∨ what = 4 ∨ what = 5) (x : Int32 × Int32) (h29 : R 0 29 = x.1) (h30 : R 0 30 = x.2) (hx : 0 ≤ x.2) :
    ∃ R' S', F_X6_triesTile R S (what / 2) (nI c) f (nI n) = some (R', S') ∧ YI R' S' σ ∧ R' 0 29 = (bstG (bfnd (uX σ (aU (uA σ))) (uA σ) f n what) c x).1 ∧ R' 0 30 = (bstG (bfnd (uX σ (aU (uA σ))) (uA σ) f n what) c x).2 := by
  obtain ⟨f0, f1, f2, f3, f4, f5⟩ := h.1
  have no : bfnd (uX σ (aU (uA σ))) (uA σ) f n what c = -1 → ∃ R' S', (some (R, S) : Option (Mi × Ml)) = some (R', S') ∧ YI R' S' σ ∧ R' 0 29 = (bstG (bfnd (uX σ (aU (uA σ))) (uA σ) f n what) c x).1 ∧ R' 0 30 = (bstG (bfnd (uX σ (aU (uA σ))) (uA σ) f n what) c x).2 := by
    intro e
    have : bstG (bfnd (uX σ (aU (uA σ))) (uA σ) f n what) c x = x := by
      unfold bstG; rw [e, if_pos (show (-1 : Int32) ≤ x.2 by rw [i_le] at hx ⊢; rw [show (-1 : Int32).toInt = -1 from rfl]; rw [show (0 : Int32).toInt = 0 from rfl] at hx; omega)]
    rw [this]; exact ⟨R, S, rfl, h, h29, h30⟩
  have h2 : (2 : Int32) ≤ what := by rcases hw with rfl | rfl | rfl | rfl <;> decide
  unfold F_X6_triesTile F_X6_triesTile_k50 F_X6_triesTile_k54 F_X6_triesTile_k55 F_X6_triesTile_k79 F_X6_triesTile_k100
  rw [F_hasR _ hc, F_hasR _ hc, f0, f1, Y_who hS.1 h.1]
  simp only [Option.bind_some, zb_if, if_true, if_neg (show ¬ (1 : Int32) = 0 by decide)]
  by_cases h4 : (4 : Int32) ≤ what
  · have ew : what / 2 = 2 := by
      rcases hw with rfl | rfl | rfl | rfl
      · exact absurd h4 (by decide)
      · exact absurd h4 (by decide)
      · decide
      · decide
    rw [ew, if_neg (show ¬ (2 : Int32) = 1 by decide), if_neg (show ¬ (2 : Int32) = 1 by decide), if_pos (show (2 : Int32) = 2 from rfl)]
    by_cases e1 : tb (aH (uA σ)) (nI c) = true
    · rw [if_pos e1]; exact no (by unfold bfnd; rw [if_pos h2, if_pos h4, if_pos e1])
    · rw [if_neg e1]
      by_cases e2 : who (uA σ) (nI c) = 0
      · rw [if_pos e2]
        have eb : bfnd (uX σ (aU (uA σ))) (uA σ) f n what c = cnt (Aft (uX σ (aU (uA σ))) (-1) n (aHol (uA σ) c)) f := by unfold bfnd; rw [if_pos h2, if_pos h4, if_neg e1, if_pos e2]
        rw [up2_b (show 9 ≠ 8 by decide), f1, or_0]
        obtain ⟨R1, S1, b1, b2, b3, b4⟩ := Y_try (S1 := up2 (up2 S 0 8 (aR (uA σ))) 0 9 (aH (uA σ) ||| lshl 1 (nI c))) (A' := aHol (uA σ) c) hS h hn f ⟨(up2_b (show 8 ≠ 9 by decide)).trans (up2_at _ _ _ _), up2_at _ _ _ _, f2, f3, f4, f5⟩ rfl rfl rfl rfl (fun j a b => by rw [up2_b b, up2_b a])
        rw [b1]; simp only [Option.bind_some]
        obtain ⟨R2, c1, c2, c3, c4⟩ := Y_tries b2 c (cnt (Aft (uX σ (aU (uA σ))) (-1) n (aHol (uA σ) c)) f) x (b3.trans h29) (b4.trans h30)
        rw [c1]
        refine ⟨R2, _, rfl, c2, ?_, ?_⟩
        · rw [c3]; unfold bstG; rw [eb]
        · rw [c4]; unfold bstG; rw [eb]
      · rw [if_neg e2]; exact no (by unfold bfnd; rw [if_pos h2, if_pos h4, if_neg e1, if_neg e2])
  · have ew : what / 2 = 1 := by
      rcases hw with rfl | rfl | rfl | rfl
      · decide
      · decide
      · exact absurd (by decide) h4
      · exact absurd (by decide) h4
    rw [ew, if_pos (show (1 : Int32) = 1 from rfl), if_pos (show (1 : Int32) = 1 from rfl), if_neg (show ¬ (1 : Int32) = 2 by decide)]
    by_cases e1 : tb (aH (uA σ)) (nI c) = true
    · rw [if_pos e1]
      refine no ?_
      unfold bfnd; rw [if_pos h2, if_neg h4]
      by_cases e2 : tb (aR (uA σ)) (nI c) = true
      · rw [if_pos e2]
      · rw [if_neg e2, if_pos e1]
    · rw [if_neg e1]
      by_cases e2 : tb (aR (uA σ)) (nI c) = true
      · rw [if_pos e2]; exact no (by unfold bfnd; rw [if_pos h2, if_neg h4, if_pos e2])
      · rw [if_neg e2]
        have eb : bfnd (uX σ (aU (uA σ))) (uA σ) f n what c = cnt (Aft (uX σ (aU (uA σ))) (-1) n (aRed (uA σ) c)) f := by unfold bfnd; rw [if_pos h2, if_neg h4, if_neg e2, if_neg e1]
        rw [up2_b (show 9 ≠ 8 by decide), f1, or_0]
        obtain ⟨R1, S1, b1, b2, b3, b4⟩ := Y_try (S1 := up2 (up2 S 0 8 (aR (uA σ) ||| lshl 1 (nI c))) 0 9 (aH (uA σ))) (A' := aRed (uA σ) c) hS h hn f ⟨(up2_b (show 8 ≠ 9 by decide)).trans (up2_at _ _ _ _), up2_at _ _ _ _, f2, f3, f4, f5⟩ rfl rfl rfl rfl (fun j a b => by rw [up2_b b, up2_b a])
        rw [b1]; simp only [Option.bind_some]
        obtain ⟨R2, c1, c2, c3, c4⟩ := Y_tries b2 c (cnt (Aft (uX σ (aU (uA σ))) (-1) n (aRed (uA σ) c)) f) x (b3.trans h29) (b4.trans h30)
        rw [c1]
        refine ⟨R2, _, rfl, c2, ?_, ?_⟩
        · rw [c3]; unfold bstG; rw [eb]
        · rw [c4]; unfold bstG; rw [eb]
theorem ite_self_104 {p q : Prop} {α : Type} [Decidable p] [Decidable q] (hq : q) {a b : α} : (if p then a else if q then a else b) = a := by
  by_cases e : p
  · rw [if_pos e]
  · rw [if_neg e, if_pos hq]
theorem bst_pos {g : Nat → Int32} {c : Nat} {x : Int32 × Int32} (hx : 0 ≤ x.2) : 0 ≤ (bstG g c x).2 := by
  unfold bstG
  by_cases e : g c ≤ x.2
  · rw [if_pos e]; exact hx
  · rw [if_neg e]; rw [i_le] at e hx ⊢; show (0 : Int32).toInt ≤ (g c).toInt; omega
theorem Y_best {R : Mi} {S : Ml} {σ : Sg} (hS : WS σ) (h : YI R S σ) (f n what : Int32) : ∃ R' S', F_X6_best R S f n what = some (s_best (uX σ (aU (uA σ))) (uA σ) f n what, R', S') ∧ YI R' S' σ := by
  have hP := hS.1.1
  have end136 : ∀ (R : Mi) (S : Ml) (x : Int32 × Int32), YI R S σ → R 0 29 = x.1 → R 0 30 = x.2 → ∃ R' S', F_X6_best_k136 R S what = some (bres what x, R', S') ∧ YI R' S' σ := by
    intro R S x hX h29 h30
    unfold F_X6_best_k136 bres
    rw [h29, h30]
    by_cases e : irm what 2 = 0
    · rw [if_pos e, if_pos e]; exact ⟨R, S, rfl, hX⟩
    · rw [if_neg e, if_neg e]; exact ⟨R, S, rfl, hX⟩
  have tiles : (what = 2 ∨ what = 3 ∨ what = 4 ∨ what = 5) → ∀ N, N ≤ 20 → ∀ d c m R S x, c + d = 64 → d < m → YI R S σ → R 0 29 = x.1 → R 0 30 = x.2 → 0 ≤ x.2 → ∃ R' S', F_X6_best_k107 m R S f (nI N) what (nI c) = some (bres what (fo (bstG (bfnd (uX σ (aU (uA σ))) (uA σ) f N what)) d c x), R', S') ∧ YI R' S' σ := by
    intro hw N hN d
    induction d with
    | zero =>
      intro c m R S x hc hm hX h29 h30 hx
      obtain ⟨m, rfl⟩ : ∃ q, m = q + 1 := ⟨m - 1, by omega⟩
      rw [F_X6_best_k107, if_pos (show (64 : Int32) ≤ nI c from nI_le (a := 64) (by omega) (by omega))]
      exact end136 R S x hX h29 h30
    | succ d ih =>
      intro c m R S x hc hm hX h29 h30 hx
      obtain ⟨m, rfl⟩ : ∃ q, m = q + 1 := ⟨m - 1, by omega⟩
      obtain ⟨R1, S1, a1, a2, a3, a4⟩ := Y_tile hS hX hN (show c < 64 by omega) f what hw x h29 h30 hx
      rw [F_X6_best_k107, if_neg (show ¬ (64 : Int32) ≤ nI c from nI_ge (b := 64) (by omega) (by decide)), if_neg (show ¬ what ≤ 1 by rcases hw with rfl | rfl | rfl | rfl <;> decide), a1]
      simp only [Option.bind_some]
      rw [nI_1]
      exact ih (c + 1) m R1 S1 _ (by omega) (by omega) a2 a3 a4 (bst_pos hx)
  have parties : ¬ (2 : Int32) ≤ what → ∀ N, N ≤ 20 → ∀ d c m R S x, c + d = aP (uA σ) → d < m → YI R S σ → R 0 29 = x.1 → R 0 30 = x.2 → ∃ R' S', F_X6_best_k57 m R S f (nI N) what (nI c) = some (bres what (fo (bstG (bfnd (uX σ (aU (uA σ))) (uA σ) f N what)) d c x), R', S') ∧ YI R' S' σ := by
    intro hw N hN d
    induction d with
    | zero =>
      intro c m R S x hc hm hX h29 h30
      obtain ⟨m, rfl⟩ : ∃ q, m = q + 1 := ⟨m - 1, by omega⟩
      rw [F_X6_best_k57, hX.1.2.2.2.1, if_pos (nI_le (by omega) (by omega))]
      unfold F_X6_best_k104
      rw [show FU = 999 + 1 from rfl, F_X6_best_k107, if_neg (show ¬ (64 : Int32) ≤ 0 by decide), if_pos (show what ≤ 1 by rw [i_le] at hw ⊢; rw [show (2 : Int32).toInt = 2 from rfl] at hw; rw [show (1 : Int32).toInt = 1 from rfl]; omega)]
      exact end136 R S x hX h29 h30
    | succ d ih =>
      intro c m R S x hc hm hX h29 h30
      obtain ⟨m, rfl⟩ : ∃ q, m = q + 1 := ⟨m - 1, by omega⟩
      obtain ⟨R1, S1, a1, a2, a3, a4⟩ := Y_bstill hS hX hN f (nI c)
      obtain ⟨R2, c1, c2, c3, c4⟩ := Y_tries a2 c (cnt (Aft (uX σ (aU (uA σ))) (nI c) N (uA σ)) f) x (a3.trans h29) (a4.trans h30)
      rw [F_X6_best_k57, hX.1.2.2.2.1, if_neg (nI_ge (by omega) (by omega)), if_neg hw, a1]
      simp only [Option.bind_some]
      rw [c1]
      simp only [Option.bind_some]
      rw [nI_1]
      have eb : bfnd (uX σ (aU (uA σ))) (uA σ) f N what c = cnt (Aft (uX σ (aU (uA σ))) (nI c) N (uA σ)) f := by unfold bfnd; rw [if_neg hw]
      refine ih (c + 1) m R2 S1 _ (by omega) (by omega) c2 ?_ ?_
      · rw [c3]; unfold bstG; rw [eb]
      · rw [c4]; unfold bstG; rw [eb]
  unfold F_X6_best s_best
  rw [F_inN f 2 rfl, F_inN what 5 rfl, F_in]
  simp only [Option.bind_some, zb_if]
  have e1 : (decide ((1 : Int64).toInt ≤ n.toInt64.toInt ∧ n.toInt64.toInt ≤ (20 : Int64).toInt)) = decide (1 ≤ n.toInt ∧ n.toInt ≤ 20) := by rw [toL]; rfl
  rw [e1]
  by_cases h1 : ix f 3 = true
  · rw [if_pos h1, if_pos h1]
    by_cases h2 : 1 ≤ n.toInt ∧ n.toInt ≤ 20
    · rw [if_pos (decide_eq_true h2), if_pos (decide_eq_true h2)]
      by_cases h3 : ix what 6 = true
      · rw [if_pos h3, if_pos h3]
        obtain ⟨k, hk0, hk, rfl⟩ : ∃ k, 0 < k ∧ k ≤ 20 ∧ n = nI k := ⟨n.toInt.toNat, by omega, by omega, by rw [i_eq, nI_toInt (by omega)]; omega⟩
        have I0 : YI (up2 R 0 29 (-1)) S σ := h.keep (fun k a _ => up2_ne a) (fun j hj => up2_b (by omega)) (fun _ _ => rfl)
        obtain ⟨R1, S1, b1, b2, b3⟩ := Y_behind (n := k) hS.1 (by have := hS.2.1; omega) I0.2.2.1 I0.1 (by omega) f
        rw [I0.2.2.2.2.2] at b1
        have I1 := I0.kt b2 b3
        have I2 : YI (up2 R1 0 30 (cnt (Aft (uX σ (aU (uA σ))) (-1) k (uA σ)) f)) S1 σ := I1.keep (fun k a _ => up2_ne a) (fun j hj => up2_b (by omega)) (fun _ _ => rfl)
        rw [b1]; simp only [Option.bind_some]
        have q29 : up2 R1 0 30 (cnt (Aft (uX σ (aU (uA σ))) (-1) k (uA σ)) f) 0 29 = ((-1 : Int32), cnt (Aft (uX σ (aU (uA σ))) (-1) k (uA σ)) f).1 := by rw [up2_b (by decide), b3.2.2.1 29 (by decide), up2_at]
        have q30 : up2 R1 0 30 (cnt (Aft (uX σ (aU (uA σ))) (-1) k (uA σ)) f) 0 30 = ((-1 : Int32), cnt (Aft (uX σ (aU (uA σ))) (-1) k (uA σ)) f).2 := up2_at _ _ _ _
        rw [nI_clamp (show k < 2 ^ 31 by omega)]
        by_cases h5 : (2 : Int32) ≤ what
        · rw [if_pos h5, show FU = 999 + 1 from rfl, F_X6_best_k57, ite_self_104 h5]
          have hw : what = 2 ∨ what = 3 ∨ what = 4 ∨ what = 5 := by
            obtain ⟨w, hw6, rfl⟩ := ix_of h3 (by decide)
            rcases (show w = 0 ∨ w = 1 ∨ w = 2 ∨ w = 3 ∨ w = 4 ∨ w = 5 by omega) with rfl | rfl | rfl | rfl | rfl | rfl
            · exact absurd h5 (by decide)
            · exact absurd h5 (by decide)
            · exact Or.inl rfl
            · exact Or.inr (Or.inl rfl)
            · exact Or.inr (Or.inr (Or.inl rfl))
            · exact Or.inr (Or.inr (Or.inr rfl))
          obtain ⟨c, hc, ec⟩ := cnt_nn (Aft (uX σ (aU (uA σ))) (-1) k (uA σ)) f hP
          exact tiles hw k hk 64 0 FU _ S1 (-1, cnt (Aft (uX σ (aU (uA σ))) (-1) k (uA σ)) f) (by omega) (by decide) I2 q29 q30 (by show 0 ≤ cnt _ f; rw [ec]; exact nI_pos' (by omega))
        · rw [if_neg h5]
          exact parties h5 k hk (aP (uA σ)) 0 FU _ S1 (-1, cnt (Aft (uX σ (aU (uA σ))) (-1) k (uA σ)) f) (by omega) (by unfold FU; omega) I2 q29 q30
      · rw [if_neg h3, if_neg h3]; exact ⟨R, S, rfl, h⟩
    · rw [if_neg (show ¬ decide (1 ≤ n.toInt ∧ n.toInt ≤ 20) = true by rw [decide_eq_true_iff]; exact h2), if_neg (show ¬ decide (1 ≤ n.toInt ∧ n.toInt ≤ 20) = true by rw [decide_eq_true_iff]; exact h2)]; exact ⟨R, S, rfl, h⟩
  · rw [if_neg h1, if_neg h1]; exact ⟨R, S, rfl, h⟩
