/-! PURE: call, meet -/
theorem cnt_nn (A : Af) (f : Int32) (hP : aP A ≤ 5) : ∃ c, c ≤ 5 ∧ cnt A f = nI c := by
  have go : ∀ (g : Nat → Bool) d j c, ∃ c', c' ≤ c + d ∧ fo (fun j x => x + zb (g j)) d j (nI c) = nI c' := by
    intro g d
    induction d with
    | zero => intro j c; exact ⟨c, by omega, rfl⟩
    | succ d ih =>
      intro j c
      show ∃ c', c' ≤ c + (d + 1) ∧ fo _ d (j + 1) (nI c + zb (g j)) = nI c'
      cases g j with
      | true =>
        rw [show nI c + zb true = nI (c + 1) from nI_1 c]
        obtain ⟨c', h1, h2⟩ := ih (j + 1) (c + 1)
        exact ⟨c', by omega, h2⟩
      | false =>
        rw [show nI c + zb false = nI (c + 0) from nI_add c 0]
        obtain ⟨c', h1, h2⟩ := ih (j + 1) (c + 0)
        exact ⟨c', by omega, h2⟩
  obtain ⟨c', h1, h2⟩ := go (fun j => decide (fnd A j = f)) (aP A) 0 0
  exact ⟨c', by omega, h2⟩
def callG (C : Cd) (A : Af) (f : Int32) (k : Nat) (x : Int32 × Int32) : Int32 × Int32 := if cnt (Aft C (-1) k A) f ≤ x.2 then x else (nI k, cnt (Aft C (-1) k A) f)
def s_call (C : Cd) (A : Af) (f n what : Int32) : Int32 := if ix f 3 = true then (if ix n 41 = true then (if ix what 2 = true then (if what = 0 then (fo (callG C A f) n.toNatClampNeg 1 (0, cnt A f)).1 else (fo (callG C A f) n.toNatClampNeg 1 (0, cnt A f)).2) else -2) else -2) else -2
theorem X_call {E : Ev} {M : Mi} {L : Ml} {σ : Sg} (hS : WS σ) (h : XI E M L σ) (f n what : Int32) : ∃ M' L', F_X5_call E M L f n what = some (s_call (uX σ (aU (uA σ))) (uA σ) f n what, M', L') ∧ XI E M' L' σ := by
  have hP := hS.1.1
  have go : ∀ N, N ≤ 40 → ∀ d j m M L x, j + d = N → d < m → XI E M L σ → XFl 6 M L (Aft (uX σ (aU (uA σ))) (-1) j (uA σ)) → ∃ M' L', F_X5_call_k55 E m M L f (nI N) what x.1 x.2 (nI (j + 1)) = some (if what = 0 then (fo (callG (uX σ (aU (uA σ))) (uA σ) f) d (j + 1) x).1 else (fo (callG (uX σ (aU (uA σ))) (uA σ) f) d (j + 1) x).2, M', L') ∧ XI E M' L' σ := by
    intro N hN d
    induction d with
    | zero =>
      intro j m M L x hj hm hX hF
      obtain ⟨m, rfl⟩ : ∃ q, m = q + 1 := ⟨m - 1, by omega⟩
      rw [F_X5_call_k55, if_pos (nI_lt (by omega) (by omega))]
      by_cases e : what = 0
      · rw [if_pos e, if_pos e]; exact ⟨M, L, rfl, hX⟩
      · rw [if_neg e, if_neg e]; exact ⟨M, L, rfl, hX⟩
    | succ d ih =>
      intro j m M L x hj hm hX hF
      obtain ⟨m, rfl⟩ : ∃ q, m = q + 1 := ⟨m - 1, by omega⟩
      have hwj := wfA_Aft (C := uX σ (aU (uA σ))) (s := -1) hS.1 j
      obtain ⟨M1, x1, b1, b2, b3, b4⟩ := X_thinkPass (b := 6) (by decide) hwj hX hF (n := 1) (by decide) (-1)
      replace b1 : F_X1_passMinutes E 6 M L 1 (-1) = some (x1, M1, L) := b1
      replace b2 : XFl 6 M1 L (Aft (uX σ (aU (uA σ))) (-1) (j + 1) (uA σ)) := b2
      rw [F_X5_call_k55, if_neg (nI_nlt (by omega) (by omega)), b1]
      simp only [Option.bind_some]
      rw [X_cnt (wfA_Aft hS.1 (j + 1)) b2]
      simp only [Option.bind_some]
      unfold F_X5_call_k100
      rw [nI_1]
      have e0 : fo (callG (uX σ (aU (uA σ))) (uA σ) f) (d + 1) (j + 1) x = fo (callG (uX σ (aU (uA σ))) (uA σ) f) d (j + 1 + 1) (callG (uX σ (aU (uA σ))) (uA σ) f (j + 1) x) := rfl
      rw [e0]
      by_cases e : cnt (Aft (uX σ (aU (uA σ))) (-1) (j + 1) (uA σ)) f ≤ x.2
      · rw [if_pos e, show callG (uX σ (aU (uA σ))) (uA σ) f (j + 1) x = x from if_pos e]
        exact ih (j + 1) m M1 L x (by omega) (by omega) b3 b2
      · rw [if_neg e, show callG (uX σ (aU (uA σ))) (uA σ) f (j + 1) x = (nI (j + 1), cnt (Aft (uX σ (aU (uA σ))) (-1) (j + 1) (uA σ)) f) from if_neg e]
        exact ih (j + 1) m M1 L (nI (j + 1), cnt (Aft (uX σ (aU (uA σ))) (-1) (j + 1) (uA σ)) f) (by omega) (by omega) b3 b2
  unfold F_X5_call s_call
  rw [show F_X5_isWithin f 2 = some (zb (ix f 3)) from F_isWithinN f (m := 2) (by decide), show F_X5_isWithin n 40 = some (zb (ix n 41)) from F_isWithinN n (m := 40) (by decide), show F_X5_isWithin what 1 = some (zb (ix what 2)) from F_isWithinN what (m := 1) (by decide)]
  simp only [Option.bind_some, zb_if]
  by_cases h1 : ix f 3 = true
  · rw [if_pos h1, if_pos h1]
    by_cases h2 : ix n 41 = true
    · rw [if_pos h2, if_pos h2]
      by_cases h3 : ix what 2 = true
      · rw [if_pos h3, if_pos h3]
        obtain ⟨k, hk, rfl⟩ := ix_of h2 (by decide)
        obtain ⟨M1, L1, a1, a2, a3, a4, a5⟩ := X_think (b := 6) (by decide) hS h
        rw [a1]; simp only [Option.bind_some]
        rw [X_cnt hS.1 a2, nI_clamp (by omega)]; simp only [Option.bind_some]
        exact go k (by omega) k 0 FU M1 L1 (0, cnt (uA σ) f) (by omega) (by unfold FU; omega) a3 a2
      · rw [if_neg h3, if_neg h3]; exact ⟨M, L, rfl, h⟩
    · rw [if_neg h2, if_neg h2]; exact ⟨M, L, rfl, h⟩
  · rw [if_neg h1, if_neg h1]; exact ⟨M, L, rfl, h⟩
theorem Y_call {R : Mi} {S : Ml} {σ : Sg} (hS : WS σ) (h : YI R S σ) (f n what : Int32) : ∃ R' S', F_X6_call R S f n what = some (s_call (uX σ (aU (uA σ))) (uA σ) f n what, R', S') ∧ YI R' S' σ := by
  have hP := hS.1.1
  have hm := hS.2.1
  have go : ∀ N, N ≤ 40 → ∀ d j m R S x, j + d = N + 1 → d < m → YI R S σ → ∃ R' S', F_X6_call_k46 m R S f (nI N) what x.1 x.2 (nI j) = some (if what = 0 then (fo (callG (uX σ (aU (uA σ))) (uA σ) f) d j x).1 else (fo (callG (uX σ (aU (uA σ))) (uA σ) f) d j x).2, R', S') ∧ YI R' S' σ := by
    intro N hN d
    induction d with
    | zero =>
      intro j m R S x hj hm hX
      obtain ⟨m, rfl⟩ : ∃ q, m = q + 1 := ⟨m - 1, by omega⟩
      rw [F_X6_call_k46, if_pos (nI_lt (by omega) (by omega))]
      by_cases e : what = 0
      · rw [if_pos e, if_pos e]; exact ⟨R, S, rfl, hX⟩
      · rw [if_neg e, if_neg e]; exact ⟨R, S, rfl, hX⟩
    | succ d ih =>
      intro j m R S x hj hm hX
      obtain ⟨m, rfl⟩ : ∃ q, m = q + 1 := ⟨m - 1, by omega⟩
      obtain ⟨R1, S1, b1, b2, b3⟩ := Y_behind (n := j) hS.1 (by omega) hX.2.2.1 hX.1 (by omega) f
      rw [hX.2.2.2.2.2] at b1
      have I1 := hX.kt b2 b3
      rw [F_X6_call_k46, if_neg (nI_nlt (by omega) (by omega)), b1]
      simp only [Option.bind_some]
      unfold F_X6_call_k76
      rw [nI_1]
      have e0 : fo (callG (uX σ (aU (uA σ))) (uA σ) f) (d + 1) j x = fo (callG (uX σ (aU (uA σ))) (uA σ) f) d (j + 1) (callG (uX σ (aU (uA σ))) (uA σ) f j x) := rfl
      rw [e0]
      by_cases e : cnt (Aft (uX σ (aU (uA σ))) (-1) j (uA σ)) f ≤ x.2
      · rw [if_pos e, show callG (uX σ (aU (uA σ))) (uA σ) f j x = x from if_pos e]
        exact ih (j + 1) m R1 S1 x (by omega) (by omega) I1
      · rw [if_neg e, show callG (uX σ (aU (uA σ))) (uA σ) f j x = (nI j, cnt (Aft (uX σ (aU (uA σ))) (-1) j (uA σ)) f) from if_neg e]
        exact ih (j + 1) m R1 S1 (nI j, cnt (Aft (uX σ (aU (uA σ))) (-1) j (uA σ)) f) (by omega) (by omega) I1
  unfold F_X6_call s_call
  rw [F_inN f 2 rfl, F_inN n 40 rfl, F_inN what 1 rfl]
  simp only [Option.bind_some, zb_if]
  by_cases h1 : ix f 3 = true
  · rw [if_pos h1, if_pos h1]
    by_cases h2 : ix n 41 = true
    · rw [if_pos h2, if_pos h2]
      by_cases h3 : ix what 2 = true
      · rw [if_pos h3, if_pos h3]
        obtain ⟨k, hk, rfl⟩ := ix_of h2 (by decide)
        rw [nI_clamp (by omega)]
        obtain ⟨R', S', a, b⟩ := go k (by omega) (k + 1) 0 FU R S (0, -1) (by omega) (by unfold FU; omega) h
        have e0 : fo (callG (uX σ (aU (uA σ))) (uA σ) f) (k + 1) 0 (0, -1) = fo (callG (uX σ (aU (uA σ))) (uA σ) f) k 1 (0, cnt (uA σ) f) := by
          show fo (callG (uX σ (aU (uA σ))) (uA σ) f) k 1 (callG (uX σ (aU (uA σ))) (uA σ) f 0 (0, -1)) = _
          congr 1
          obtain ⟨c, hc, ec⟩ := cnt_nn (uA σ) f hP
          unfold callG
          rw [show Aft (uX σ (aU (uA σ))) (-1) 0 (uA σ) = uA σ from rfl, ec, if_neg (show ¬ nI c ≤ (-1 : Int32) by rw [i_le, nI_toInt (by omega), show (-1 : Int32).toInt = -1 from rfl]; omega)]; rfl
        rw [e0] at a
        exact ⟨R', S', a, b⟩
      · rw [if_neg h3, if_neg h3]; exact ⟨R, S, rfl, h⟩
    · rw [if_neg h2, if_neg h2]; exact ⟨R, S, rfl, h⟩
  · rw [if_neg h1, if_neg h1]; exact ⟨R, S, rfl, h⟩
def meetG (C : Cd) (A : Af) (p o : Nat) : Nat → Nat → Int32
  | 0, _ => -1
  | d + 1, k => if (aQ (Aft C (-1) k A) p).2.2.1 = (aQ (Aft C (-1) k A) o).2.2.1 then nI k else meetG C A p o d (k + 1)
def s_meet (C : Cd) (A : Af) (one other : Int32) : Int32 := if ix one (aP A) = true then (if ix other (aP A) = true then (if one = other then -2 else meetG C A one.toNatClampNeg other.toNatClampNeg 61 0) else -2) else -2
theorem X_meet {E : Ev} {M : Mi} {L : Ml} {σ : Sg} (hS : WS σ) (h : XI E M L σ) (one other : Int32) : ∃ M' L', F_X5_meet E M L one other = some (s_meet (uX σ (aU (uA σ))) (uA σ) one other, M', L') ∧ XI E M' L' σ := by
  have hP := hS.1.1
  have go : ∀ p, p < aP (uA σ) → ∀ o, o < aP (uA σ) → ∀ d j m M L, j + d = 61 → d < m → XI E M L σ → XFl 6 M L (Aft (uX σ (aU (uA σ))) (-1) j (uA σ)) → ∃ M' L', F_X5_meet_k37 E m M L (nI p) (nI o) (nI j) = some (meetG (uX σ (aU (uA σ))) (uA σ) p o d j, M', L') ∧ XI E M' L' σ := by
    intro p hp o ho d
    induction d with
    | zero =>
      intro j m M L hj hm hX hF
      obtain ⟨m, rfl⟩ : ∃ q, m = q + 1 := ⟨m - 1, by omega⟩
      rw [F_X5_meet_k37, if_pos (show (60 : Int32) < nI j from nI_lt (a := 60) (by omega) (by omega))]
      exact ⟨M, L, rfl, hX⟩
    | succ d ih =>
      intro j m M L hj hm hX hF
      obtain ⟨m, rfl⟩ : ∃ q, m = q + 1 := ⟨m - 1, by omega⟩
      have hwj := wfA_Aft (C := uX σ (aU (uA σ))) (s := -1) hS.1 j
      obtain ⟨M1, x1, b1, b2, b3, b4⟩ := X_thinkPass (b := 6) (by decide) hwj hX hF (n := 1) (by decide) (-1)
      replace b1 : F_X1_passMinutes E 6 M L 1 (-1) = some (x1, M1, L) := b1
      replace b2 : XFl 6 M1 L (Aft (uX σ (aU (uA σ))) (-1) (j + 1) (uA σ)) := b2
      have gp := (hF.2.2.2.2.2 p hp).2.2.1
      have go := (hF.2.2.2.2.2 o ho).2.2.1
      rw [F_X5_meet_k37, if_neg (show ¬ (60 : Int32) < nI j from nI_nlt (a := 60) (by omega) (by decide)), if_pos (ix_nI (by omega) (by decide)), if_pos (ix_nI (by omega) (by decide)), nI_clamp (show p < 2 ^ 31 by omega), nI_clamp (show o < 2 ^ 31 by omega), gp, go, b1]
      simp only [Option.bind_some]
      rw [nI_1]
      unfold meetG
      by_cases e : (aQ (Aft (uX σ (aU (uA σ))) (-1) j (uA σ)) p).2.2.1 = (aQ (Aft (uX σ (aU (uA σ))) (-1) j (uA σ)) o).2.2.1
      · rw [if_pos e, if_pos e]; exact ⟨M, L, rfl, hX⟩
      · rw [if_neg e, if_neg e]; exact ih (j + 1) m M1 L (by omega) (by omega) b3 b2
  unfold F_X5_meet s_meet
  rw [X_isParty h.1.2.2.2.1 hP, X_isParty h.1.2.2.2.1 hP]
  simp only [Option.bind_some, zb_if]
  by_cases h1 : ix one (aP (uA σ)) = true
  · rw [if_pos h1, if_pos h1]
    by_cases h2 : ix other (aP (uA σ)) = true
    · rw [if_pos h2, if_pos h2]
      by_cases h3 : one = other
      · rw [if_pos h3, if_pos h3]; exact ⟨M, L, rfl, h⟩
      · rw [if_neg h3, if_neg h3]
        obtain ⟨p, hp, rfl⟩ := ix_of h1 (by omega)
        obtain ⟨o, ho, rfl⟩ := ix_of h2 (by omega)
        obtain ⟨M1, L1, a1, a2, a3, a4, a5⟩ := X_think (b := 6) (by decide) hS h
        rw [a1, nI_clamp (show p < 2 ^ 31 by omega), nI_clamp (show o < 2 ^ 31 by omega)]; simp only [Option.bind_some]
        exact go p hp o ho 61 0 FU M1 L1 (by omega) (by unfold FU; omega) a3 a2
    · rw [if_neg h2, if_neg h2]; exact ⟨M, L, rfl, h⟩
  · rw [if_neg h1, if_neg h1]; exact ⟨M, L, rfl, h⟩
theorem Y_areTwo {R : Mi} {S : Ml} {P : Nat} (h11 : R 0 11 = nI P) (hP : P ≤ 5) (a b : Int32) : F_X6_areTwo R S a b = some (zb (ix a P && (ix b P && !decide (a = b)))) := by
  unfold F_X6_areTwo
  rw [Y_isOne h11 hP, Y_isOne h11 hP]
  simp only [Option.bind_some, zb_if]
  by_cases e : a = b
  · rw [if_pos e, decide_eq_true e]; cases ix a P <;> cases ix b P <;> rfl
  · rw [if_neg e, decide_eq_false e]; cases ix a P <;> cases ix b P <;> rfl
theorem Y_meet {R : Mi} {S : Ml} {σ : Sg} (hS : WS σ) (h : YI R S σ) (one other : Int32) : ∃ R' S', F_X6_meet R S one other = some (s_meet (uX σ (aU (uA σ))) (uA σ) one other, R', S') ∧ YI R' S' σ := by
  have hP := hS.1.1
  have hm := hS.2.1
  have go : ∀ p, p < aP (uA σ) → ∀ o, o < aP (uA σ) → ∀ R0 S0, YT R0 (uT σ) (uX σ) → YW R0 (uA σ) → R0 0 12 = -1 → ∀ d j m R S, j + d = 61 → d < m → KY R0 R S0 S → YFl R S (Aft (uX σ (aU (uA σ))) (-1) j (uA σ)) → ∃ R1 R' S', F_X6_meet_k18 m R S (nI p) (nI o) (nI j) = some (meetG (uX σ (aU (uA σ))) (uA σ) p o d j, R', S') ∧ KY R0 R1 S0 S' ∧ YFl R' S' (uA σ) ∧ (∀ k, k ≠ 0 → k ≠ 4 → R' k = R1 k) ∧ ∀ j, j ≠ 7 → R' 0 j = R1 0 j := by
    intro p hp o ho R0 S0 hT hW h12 d
    induction d with
    | zero =>
      intro j m R S hj hm hX hF
      obtain ⟨m, rfl⟩ : ∃ q, m = q + 1 := ⟨m - 1, by omega⟩
      obtain ⟨R3, c1, c2, c3, c4⟩ := Y_lback hP (hW.ky hX) hF rfl rfl rfl rfl
      rw [F_X6_meet_k18, if_pos (show (60 : Int32) < nI j from nI_lt (a := 60) (by omega) (by omega))]
      unfold F_X6_meet_k48
      rw [c1, Option.bind_some, if_neg (show ¬ nI j ≤ 60 from nI_ge (a := 60) (by omega) (by omega))]
      exact ⟨R, R3, S, rfl, hX, c2, c3, c4⟩
    | succ d ih =>
      intro j m R S hj hm hX hF
      obtain ⟨m, rfl⟩ : ∃ q, m = q + 1 := ⟨m - 1, by omega⟩
      have hwj := wfA_Aft (C := uX σ (aU (uA σ))) (s := -1) hS.1 j
      obtain ⟨R1, S1, b1, b2, b3⟩ := Y_passes (S := S) hwj (by show aM (uA σ) + j < 2 ^ 30; omega) (hX.yt hT) hF
      have r12 : R 0 12 = -1 := (hX.2.1 12 (by decide) (by decide)).trans h12
      rw [r12] at b1 b2
      replace b2 : YFl R1 S1 (Aft (uX σ (aU (uA σ))) (-1) (j + 1) (uA σ)) := b2
      rw [F_X6_meet_k18, if_neg (show ¬ (60 : Int32) < nI j from nI_nlt (a := 60) (by omega) (by decide)), Y_on hwj hF hp S, Y_on hwj hF ho S, b1]
      simp only [Option.bind_some]
      rw [nI_1]
      unfold meetG
      by_cases e : (aQ (Aft (uX σ (aU (uA σ))) (-1) j (uA σ)) p).2.2.1 = (aQ (Aft (uX σ (aU (uA σ))) (-1) j (uA σ)) o).2.2.1
      · rw [if_pos e, if_pos e]
        obtain ⟨R3, c1, c2, c3, c4⟩ := Y_lback hP (hW.ky hX) hF rfl rfl rfl rfl
        unfold F_X6_meet_k48
        rw [c1, Option.bind_some, if_pos (show nI j ≤ 60 from nI_le (b := 60) (by omega) (by decide))]
        exact ⟨R, R3, S, rfl, hX, c2, c3, c4⟩
      · rw [if_neg e, if_neg e]; exact ih (j + 1) m R1 S1 (by omega) (by omega) (hX.trans b3) b2
  unfold F_X6_meet s_meet
  rw [Y_areTwo h.1.2.2.2.1 hP, Option.bind_some, zb_if]
  by_cases h1 : ix one (aP (uA σ)) = true
  · rw [if_pos h1, h1]
    by_cases h2 : ix other (aP (uA σ)) = true
    · rw [if_pos h2, h2]
      by_cases h3 : one = other
      · rw [if_pos h3, decide_eq_true h3]; exact ⟨R, S, rfl, h⟩
      · rw [if_neg h3, decide_eq_false h3, if_pos (by decide)]
        obtain ⟨p, hp, rfl⟩ := ix_of h1 (by omega)
        obtain ⟨o, ho, rfl⟩ := ix_of h2 (by omega)
        obtain ⟨R1, a1, a2, a3⟩ := Y_aside hP h.1
        obtain ⟨R2, R3, S3, b1, b2, b3, b4, b5⟩ := go p hp o ho R1 S (h.2.2.1.off5 a3) a2 (by rw [a3 0 (by decide)]; exact h.2.2.2.2.2) 61 0 FU R1 S (by omega) (by unfold FU; omega) (KY.rfl' _ _) (h.1.off5 a3)
        rw [a1, nI_clamp (show p < 2 ^ 31 by omega), nI_clamp (show o < 2 ^ 31 by omega)]; simp only [Option.bind_some]
        exact ⟨R3, S3, b1, h.kt b3 (KT_of a3 b2 b4 b5 b3.2.2.1 h.1.2.2.1)⟩
    · rw [if_neg h2]; rw [Bool.not_eq_true] at h2; rw [h2]; exact ⟨R, S, rfl, h⟩
  · rw [if_neg h1]; rw [Bool.not_eq_true] at h1; rw [h1]; exact ⟨R, S, rfl, h⟩
