/-! PURE: set -/
def setb (x : Int64) (c v : Int32) : Int64 := if v = 1 then x ||| lshl 1 c else x &&& (lshl 1 c ^^^ -1)
theorem lshl0 : ∀ c, c < 64 → lshl (0 : Int64) (nI c) = 0 := by decide
theorem ones64 : ∀ i, i < 64 → (-1 : Int64).toBitVec.getLsbD i = true := by decide
theorem or_bit (x b : Int64) : (x &&& (b ^^^ -1)) ||| b = x ||| b := by
  rw [← Int64.toBitVec_inj, BitVec.eq_of_getLsbD_eq_iff]
  intro i hi
  simp only [Int64.toBitVec_or, Int64.toBitVec_and, Int64.toBitVec_xor, BitVec.getLsbD_or, BitVec.getLsbD_and, BitVec.getLsbD_xor]
  rw [ones64 i hi]
  cases x.toBitVec.getLsbD i <;> cases b.toBitVec.getLsbD i <;> rfl
theorem or_0 (x : Int64) : x ||| 0 = x := by
  rw [← Int64.toBitVec_inj, BitVec.eq_of_getLsbD_eq_iff]
  intro i hi
  simp
def okS (A : Af) (what of v : Int32) : Bool := if what = 0 then ix v 1000 else if what = 1 then ix of 64 && ix v 2 else if what = 2 then ix of 64 && (ix v 2 && decide (who A of = 0)) else if what = 3 then ix of (aP A) && ix v 10 else if what = 4 then ix of (aP A) && (ix v 64 && !tb (aH A) v) else if what = 5 then ix of (aP A) && ix v 100 else false
def stA (A : Af) (what of v : Int32) : Af := if what = 0 then (aR A, aH A, v.toNatClampNeg, aP A, aU A, aQ A) else if what = 1 then (setb (aR A) of v, aH A, aM A, aP A, aU A, aQ A) else if what = 2 then (aR A, setb (aH A) of v, aM A, aP A, aU A, aQ A) else aSet A of.toNatClampNeg what.toNatClampNeg v
def s_set (σ : Sg) (what of v : Int32) : Int32 × Sg := if okS (uA σ) what of v = true then (tld (uX σ (aU (uA σ))) (uA σ) of what, (stA (uA σ) what of v, σ.2)) else (-2, σ)
theorem X_canSet {M : Mi} {L : Ml} {A : Af} {T : Nat} (hw : wfA T A) (hF : XFl 1 M L A) (what of v : Int32) : F_X5_canSet M L what of v = some (zb (okS A what of v)) := by
  have hP := hw.1
  have w1 : F_X5_isWithin v 1 = some (zb (ix v 2)) := F_isWithinN v (m := 1) (by decide)
  have w9 : F_X5_isWithin v 9 = some (zb (ix v 10)) := F_isWithinN v (m := 9) (by decide)
  have w99 : F_X5_isWithin v 99 = some (zb (ix v 100)) := F_isWithinN v (m := 99) (by decide)
  have w999 : F_X5_isWithin v 999 = some (zb (ix v 1000)) := F_isWithinN v (m := 999) (by decide)
  unfold F_X5_canSet okS
  simp only [w1, w9, w99, w999, F_isTileX, X_isParty hF.2.2.2.1 hP, X_who hw hF, Option.bind_some, zb_if, rz_zb]
  by_cases h0 : what = 0
  · rw [if_pos h0, if_pos h0]
  rw [if_neg h0, if_neg h0]
  by_cases h1 : what = 1
  · rw [if_pos h1, if_pos h1]; cases ix of 64 <;> cases ix v 2 <;> rfl
  rw [if_neg h1, if_neg h1]
  by_cases h2 : what = 2
  · rw [if_pos h2, if_pos h2]
    by_cases e : who A of = 0
    · rw [if_pos e, decide_eq_true e]; cases ix of 64 <;> cases ix v 2 <;> rfl
    · rw [if_neg e, decide_eq_false e]; cases ix of 64 <;> cases ix v 2 <;> rfl
  rw [if_neg h2, if_neg h2]
  by_cases h3 : what = 3
  · rw [if_pos h3, if_pos h3]; cases ix of (aP A) <;> cases ix v 10 <;> rfl
  rw [if_neg h3, if_neg h3]
  by_cases h4 : what = 4
  · rw [if_pos h4, if_pos h4]
    by_cases hv : ix v 64 = true
    · obtain ⟨c, hc, rfl⟩ := ix_of hv (by decide)
      rw [F_isHollowX 1 M L hc, hF.2.1, hv]
      cases ix of (aP A) <;> cases tb (aH A) (nI c) <;> rfl
    · rw [if_neg hv]; rw [Bool.not_eq_true] at hv; rw [hv]; cases ix of (aP A) <;> rfl
  rw [if_neg h4, if_neg h4]
  by_cases h5 : what = 5
  · rw [if_pos h5, if_pos h5]; cases ix of (aP A) <;> cases ix v 100 <;> rfl
  rw [if_neg h5, if_neg h5]; rfl
theorem okS_3 {A : Af} {of v : Int32} (h : okS A 3 of v = true) : ix of (aP A) = true ∧ ix v 10 = true := by
  unfold okS at h; simpa using h
theorem okS_4 {A : Af} {of v : Int32} (h : okS A 4 of v = true) : ix of (aP A) = true ∧ ix v 64 = true ∧ tb (aH A) v = false := by
  unfold okS at h; simpa using h
theorem okS_5 {A : Af} {of v : Int32} (h : okS A 5 of v = true) : ix of (aP A) = true ∧ ix v 100 = true := by
  unfold okS at h; simpa using h
theorem okS_0 {A : Af} {of v : Int32} (h : okS A 0 of v = true) : ix v 1000 = true := by
  unfold okS at h; simpa using h
theorem okS_1 {A : Af} {of v : Int32} (h : okS A 1 of v = true) : ix of 64 = true ∧ ix v 2 = true := by
  unfold okS at h; simpa using h
theorem okS_2 {A : Af} {of v : Int32} (h : okS A 2 of v = true) : ix of 64 = true ∧ ix v 2 = true ∧ who A of = 0 := by
  unfold okS at h; simpa using h
theorem okS_w {A : Af} {what of v : Int32} (h : okS A what of v = true) : what = 0 ∨ what = 1 ∨ what = 2 ∨ what = 3 ∨ what = 4 ∨ what = 5 := by
  unfold okS at h
  by_cases h0 : what = 0
  · exact Or.inl h0
  by_cases h1 : what = 1
  · exact Or.inr (Or.inl h1)
  by_cases h2 : what = 2
  · exact Or.inr (Or.inr (Or.inl h2))
  by_cases h3 : what = 3
  · exact Or.inr (Or.inr (Or.inr (Or.inl h3)))
  by_cases h4 : what = 4
  · exact Or.inr (Or.inr (Or.inr (Or.inr (Or.inl h4))))
  by_cases h5 : what = 5
  · exact Or.inr (Or.inr (Or.inr (Or.inr (Or.inr h5))))
  rw [if_neg h0, if_neg h1, if_neg h2, if_neg h3, if_neg h4, if_neg h5] at h; cases h
theorem stA_0 (A : Af) (of v : Int32) : stA A 0 of v = (aR A, aH A, v.toNatClampNeg, aP A, aU A, aQ A) := by unfold stA; rw [if_pos rfl]
theorem stA_1 (A : Af) (of v : Int32) : stA A 1 of v = (setb (aR A) of v, aH A, aM A, aP A, aU A, aQ A) := by unfold stA; rw [if_neg (by decide), if_pos rfl]
theorem stA_2 (A : Af) (of v : Int32) : stA A 2 of v = (aR A, setb (aH A) of v, aM A, aP A, aU A, aQ A) := by unfold stA; rw [if_neg (by decide), if_neg (by decide), if_pos rfl]
theorem stA_3 (A : Af) (of v : Int32) : stA A 3 of v = aSet A of.toNatClampNeg 3 v := by unfold stA; rw [if_neg (by decide), if_neg (by decide), if_neg (by decide)]; rfl
theorem stA_4 (A : Af) (of v : Int32) : stA A 4 of v = aSet A of.toNatClampNeg 4 v := by unfold stA; rw [if_neg (by decide), if_neg (by decide), if_neg (by decide)]; rfl
theorem stA_5 (A : Af) (of v : Int32) : stA A 5 of v = aSet A of.toNatClampNeg 5 v := by unfold stA; rw [if_neg (by decide), if_neg (by decide), if_neg (by decide)]; rfl
theorem ix_self {x : Int32} {n : Nat} (h : ix x n = true) (hn : n < 2 ^ 31) : x = nI x.toNatClampNeg ∧ x.toNatClampNeg < n := by
  obtain ⟨p, hp, rfl⟩ := ix_of h hn
  rw [nI_clamp (by omega)]; exact ⟨rfl, hp⟩
theorem W_set {σ : Sg} (hS : WS σ) (what of v : Int32) : WS (s_set σ what of v).2 := by
  unfold s_set
  by_cases ok : okS (uA σ) what of v = true
  · rw [if_pos ok]
    refine ⟨?_, ?_, hS.2.2⟩
    · show wfA (uT σ) (stA (uA σ) what of v)
      rcases okS_w ok with rfl | rfl | rfl | rfl | rfl | rfl
      · rw [stA_0]; exact hS.1
      · rw [stA_1]; exact hS.1
      · rw [stA_2]; exact hS.1
      · rw [stA_3]; exact wfA_set hS.1 (fun q => ⟨q.1, (okS_3 ok).2, q.2.2.1, q.2.2.2⟩)
      · rw [stA_4]; exact wfA_set hS.1 (fun q => ⟨q.1, q.2.1, (okS_4 ok).2.1, q.2.2.2⟩)
      · rw [stA_5]; exact wfA_set hS.1 (fun q => ⟨q.1, q.2.1, q.2.2.1, (okS_5 ok).2⟩)
    · show aM (stA (uA σ) what of v) ≤ 999
      rcases okS_w ok with rfl | rfl | rfl | rfl | rfl | rfl
      · rw [stA_0]; have := (ix_self (okS_0 ok) (by decide)).2; show v.toNatClampNeg ≤ 999; omega
      · rw [stA_1]; exact hS.2.1
      · rw [stA_2]; exact hS.2.1
      · rw [stA_3]; exact hS.2.1
      · rw [stA_4]; exact hS.2.1
      · rw [stA_5]; exact hS.2.1
  · rw [if_neg ok]; exact hS
theorem rwX_le {w : Nat} (hw : w = 3 ∨ w = 4 ∨ w = 5 ∨ w = 6) : 1 ≤ rwX w ∧ rwX w ≤ 4 := by rcases hw with rfl | rfl | rfl | rfl <;> decide
theorem X_set {E : Ev} {M : Mi} {L : Ml} {σ : Sg} (hS : WS σ) (h : XI E M L σ) (what of v : Int32) : ∃ M' L', F_X5_set E M L what of v = some ((s_set σ what of v).1, M', L') ∧ XI E M' L' (s_set σ what of v).2 := by
  have hP := hS.1.1
  obtain ⟨M1, t1, t2⟩ := X_told hS.1 h.2.2.1 h.1 of what
  have I1 : XI E M1 L σ := h.keep (fun k a _ => t2 k a) (fun _ _ => rfl)
  unfold F_X5_set s_set
  rw [X_canSet hS.1 h.1, Option.bind_some, zb_if, t1]
  by_cases ok : okS (uA σ) what of v = true
  · rw [if_pos ok, if_pos ok]
    simp only [Option.bind_some]
    obtain ⟨f0, f1, f2, f3, f4, f5⟩ := I1.1
    have put : ∀ w p, (w = 3 ∨ w = 4 ∨ w = 5 ∨ w = 6) → XI E (up2 M1 (1 + rwX w) p v) L (aSet (uA σ) p w v, σ.2) := fun w p hw =>
      I1.now (XFl_set I1.1 hw) (fun k _ hk => up2_ne (by have := rwX_le hw; omega)) (fun _ _ => rfl)
    rcases okS_w ok with rfl | rfl | rfl | rfl | rfl | rfl
    · rw [if_pos rfl, stA_0]
      refine ⟨up2 M1 1 2 v, L, rfl, I1.now ⟨f0, f1, ?_, ?_, ?_, fun p hp => ?_⟩ (fun k _ hk => up2_ne (by omega)) (fun _ _ => rfl)⟩
      · rw [up2_at]; exact (ix_self (okS_0 ok) (by decide)).1
      · rw [up2_b (by decide)]; exact f3
      · rw [up2_b (by decide)]; exact f4
      · have g := f5 p hp
        exact ⟨by rw [up2_a (by decide)]; exact g.1, by rw [up2_a (by decide)]; exact g.2.1, by rw [up2_a (by decide)]; exact g.2.2.1, by rw [up2_a (by decide)]; exact g.2.2.2⟩
    · rw [if_neg (show ¬ (1 : Int32) = 0 by decide), if_pos rfl, stA_1]
      unfold F_X5_set_k107
      refine ⟨M1, up2 L 1 0 (setb (aR (uA σ)) of v), ?_, I1.now ⟨up2_at _ _ _ _, (up2_b (by decide)).trans f1, f2, f3, f4, f5⟩ (fun _ _ _ => rfl) (fun k hk => up2_ne (by omega))⟩
      rw [f0]; unfold setb
      by_cases e : v = 1
      · rw [if_pos e, if_pos e]
      · rw [if_neg e, if_neg e]
    · rw [if_neg (show ¬ (2 : Int32) = 0 by decide), if_neg (show ¬ (2 : Int32) = 1 by decide), if_pos rfl, stA_2]
      unfold F_X5_set_k149
      refine ⟨M1, up2 L 1 1 (setb (aH (uA σ)) of v), ?_, I1.now ⟨(up2_b (by decide)).trans f0, up2_at _ _ _ _, f2, f3, f4, f5⟩ (fun _ _ _ => rfl) (fun k hk => up2_ne (by omega))⟩
      rw [f1]; unfold setb
      by_cases e : v = 1
      · rw [if_pos e, if_pos e]
      · rw [if_neg e, if_neg e]
    · obtain ⟨p, hp, rfl⟩ := ix_of (okS_3 ok).1 (by omega)
      rw [if_neg (show ¬ (3 : Int32) = 0 by decide), if_neg (show ¬ (3 : Int32) = 1 by decide), if_neg (show ¬ (3 : Int32) = 2 by decide), if_pos rfl, if_pos (ix_nI (by omega) (by decide)), stA_3, nI_clamp (by omega)]
      exact ⟨_, L, rfl, put 3 p (by decide)⟩
    · obtain ⟨p, hp, rfl⟩ := ix_of (okS_4 ok).1 (by omega)
      rw [if_neg (show ¬ (4 : Int32) = 0 by decide), if_neg (show ¬ (4 : Int32) = 1 by decide), if_neg (show ¬ (4 : Int32) = 2 by decide), if_neg (show ¬ (4 : Int32) = 3 by decide), if_pos rfl, if_pos (ix_nI (by omega) (by decide)), stA_4, nI_clamp (by omega)]
      exact ⟨_, L, rfl, put 4 p (by decide)⟩
    · obtain ⟨p, hp, rfl⟩ := ix_of (okS_5 ok).1 (by omega)
      rw [if_neg (show ¬ (5 : Int32) = 0 by decide), if_neg (show ¬ (5 : Int32) = 1 by decide), if_neg (show ¬ (5 : Int32) = 2 by decide), if_neg (show ¬ (5 : Int32) = 3 by decide), if_neg (show ¬ (5 : Int32) = 4 by decide), if_pos (ix_nI (by omega) (by decide)), stA_5, nI_clamp (by omega)]
      exact ⟨_, L, rfl, put 5 p (by decide)⟩
  · rw [if_neg ok, if_neg ok]; exact ⟨M, L, rfl, h⟩
theorem Y_set_0 {R : Mi} {S : Ml} {T : Nat} {A : Af} (hw : wfA T A) (hF : YFl R S A) (of v : Int32) : F_X6_set R S (nI 0) of v = if okS A (nI 0) of v = true then F_X6_set_k70 R S (nI 0) of v else some (-2, R, S) := by
  have hP := hw.1
  have w1 : F_X6_in v.toInt64 0 (Int32.toInt64 999) = some (zb (ix v 1000)) := F_inN v 999 (by decide)
  unfold F_X6_set F_X6_isOf F_X6_mostOf F_X6_set_k51 okS
  rw [F_inN (nI 0) 5 rfl, Option.bind_some, zb_if, if_pos (ix_nI (show 0 < 6 by decide) (by decide))]
  simp only [if_pos (show nI 0 = 0 by decide), if_pos (show nI 0 < 3 by decide), if_neg (show ¬ (nI 0 = 11) by decide), if_neg (show ¬ ((3 : Int32) ≤ nI 0) by decide), if_neg (show ¬ (nI 0 = 1) by decide), if_neg (show ¬ (nI 0 = 2) by decide), if_neg (show ¬ (nI 0 = 3) by decide), if_neg (show ¬ (nI 0 = 4) by decide), if_neg (show ¬ (nI 0 = 5) by decide)]
  unfold F_X6_isOf_k33
  rw [rz_1]
  simp only [Option.bind_some, zb_if, w1, if_true]
theorem Y_set_1 {R : Mi} {S : Ml} {T : Nat} {A : Af} (hw : wfA T A) (hF : YFl R S A) (of v : Int32) : F_X6_set R S (nI 1) of v = if okS A (nI 1) of v = true then F_X6_set_k70 R S (nI 1) of v else some (-2, R, S) := by
  have hP := hw.1
  have w1 : F_X6_in v.toInt64 0 (Int32.toInt64 1) = some (zb (ix v 2)) := F_inN v 1 (by decide)
  unfold F_X6_set F_X6_isOf F_X6_mostOf F_X6_set_k51 okS
  rw [F_inN (nI 1) 5 rfl, Option.bind_some, zb_if, if_pos (ix_nI (show 1 < 6 by decide) (by decide))]
  simp only [if_neg (show ¬ (nI 1 = 0) by decide), if_pos (show nI 1 < 3 by decide), if_neg (show ¬ (nI 1 = 11) by decide), if_neg (show ¬ ((3 : Int32) ≤ nI 1) by decide), if_pos (show nI 1 = 1 by decide), if_neg (show ¬ (nI 1 = 2) by decide), if_neg (show ¬ (nI 1 = 3) by decide), if_neg (show ¬ (nI 1 = 4) by decide), if_neg (show ¬ (nI 1 = 5) by decide)]
  rw [isOf_tile]
  simp only [Option.bind_some, zb_if, w1]
  cases ix of 64 <;> cases ix v 2 <;> rfl
theorem Y_set_2 {R : Mi} {S : Ml} {T : Nat} {A : Af} (hw : wfA T A) (hF : YFl R S A) (of v : Int32) : F_X6_set R S (nI 2) of v = if okS A (nI 2) of v = true then F_X6_set_k70 R S (nI 2) of v else some (-2, R, S) := by
  have hP := hw.1
  have w1 : F_X6_in v.toInt64 0 (Int32.toInt64 1) = some (zb (ix v 2)) := F_inN v 1 (by decide)
  unfold F_X6_set F_X6_isOf F_X6_mostOf F_X6_set_k51 okS
  rw [F_inN (nI 2) 5 rfl, Option.bind_some, zb_if, if_pos (ix_nI (show 2 < 6 by decide) (by decide))]
  simp only [if_neg (show ¬ (nI 2 = 0) by decide), if_pos (show nI 2 < 3 by decide), if_neg (show ¬ (nI 2 = 11) by decide), if_neg (show ¬ ((3 : Int32) ≤ nI 2) by decide), if_neg (show ¬ (nI 2 = 1) by decide), if_pos (show nI 2 = 2 by decide), if_neg (show ¬ (nI 2 = 3) by decide), if_neg (show ¬ (nI 2 = 4) by decide), if_neg (show ¬ (nI 2 = 5) by decide)]
  rw [isOf_tile]
  simp only [Option.bind_some, zb_if, w1, Y_who hw hF]
  by_cases e : who A of = 0
  · rw [if_pos e, decide_eq_true e]; cases ix of 64 <;> cases ix v 2 <;> rfl
  · rw [if_neg e, decide_eq_false e]; cases ix of 64 <;> cases ix v 2 <;> rfl
theorem Y_set_3 {R : Mi} {S : Ml} {T : Nat} {A : Af} (hw : wfA T A) (hF : YFl R S A) (of v : Int32) : F_X6_set R S (nI 3) of v = if okS A (nI 3) of v = true then F_X6_set_k70 R S (nI 3) of v else some (-2, R, S) := by
  have hP := hw.1
  have w1 : F_X6_in v.toInt64 0 (Int32.toInt64 9) = some (zb (ix v 10)) := F_inN v 9 (by decide)
  unfold F_X6_set F_X6_isOf F_X6_mostOf F_X6_set_k51 okS
  rw [F_inN (nI 3) 5 rfl, Option.bind_some, zb_if, if_pos (ix_nI (show 3 < 6 by decide) (by decide))]
  simp only [if_neg (show ¬ (nI 3 = 0) by decide), if_neg (show ¬ (nI 3 < 3) by decide), if_neg (show ¬ (nI 3 = 11) by decide), if_pos (show (3 : Int32) ≤ nI 3 by decide), if_neg (show ¬ (nI 3 = 1) by decide), if_neg (show ¬ (nI 3 = 2) by decide), if_pos (show nI 3 = 3 by decide), if_neg (show ¬ (nI 3 = 4) by decide), if_neg (show ¬ (nI 3 = 5) by decide)]
  rw [isOf_one hF.2.2.2.1 hP]
  simp only [Option.bind_some, zb_if, w1]
  cases ix of (aP A) <;> cases ix v 10 <;> rfl
theorem Y_set_4 {R : Mi} {S : Ml} {T : Nat} {A : Af} (hw : wfA T A) (hF : YFl R S A) (of v : Int32) : F_X6_set R S (nI 4) of v = if okS A (nI 4) of v = true then F_X6_set_k70 R S (nI 4) of v else some (-2, R, S) := by
  have hP := hw.1
  have w1 : F_X6_in v.toInt64 0 (Int32.toInt64 63) = some (zb (ix v 64)) := F_inN v 63 (by decide)
  unfold F_X6_set F_X6_isOf F_X6_mostOf F_X6_set_k51 okS
  rw [F_inN (nI 4) 5 rfl, Option.bind_some, zb_if, if_pos (ix_nI (show 4 < 6 by decide) (by decide))]
  simp only [if_neg (show ¬ (nI 4 = 0) by decide), if_neg (show ¬ (nI 4 < 3) by decide), if_neg (show ¬ (nI 4 = 11) by decide), if_pos (show (3 : Int32) ≤ nI 4 by decide), if_neg (show ¬ (nI 4 = 1) by decide), if_neg (show ¬ (nI 4 = 2) by decide), if_neg (show ¬ (nI 4 = 3) by decide), if_pos (show nI 4 = 4 by decide), if_neg (show ¬ (nI 4 = 5) by decide)]
  rw [isOf_one hF.2.2.2.1 hP]
  simp only [Option.bind_some, zb_if, w1]
  by_cases hv : ix v 64 = true
  · obtain ⟨c, hc, rfl⟩ := ix_of hv (by decide)
    rw [F_hasR _ hc, hF.2.1, hv]
    cases ix of (aP A) <;> cases tb (aH A) (nI c) <;> rfl
  · rw [if_neg hv]; rw [Bool.not_eq_true] at hv; rw [hv]; cases ix of (aP A) <;> rfl
theorem Y_set_5 {R : Mi} {S : Ml} {T : Nat} {A : Af} (hw : wfA T A) (hF : YFl R S A) (of v : Int32) : F_X6_set R S (nI 5) of v = if okS A (nI 5) of v = true then F_X6_set_k70 R S (nI 5) of v else some (-2, R, S) := by
  have hP := hw.1
  have w1 : F_X6_in v.toInt64 0 (Int32.toInt64 99) = some (zb (ix v 100)) := F_inN v 99 (by decide)
  unfold F_X6_set F_X6_isOf F_X6_mostOf F_X6_set_k51 okS
  rw [F_inN (nI 5) 5 rfl, Option.bind_some, zb_if, if_pos (ix_nI (show 5 < 6 by decide) (by decide))]
  simp only [if_neg (show ¬ (nI 5 = 0) by decide), if_neg (show ¬ (nI 5 < 3) by decide), if_neg (show ¬ (nI 5 = 11) by decide), if_pos (show (3 : Int32) ≤ nI 5 by decide), if_neg (show ¬ (nI 5 = 1) by decide), if_neg (show ¬ (nI 5 = 2) by decide), if_neg (show ¬ (nI 5 = 3) by decide), if_neg (show ¬ (nI 5 = 4) by decide), if_pos (show nI 5 = 5 by decide)]
  rw [isOf_one hF.2.2.2.1 hP]
  simp only [Option.bind_some, zb_if, w1]
  cases ix of (aP A) <;> cases ix v 100 <;> rfl
theorem YFl.rh {R R' : Mi} {S S' : Ml} {A : Af} (h : YFl R S A) (g : RH R R' S S') : YFl R' S' A := by
  unfold YFl YP at *
  rw [g.2.2.2 0 8 (Or.inr (by decide)), g.2.2.2 0 9 (Or.inr (by decide)), g.2.1 7 (by decide), g.2.1 11 (by decide), g.2.1 4 (by decide), g.1 4 (by decide)]; exact h
theorem YI.rh {R R' : Mi} {S S' : Ml} {σ : Sg} (h : YI R S σ) (g : RH R R' S S') : YI R' S' σ :=
  h.keep (fun k a _ => g.1 k a) (fun j hj => by rcases hj with q | q; exact g.2.1 j q; exact g.2.2.1 j (by omega)) (fun j hj => g.2.2.2 0 j (Or.inr hj))
theorem bits_set {x : Int64} {of v : Int32} (ho : ix of 64 = true) (hv : ix v 2 = true) : (x &&& (lshl 1 of ^^^ -1)) ||| lshl v.toInt64 of = setb x of v := by
  obtain ⟨c, hc, rfl⟩ := ix_of ho (by decide)
  obtain ⟨d, hd, rfl⟩ := ix_of hv (by decide)
  unfold setb
  rcases (show d = 0 ∨ d = 1 by omega) with rfl | rfl
  · rw [if_neg (show ¬ nI 0 = 1 by decide), show (nI 0).toInt64 = 0 from rfl, lshl0 c hc, or_0]
  · rw [if_pos (show nI 1 = 1 from rfl), show (nI 1).toInt64 = 1 from rfl, or_bit]
theorem Y_set {R : Mi} {S : Ml} {σ : Sg} (hS : WS σ) (h : YI R S σ) (what of v : Int32) : ∃ R' S', F_X6_set R S what of v = some ((s_set σ what of v).1, R', S') ∧ YI R' S' (s_set σ what of v).2 := by
  have hP := hS.1.1
  have key : F_X6_set R S what of v = if okS (uA σ) what of v = true then F_X6_set_k70 R S what of v else some (-2, R, S) := by
    by_cases hx : ix what 6 = true
    · obtain ⟨w, hw6, rfl⟩ := ix_of hx (by decide)
      rcases (show w = 0 ∨ w = 1 ∨ w = 2 ∨ w = 3 ∨ w = 4 ∨ w = 5 by omega) with rfl | rfl | rfl | rfl | rfl | rfl
      · exact Y_set_0 hS.1 h.1 of v
      · exact Y_set_1 hS.1 h.1 of v
      · exact Y_set_2 hS.1 h.1 of v
      · exact Y_set_3 hS.1 h.1 of v
      · exact Y_set_4 hS.1 h.1 of v
      · exact Y_set_5 hS.1 h.1 of v
    · have : ¬ okS (uA σ) what of v = true := fun q => by
        rcases okS_w q with rfl | rfl | rfl | rfl | rfl | rfl
        · exact hx (by decide)
        · exact hx (by decide)
        · exact hx (by decide)
        · exact hx (by decide)
        · exact hx (by decide)
        · exact hx (by decide)
      unfold F_X6_set
      rw [F_inN what 5 rfl, Option.bind_some, zb_if, if_neg hx, if_neg this]
  rw [key]
  unfold s_set
  by_cases ok : okS (uA σ) what of v = true
  · rw [if_pos ok, if_pos ok]
    obtain ⟨R1, S1, t1, t2⟩ := Y_told (S := S) hS.1 h.2.2.1 h.1 of what
    have I1 := h.rh t2
    unfold F_X6_set_k70 F_X6_lays
    rw [t1]
    simp only [Option.bind_some]
    obtain ⟨f0, f1, f2, f3, f4, f5⟩ := I1.1
    have put : ∀ w p, (w = 3 ∨ w = 4 ∨ w = 5 ∨ w = 6) → YI (up2 R1 4 (4 * p + w - 3) v) S1 (aSet (uA σ) p w v, σ.2) := fun w p hw =>
      I1.now (YFl_set I1.1 hw) (fun k _ hk _ => up2_ne hk) (fun j _ => up2_a (by decide)) (fun _ _ => rfl)
    rcases okS_w ok with rfl | rfl | rfl | rfl | rfl | rfl
    · rw [if_pos rfl, stA_0]
      refine ⟨up2 R1 0 7 v, S1, rfl, I1.now ⟨f0, f1, ?_, ?_, ?_, fun p hp => (f5 p hp).keep (up2_ne (by decide))⟩ (fun k hk _ _ => up2_ne hk) (fun j hj => up2_b (by omega)) (fun _ _ => rfl)⟩
      · rw [up2_at]; exact (ix_self (okS_0 ok) (by decide)).1
      · rw [up2_b (by decide)]; exact f3
      · rw [up2_b (by decide)]; exact f4
    · rw [if_neg (show ¬ (1 : Int32) = 0 by decide), if_pos rfl, stA_1, bits_set (okS_1 ok).1 (okS_1 ok).2]
      rw [f0]
      exact ⟨R1, up2 S1 0 8 (setb (aR (uA σ)) of v), rfl, I1.now ⟨up2_at _ _ _ _, (up2_b (show 9 ≠ 8 by decide)).trans f1, f2, f3, f4, f5⟩ (fun _ _ _ _ => rfl) (fun _ _ => rfl) (fun j hj => up2_b (by omega))⟩
    · rw [if_neg (show ¬ (2 : Int32) = 0 by decide), if_neg (show ¬ (2 : Int32) = 1 by decide), if_pos rfl, stA_2, bits_set (okS_2 ok).1 (okS_2 ok).2.1]
      rw [f1]
      exact ⟨R1, up2 S1 0 9 (setb (aH (uA σ)) of v), rfl, I1.now ⟨(up2_b (show 8 ≠ 9 by decide)).trans f0, up2_at _ _ _ _, f2, f3, f4, f5⟩ (fun _ _ _ _ => rfl) (fun _ _ => rfl) (fun j hj => up2_b (by omega))⟩
    · obtain ⟨p, hp, rfl⟩ := ix_of (okS_3 ok).1 (by omega)
      rw [if_neg (show ¬ (3 : Int32) = 0 by decide), if_neg (show ¬ (3 : Int32) = 1 by decide), if_neg (show ¬ (3 : Int32) = 2 by decide), if_neg (show ¬ (7 : Int32) ≤ 3 by decide), i4p, show nI (4 * p) + 3 - 3 = nI (4 * p + 3 - 3) from by rw [show nI (4 * p) + 3 = nI (4 * p + 3) from nI_add _ 3]; exact pk_sub (a := 4 * p + 3) (b := 3) (by omega), if_pos (ix_nI (by omega) (by decide)), stA_3, nI_clamp (show p < 2 ^ 31 by omega), nI_clamp (by omega)]
      exact ⟨_, S1, rfl, put 3 p (by decide)⟩
    · obtain ⟨p, hp, rfl⟩ := ix_of (okS_4 ok).1 (by omega)
      rw [if_neg (show ¬ (4 : Int32) = 0 by decide), if_neg (show ¬ (4 : Int32) = 1 by decide), if_neg (show ¬ (4 : Int32) = 2 by decide), if_neg (show ¬ (7 : Int32) ≤ 4 by decide), i4p, show nI (4 * p) + 4 - 3 = nI (4 * p + 4 - 3) from by rw [show nI (4 * p) + 4 = nI (4 * p + 4) from nI_add _ 4]; exact pk_sub (a := 4 * p + 4) (b := 3) (by omega), if_pos (ix_nI (by omega) (by decide)), stA_4, nI_clamp (show p < 2 ^ 31 by omega), nI_clamp (by omega)]
      exact ⟨_, S1, rfl, put 4 p (by decide)⟩
    · obtain ⟨p, hp, rfl⟩ := ix_of (okS_5 ok).1 (by omega)
      rw [if_neg (show ¬ (5 : Int32) = 0 by decide), if_neg (show ¬ (5 : Int32) = 1 by decide), if_neg (show ¬ (5 : Int32) = 2 by decide), if_neg (show ¬ (7 : Int32) ≤ 5 by decide), i4p, show nI (4 * p) + 5 - 3 = nI (4 * p + 5 - 3) from by rw [show nI (4 * p) + 5 = nI (4 * p + 5) from nI_add _ 5]; exact pk_sub (a := 4 * p + 5) (b := 3) (by omega), if_pos (ix_nI (by omega) (by decide)), stA_5, nI_clamp (show p < 2 ^ 31 by omega), nI_clamp (by omega)]
      exact ⟨_, S1, rfl, put 5 p (by decide)⟩
  · rw [if_neg ok, if_neg ok]; exact ⟨R, S, rfl, h⟩
