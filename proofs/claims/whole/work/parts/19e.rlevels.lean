/-! PURE: the reference's levels -/
def rK98 (M : Mi) (L : Ml) (x1 : Int32) : Option (Int32 × Mi × Ml) := (F_X6_fail M L).bind fun r => some (x1, r.1, r.2)
def rK64 (M : Mi) (L : Ml) (x1 : Int32) : Option (Int32 × Mi × Ml) := if M 0 26 = 0 then (if M 0 22 = (1 : Int32) then ((F_X6_name M L).bind fun r => if r.2.1 0 26 = 0 then ((F_X6_next r.2.1 r.2.2).bind fun r92 => some (r.1, r92.1, r92.2)) else some (r.1, r.2.1, r.2.2)) else rK98 M L x1) else rK98 M L x1
def rTail (M : Mi) (L : Ml) : Option (Int32 × Mi × Ml) := if M 0 26 = 0 then (if M 0 22 = (2 : Int32) then ((F_X6_next M L).bind fun r => some (Int64.toInt32 (L 0 24), r.1, r.2)) else rK64 M L 0) else rK64 M L 0
def rAtom0 (M : Mi) (L : Ml) : Option (Int32 × Mi × Ml) := (F_X6_isSign M L 45).bind fun v => if v = 0 then ((F_X6_isSign M L 40).bind fun v => if v = 0 then rTail M L else (F_X6_opens M L).bind fun r => some ((0 : Int32), r.2.1, r.2.2)) else (F_X6_opens M L).bind fun r => some ((0 : Int32), r.2.1, r.2.2)
def rK71 (M : Mi) (L : Ml) (x1 : Int32) : Option (Int32 × Mi × Ml) := if (up2 M 0 25 (M 0 25 - 1)) 0 26 = 0 then ((F_X6_next (up2 M 0 25 (M 0 25 - 1)) L).bind fun r => some (x1, r.1, r.2)) else some (x1, up2 M 0 25 (M 0 25 - 1), L)
def rAtom1 (atomN eitherN : Mi → Ml → Option (Int32 × Mi × Ml)) (M : Mi) (L : Ml) : Option (Int32 × Mi × Ml) := (F_X6_isSign M L 45).bind fun v => if v = 0 then ((F_X6_isSign M L 40).bind fun v => if v = 0 then rTail M L else (F_X6_opens M L).bind fun r => if r.1 = 0 then some ((0 : Int32), r.2.1, r.2.2) else
    (eitherN r.2.1 r.2.2).bind fun r54 => (F_X6_isSign r54.2.1 r54.2.2 41).bind fun v => if v = 0 then ((F_X6_fail r54.2.1 r54.2.2).bind fun r68 => rK71 r68.1 r68.2 r54.1) else rK71 r54.2.1 r54.2.2 r54.1) else
  (F_X6_opens M L).bind fun r => if r.1 = 0 then some ((0 : Int32), r.2.1, r.2.2) else (atomN r.2.1 r.2.2).bind fun r19 => some (-r19.1, up2 r19.2.1 0 25 (r19.2.1 0 25 - 1), r19.2.2)
def rCmp1 (added : Mi → Ml → Option (Int32 × Mi × Ml)) (M : Mi) (L : Ml) (x1 s0 : Int32) : Option (Int32 × Mi × Ml) := (F_X6_next M L).bind fun r95 => (added r95.1 r95.2).bind fun r99 =>
  if s0 = 0 then (if x1 = r99.1 then some ((1 : Int32), r99.2.1, r99.2.2) else some ((0 : Int32), r99.2.1, r99.2.2)) else if r99.1 ≤ x1 then some ((0 : Int32), r99.2.1, r99.2.2) else some ((1 : Int32), r99.2.1, r99.2.2)
def rCmp2 (added : Mi → Ml → Option (Int32 × Mi × Ml)) (M : Mi) (L : Ml) (x1 : Int32) : Option (Int32 × Mi × Ml) := if lg_cmp (L 0 24) (60 : Int64) = 0 then rCmp1 added M L x1 1 else rCmp1 added M L x1 0
def rCmp (added : Mi → Ml → Option (Int32 × Mi × Ml)) (M : Mi) (L : Ml) : Option (Int32 × Mi × Ml) := (added M L).bind fun r => (F_X6_isSign r.2.1 r.2.2 60).bind fun v => if v = 0 then ((F_X6_isSign r.2.1 r.2.2 61).bind fun v => if v = 0 then some (r.1, r.2.1, r.2.2) else rCmp2 added r.2.1 r.2.2 r.1) else rCmp2 added r.2.1 r.2.2 r.1
def rNot0 (added : Mi → Ml → Option (Int32 × Mi × Ml)) (M : Mi) (L : Ml) : Option (Int32 × Mi × Ml) := (F_X6_isWord M L 110 111 116 0 0 0 0 0).bind fun v => if v = 0 then rCmp added M L else (F_X6_opens M L).bind fun r => some ((0 : Int32), r.2.1, r.2.2)
def rNot1 (added notN : Mi → Ml → Option (Int32 × Mi × Ml)) (M : Mi) (L : Ml) : Option (Int32 × Mi × Ml) := (F_X6_isWord M L 110 111 116 0 0 0 0 0).bind fun v => if v = 0 then rCmp added M L else (F_X6_opens M L).bind fun r => if r.1 = 0 then some ((0 : Int32), r.2.1, r.2.2) else
  (notN r.2.1 r.2.2).bind fun r28 => if r28.1 = 0 then some ((1 : Int32), up2 r28.2.1 0 25 (r28.2.1 0 25 - 1), r28.2.2) else some ((0 : Int32), up2 r28.2.1 0 25 (r28.2.1 0 25 - 1), r28.2.2)
theorem W_weary {f : Nat → Int32} {n o p : Nat} {M : Mi} {L : Ml} (h : RS f n o p M L) : F_X6_isWord M L 119 101 97 114 121 0 0 0 = some (zb (decide (tc f n p = -1))) := F_isWordS h (w := 1) (by decide) (by decide)
theorem W_column {f : Nat → Int32} {n o p : Nat} {M : Mi} {L : Ml} (h : RS f n o p M L) : F_X6_isWord M L 99 111 108 117 109 110 0 0 = some (zb (decide (tc f n p = -2))) := F_isWordS h (w := 2) (by decide) (by decide)
theorem W_row {f : Nat → Int32} {n o p : Nat} {M : Mi} {L : Ml} (h : RS f n o p M L) : F_X6_isWord M L 114 111 119 0 0 0 0 0 = some (zb (decide (tc f n p = -3))) := F_isWordS h (w := 3) (by decide) (by decide)
theorem W_number {f : Nat → Int32} {n o p : Nat} {M : Mi} {L : Ml} (h : RS f n o p M L) : F_X6_isWord M L 110 117 109 98 101 114 0 0 = some (zb (decide (tc f n p = -4))) := F_isWordS h (w := 4) (by decide) (by decide)
theorem W_minute {f : Nat → Int32} {n o p : Nat} {M : Mi} {L : Ml} (h : RS f n o p M L) : F_X6_isWord M L 109 105 110 117 116 101 0 0 = some (zb (decide (tc f n p = -5))) := F_isWordS h (w := 5) (by decide) (by decide)
theorem W_worn {f : Nat → Int32} {n o p : Nat} {M : Mi} {L : Ml} (h : RS f n o p M L) : F_X6_isWord M L 119 111 114 110 0 0 0 0 = some (zb (decide (tc f n p = -6))) := F_isWordS h (w := 6) (by decide) (by decide)
theorem W_turns {f : Nat → Int32} {n o p : Nat} {M : Mi} {L : Ml} (h : RS f n o p M L) : F_X6_isWord M L 116 117 114 110 115 0 0 0 = some (zb (decide (tc f n p = 259))) := F_isWordS h (w := 7) (by decide) (by decide)
theorem W_tires {f : Nat → Int32} {n o p : Nat} {M : Mi} {L : Ml} (h : RS f n o p M L) : F_X6_isWord M L 116 105 114 101 115 0 0 0 = some (zb (decide (tc f n p = 260))) := F_isWordS h (w := 8) (by decide) (by decide)
theorem W_rests {f : Nat → Int32} {n o p : Nat} {M : Mi} {L : Ml} (h : RS f n o p M L) : F_X6_isWord M L 114 101 115 116 115 0 0 0 = some (zb (decide (tc f n p = 261))) := F_isWordS h (w := 9) (by decide) (by decide)
theorem W_or {f : Nat → Int32} {n o p : Nat} {M : Mi} {L : Ml} (h : RS f n o p M L) : F_X6_isWord M L 111 114 0 0 0 0 0 0 = some (zb (decide (tc f n p = 262))) := F_isWordS h (w := 10) (by decide) (by decide)
theorem W_and {f : Nat → Int32} {n o p : Nat} {M : Mi} {L : Ml} (h : RS f n o p M L) : F_X6_isWord M L 97 110 100 0 0 0 0 0 = some (zb (decide (tc f n p = 263))) := F_isWordS h (w := 11) (by decide) (by decide)
theorem W_not {f : Nat → Int32} {n o p : Nat} {M : Mi} {L : Ml} (h : RS f n o p M L) : F_X6_isWord M L 110 111 116 0 0 0 0 0 = some (zb (decide (tc f n p = 264))) := F_isWordS h (w := 12) (by decide) (by decide)
theorem R_name {f : Nat → Int32} {n o p : Nat} {M : Mi} {L : Ml} (h : RS f n o p M L) : F_X6_name M L = if tc f n p < 0 then some (nm M (tc f n p), M, L) else (F_X6_fail M L).bind fun r => some (0, r.1, r.2) := by
  unfold F_X6_name
  rw [W_weary h, W_column h, W_row h, W_number h, W_minute h, W_worn h]
  simp only [Option.bind_some, zb_if, decide_eq_true_eq]
  by_cases h1 : tc f n p = -1
  · rw [h1, if_pos rfl, if_pos (by decide)]; rfl
  rw [if_neg h1]
  by_cases h2 : tc f n p = -2
  · rw [h2, if_pos rfl, if_pos (by decide)]; rfl
  rw [if_neg h2]
  by_cases h3 : tc f n p = -3
  · rw [h3, if_pos rfl, if_pos (by decide)]; rfl
  rw [if_neg h3]
  by_cases h4 : tc f n p = -4
  · rw [h4, if_pos rfl, if_pos (by decide)]; rfl
  rw [if_neg h4]
  by_cases h5 : tc f n p = -5
  · rw [h5, if_pos rfl, if_pos (by decide)]; rfl
  rw [if_neg h5]
  by_cases h6 : tc f n p = -6
  · rw [h6, if_pos rfl, if_pos (by decide)]; rfl
  rw [if_neg h6, if_neg (fun hlt => by
    obtain ⟨w, hw, hw1, e⟩ := tc_neg hlt
    rcases (show w = 1 ∨ w = 2 ∨ w = 3 ∨ w = 4 ∨ w = 5 ∨ w = 6 by omega) with rfl | rfl | rfl | rfl | rfl | rfl
    · exact h1 e
    · exact h2 e
    · exact h3 e
    · exact h4 e
    · exact h5 e
    · exact h6 e)]
theorem rc1_neg {f : Nat → Int32} {n p : Nat} (h : tc f n p < 0) : rc f n p = 1 ∧ tc f n p ≠ 256 ∧ tc f n p ≠ 258 ∧ ¬ tc f n p < -6 := by
  obtain ⟨w, hw, hw1, e⟩ := tc_neg h
  refine ⟨((tc_word (by omega) hw1).mp e).1, ?_⟩
  rw [e]
  have : ∀ w, w < 7 → 1 ≤ w → cw w ≠ 256 ∧ cw w ≠ 258 ∧ ¬ cw w < -6 := by decide
  exact this w hw hw1
theorem R_fail {f : Nat → Int32} {n o p : Nat} {M : Mi} {L : Ml} (h : RS f n o p M L) (x : Int32) : ∃ M', rK98 M L x = some (x, M', L) ∧ RF M M' L L ∧ RB f n o (ta f n p) M' := by
  obtain ⟨M', a, b, c⟩ := F_failS h
  exact ⟨M', by unfold rK98; rw [a]; rfl, c, b⟩
/-- numbers, names, and what can't stand there -/
theorem R_tail {f : Nat → Int32} {n o p : Nat} {M : Mi} {L : Ml} (h : RS f n o p M L) : ∃ v M' L', rTail M L = some (v, M', L') ∧ RF M M' L L' ∧ match (if tc f n p = 257 then .inr (te f n p, [tv f n p]) else if tc f n p < 0 then .inr (te f n p, [tc f n p]) else .inl (ta f n p) : PR) with
    | .inl q => RB f n o q M'
    | .inr x => RS f n o x.1 M' L' ∧ VV (nm M) x.2 1 v := by
  unfold rTail
  rw [h.2.2.1, if_pos rfl, h.2.2.2.1]
  by_cases h2 : rc f n p = 2
  · have h257 := rc2.mp h2
    rw [if_pos h2, if_pos h257]
    obtain ⟨M1, L1, a1, a2, a3⟩ := h.go (rc4 (by rw [h257]; decide))
    rw [a1]
    refine ⟨_, M1, L1, rfl, a3, a2, ?_⟩
    have : L 0 24 = (tv f n p).toInt64 := h.2.2.2.2.2.2.1 h2
    rw [this, show (tv f n p).toInt64.toInt32 = tv f n p by simp]
    exact VV.lit (tv_nn h257)
  · rw [if_neg h2, if_neg (fun e => h2 (rc2.mpr e))]
    unfold rK64
    rw [h.2.2.1, if_pos rfl, h.2.2.2.1]
    by_cases hlt : tc f n p < 0
    · obtain ⟨g1, g2, g3, g4⟩ := rc1_neg hlt
      rw [if_pos g1, if_pos hlt, R_name h, if_pos hlt]
      simp only [Option.bind_some, h.2.2.1, if_true]
      obtain ⟨M1, L1, a1, a2, a3⟩ := h.go (rc4 g3)
      rw [a1]
      exact ⟨_, M1, L1, rfl, a3, a2, VV.name g4 hlt⟩
    · rw [if_neg hlt]
      by_cases h1 : rc f n p = 1
      · rw [if_pos h1, R_name h, if_neg hlt]
        obtain ⟨M', a, b, c⟩ := F_failS h
        simp only [a, Option.bind_some]
        rw [if_neg (by rw [b.2.1]; decide)]
        exact ⟨_, M', L, rfl, c, b⟩
      · rw [if_neg h1]
        obtain ⟨M', a, b, c⟩ := R_fail h 0
        exact ⟨_, M', L, a, b, c⟩
theorem RD_one0 {f : Nat → Int32} {n o : Nat} : RD f n o 0 1 rAtom0 (mkOne f n none) := by
  intro p M L h h25
  unfold rAtom0 mkOne
  rw [F_isSignS h (s := 45) (by decide), F_isSignS h (s := 40) (by decide)]
  simp only [Option.bind_some, zb_if, decide_eq_true_eq]
  obtain ⟨M', a, b, c⟩ := R_opens0 h h25
  by_cases h3 : tc f n p = 45
  · rw [if_pos h3, if_neg (by rw [h3]; decide), if_neg (by rw [h3]; decide), if_pos h3, a]
    exact ⟨_, M', L, rfl, c, b⟩
  · by_cases h4 : tc f n p = 40
    · rw [if_neg h3, if_pos h4, if_neg (by rw [h4]; decide), if_neg (by rw [h4]; decide), if_neg h3, if_pos h4, a]
      exact ⟨_, M', L, rfl, c, b⟩
    · simp only [if_neg h3, if_neg h4]
      exact R_tail h
theorem R_close {f : Nat → Int32} {n o p d : Nat} {M M0 : Mi} {L L0 : Ml} {v : Int32} (h : RS f n o p M L) (hd : d + 1 ≤ 5) (h0 : M0 0 25 = nI (5 - (d + 1))) (h25 : M 0 25 = nI (5 - d)) (hF : RF (up2 M0 0 25 (nI (5 - d))) M L0 L) (hne : tc f n p ≠ 258) :
    ∃ M' L', rK71 M L v = some (v, M', L') ∧ RF M0 M' L0 L' ∧ RS f n o (te f n p) M' L' := by
  unfold rK71
  rw [h25, R_down hd, up2_b (by decide), h.2.2.1, if_pos rfl]
  obtain ⟨M1, L1, a1, a2, a3⟩ := (RS_25 h (nI (5 - (d + 1)))).go (rc4 hne)
  rw [a1]
  exact ⟨M1, L1, rfl, (RF_25 hF h0.symm).trans a3, a2⟩
theorem R_closeB {f : Nat → Int32} {n o q d : Nat} {M M0 : Mi} {L L0 : Ml} {v : Int32} (h : RB f n o q M) (hd : d + 1 ≤ 5) (h0 : M0 0 25 = nI (5 - (d + 1))) (h25 : M 0 25 = nI (5 - d)) (hF : RF (up2 M0 0 25 (nI (5 - d))) M L0 L) :
    ∃ M' L', rK71 M L v = some (v, M', L') ∧ RF M0 M' L0 L' ∧ RB f n o q M' := by
  unfold rK71
  rw [h25, R_down hd, up2_b (by decide), h.2.1, if_neg (by decide)]
  exact ⟨_, L, rfl, RF_25 hF h0.symm, RB_25 h _⟩
theorem RD_one1 {f : Nat → Int32} {n o d : Nat} {atomN eitherN : Mi → Ml → Option (Int32 × Mi × Ml)} (hd : d + 1 ≤ 5) (hA : RD f n o d (5 * d + 1) atomN (pl f n d).1) (hE : RD f n o d (5 * d + 6) eitherN (pl f n d).2.2) : RD f n o (d + 1) (5 * (d + 1) + 1) (rAtom1 atomN eitherN) (mkOne f n (some (pl f n d))) := by
  intro p M L h h25
  unfold rAtom1 mkOne
  rw [F_isSignS h (s := 45) (by decide), F_isSignS h (s := 40) (by decide)]
  simp only [Option.bind_some, zb_if, decide_eq_true_eq]
  by_cases h3 : tc f n p = 45
  · obtain ⟨M1, L1, a1, a2, a3, a4⟩ := R_opens1 h h25 hd (by rw [h3]; decide)
    obtain ⟨v, M2, L2, b1, b2, b3⟩ := hA _ M1 L1 a2 a3
    have hF := a4.trans b2
    have e25 : M2 0 25 = nI (5 - d) := b2.o25.trans a3
    rw [if_pos h3, if_neg (by rw [h3]; decide), if_neg (by rw [h3]; decide), if_pos h3, a1]
    simp only [Option.bind_some, zb_if, if_true, b1, e25, R_down hd]
    cases er : (pl f n d).1 (te f n p) with
    | inl q =>
      rw [er] at b3
      exact ⟨_, _, L2, rfl, RF_25 hF h25.symm, RB_25 b3 _⟩
    | inr x =>
      rw [er] at b3
      obtain ⟨b3, b4⟩ := b3
      refine ⟨_, _, L2, rfl, RF_25 hF h25.symm, RS_25 b3 _, ?_⟩
      rw [a4.nme, nm_25] at b4
      have := VV.un (o := -8) b4 (Or.inr rfl)
      rw [un8] at this
      exact this.mono (by omega)
  · by_cases h4 : tc f n p = 40
    · obtain ⟨M1, L1, a1, a2, a3, a4⟩ := R_opens1 h h25 hd (by rw [h4]; decide)
      obtain ⟨v, M2, L2, b1, b2, b3⟩ := hE _ M1 L1 a2 a3
      have hF := a4.trans b2
      have e25 : M2 0 25 = nI (5 - d) := b2.o25.trans a3
      rw [if_neg h3, if_pos h4, if_neg (by rw [h4]; decide), if_neg (by rw [h4]; decide), if_neg h3, if_pos h4, a1]
      simp only [Option.bind_some, zb_if, if_true, b1]
      cases er : (pl f n d).2.2 (te f n p) with
      | inl q =>
        rw [er] at b3
        rw [F_isSignB b3, F_failB b3]
        obtain ⟨M3, L3, c1, c2, c3⟩ := R_closeB (v := v) b3 hd h25 e25 hF
        exact ⟨_, M3, L3, c1, c2, c3⟩
      | inr x =>
        rw [er] at b3
        obtain ⟨b3, b4⟩ := b3
        rw [a4.nme, nm_25] at b4
        rw [F_isSignS b3 (by decide), show (x : Nat × List Int32) = (x.1, x.2) from rfl, pbd_r]
        simp only [Option.bind_some, zb_if, decide_eq_true_eq]
        by_cases h5 : tc f n x.1 = 41
        · rw [if_pos h5, if_pos h5]
          obtain ⟨M3, L3, c1, c2, c3⟩ := R_close (v := v) b3 hd h25 e25 hF (by rw [h5]; decide)
          exact ⟨_, M3, L3, c1, c2, c3, b4.mono (by omega)⟩
        · rw [if_neg h5, if_neg h5]
          obtain ⟨M3, c1, c2, c3⟩ := F_failS b3
          rw [c1]
          obtain ⟨M4, L4, d1, d2, d3⟩ := R_closeB (v := v) (L := L2) c2 hd h25 (c3.o25.trans e25) (hF.trans c3)
          exact ⟨_, M4, L4, d1, d2, d3⟩
    · rw [if_neg h3, if_neg h4, if_neg h3, if_neg h4]
      obtain ⟨v, M', L', a, b, c⟩ := R_tail h
      refine ⟨v, M', L', a, b, ?_⟩
      by_cases e1 : tc f n p = 257
      · rw [if_pos e1] at c ⊢; exact ⟨c.1, c.2.mono (by omega)⟩
      · rw [if_neg e1] at c ⊢
        by_cases e2 : tc f n p < 0
        · rw [if_pos e2] at c ⊢; exact ⟨c.1, c.2.mono (by omega)⟩
        · rw [if_neg e2] at c ⊢; exact c
theorem R_L24 {f : Nat → Int32} {n o p : Nat} {M : Mi} {L : Ml} (h : RS f n o p M L) {s : Int32} (hs : isSgn s = true) (e : tc f n p = s) : L 0 24 = s.toInt64 := by
  rw [← e]; exact h.2.2.2.2.2.2.2 ((tc_sign hs).mp e).1
theorem RD_cmp {f : Nat → Int32} {n o d D : Nat} {added : Mi → Ml → Option (Int32 × Mi × Ml)} {one : Nat → PR} (hs : RD f n o d D added (mkSum f n one)) (hr : ∀ p, p ≤ n → PP n (one p) p) : RD f n o d (D + 1) (rCmp added) (mkCmp f n one) := by
  intro p M L h h25
  obtain ⟨v1, M1, L1, a1, a2, a3⟩ := hs p M L h h25
  have hpp := PP_sum (f := f) hr p h.2.1
  unfold rCmp mkCmp
  rw [a1, Option.bind_some]
  cases er : mkSum f n one p with
  | inl q =>
    rw [er] at a3
    rw [F_isSignB a3, F_isSignB a3]
    exact ⟨v1, M1, L1, rfl, a2, a3⟩
  | inr x =>
    rw [er] at a3 hpp
    obtain ⟨a3, a4⟩ := a3
    obtain ⟨g1, g2, g3⟩ := hpp
    rw [F_isSignS a3 (by decide), F_isSignS a3 (by decide), show (x : Nat × List Int32) = (x.1, x.2) from rfl, pbd_r]
    simp only [Option.bind_some, zb_if, decide_eq_true_eq]
    have go : ∀ (w s0 : Int32), w < -8 → tc f n x.1 ≠ 258 → (∀ x y : Int32, bin w x y = if s0 = 0 then (if x = y then 1 else 0) else if y ≤ x then 0 else 1) → ∃ v M' L', rCmp1 added M1 L1 v1 s0 = some (v, M', L') ∧ RF M M' L L' ∧ match pbd (mkSum f n one (te f n x.1)) (fun p' c' => .inr (p', x.2 ++ c' ++ [w])) with
        | .inl q => RB f n o q M'
        | .inr x => RS f n o x.1 M' L' ∧ VV (nm M) x.2 (D + 1) v := by
      intro w s0 hw hne hb
      obtain ⟨M2, L2, b1, b2, b3⟩ := a3.go (rc4 hne)
      obtain ⟨v3, M3, L3, c1, c2, c3⟩ := hs _ M2 L2 b2 (b3.o25.trans (a2.o25.trans h25))
      have hF := (a2.trans b3).trans c2
      refine ⟨bin w v1 v3, M3, L3, ?_, hF, ?_⟩
      · unfold rCmp1
        rw [b1, Option.bind_some]
        simp only [c1, Option.bind_some]
        rw [hb]
        by_cases e0 : s0 = 0
        · rw [if_pos e0, if_pos e0]; by_cases e1 : v1 = v3
          · rw [if_pos e1, if_pos e1]
          · rw [if_neg e1, if_neg e1]
        · rw [if_neg e0, if_neg e0]; by_cases e1 : v3 ≤ v1
          · rw [if_pos e1, if_pos e1]
          · rw [if_neg e1, if_neg e1]
      · cases er2 : mkSum f n one (te f n x.1) with
        | inl q => rw [er2] at c3; exact c3
        | inr z =>
          rw [er2] at c3
          obtain ⟨c3, c4⟩ := c3
          rw [b3.nme, a2.nme] at c4
          exact ⟨c3, VV.bin (a4.mono (Nat.le_refl _)) c4 hw (by omega) (Nat.le_refl _)⟩
    unfold opC rCmp2
    by_cases h1 : tc f n x.1 = 60
    · rw [if_pos h1, if_pos h1, R_L24 a3 (by decide) h1, if_pos (show lg_cmp (Int32.toInt64 60) 60 = 0 by decide)]
      exact go (-11) 1 (by decide) (by rw [h1]; decide) (fun x y => by
        rw [bin11, if_neg (show ¬ (1 : Int32) = 0 by decide)]
        by_cases h : x < y
        · rw [if_pos h, if_neg (by rw [i_le]; rw [i_lt] at h; omega)]
        · rw [if_neg h, if_pos (by rw [i_le]; rw [i_lt] at h; omega)])
    · rw [if_neg h1, if_neg h1]
      by_cases h2 : tc f n x.1 = 61
      · rw [if_pos h2, if_pos h2, R_L24 a3 (by decide) h2, if_neg (show ¬ lg_cmp (Int32.toInt64 61) 60 = 0 by decide)]
        exact go (-12) 0 (by decide) (by rw [h2]; decide) (fun x y => by rw [bin12, if_pos rfl])
      · rw [if_neg h2, if_neg h2]
        exact ⟨v1, M1, L1, rfl, a2, a3, a4.mono (by omega)⟩
theorem RD_not0 {f : Nat → Int32} {n o : Nat} {added : Mi → Ml → Option (Int32 × Mi × Ml)} {one : Nat → PR} (hs : RD f n o 0 3 added (mkSum f n one)) (hr : ∀ p, p ≤ n → PP n (one p) p) : RD f n o 0 4 (rNot0 added) (mkNot f n none one) := by
  have hc := RD_cmp hs hr
  intro p M L h h25
  unfold rNot0 mkNot
  rw [W_not h]
  simp only [Option.bind_some, zb_if, decide_eq_true_eq]
  by_cases h1 : tc f n p = 264
  · rw [if_pos h1, if_pos h1]
    obtain ⟨M', a, b, c⟩ := R_opens0 h h25
    rw [a]
    exact ⟨_, M', L, rfl, c, b⟩
  · rw [if_neg h1, if_neg h1]; exact hc p M L h h25
theorem RD_not1 {f : Nat → Int32} {n o d : Nat} {added notN : Mi → Ml → Option (Int32 × Mi × Ml)} {one : Nat → PR} (hd : d + 1 ≤ 5) (hs : RD f n o (d + 1) (5 * (d + 1) + 3) added (mkSum f n one)) (hr : ∀ p, p ≤ n → PP n (one p) p) (hN : RD f n o d (5 * d + 4) notN (pl f n d).2.1) : RD f n o (d + 1) (5 * (d + 1) + 4) (rNot1 added notN) (mkNot f n (some (pl f n d)) one) := by
  have hc := RD_cmp hs hr
  intro p M L h h25
  unfold rNot1 mkNot
  rw [W_not h]
  simp only [Option.bind_some, zb_if, decide_eq_true_eq]
  by_cases h1 : tc f n p = 264
  · rw [if_pos h1, if_pos h1]
    obtain ⟨M1, L1, a1, a2, a3, a4⟩ := R_opens1 h h25 hd (by rw [h1]; decide)
    obtain ⟨v, M2, L2, b1, b2, b3⟩ := hN _ M1 L1 a2 a3
    have hF := a4.trans b2
    have e25 : M2 0 25 = nI (5 - d) := b2.o25.trans a3
    rw [a1]
    simp only [Option.bind_some, zb_if, if_true, b1, e25, R_down hd]
    refine ⟨un (-7) v, _, L2, ?_, RF_25 hF h25.symm, ?_⟩
    · rw [un7]; by_cases e : v = 0
      · rw [if_pos e, if_pos e]
      · rw [if_neg e, if_neg e]
    · cases er : (pl f n d).2.1 (te f n p) with
      | inl q => rw [er] at b3; exact RB_25 b3 _
      | inr x =>
        rw [er] at b3
        obtain ⟨b3, b4⟩ := b3
        rw [a4.nme, nm_25] at b4
        exact ⟨RS_25 b3 _, (VV.un (o := -7) b4 (Or.inl rfl)).mono (by omega)⟩
  · rw [if_neg h1, if_neg h1]; exact hc p M L h h25
/-! level 5 -/
theorem PO5 (f : Nat → Int32) (n : Nat) : ∀ p, p ≤ n → PP n (mkOne f n none p) p := PP_one (PP_up f n 0)
theorem PN5 (f : Nat → Int32) (n : Nat) : ∀ p, p ≤ n → PP n (mkNot f n none (mkOne f n none) p) p := PP_not (PP_up f n 0) (PO5 f n)
theorem R_atom5 (f : Nat → Int32) (n o : Nat) : RD f n o 0 1 F_X6_atom5 (mkOne f n none) := RD_one0
theorem RL_term5 (f : Nat → Int32) (n o : Nat) : RLp f n o opT F_X6_atom5 F_X6_term5_k5 := by
  refine ⟨fun m q M L x h => ?_, fun m p M L x h => ?_⟩
  · rw [F_X6_term5_k5, F_isSignB h]; rfl
  · rw [F_X6_term5_k5, F_isSignS h (by decide)]; unfold opT
    simp only [Option.bind_some, zb_if, decide_eq_true_eq]
    by_cases e : tc f n p = 42
    · simp only [if_pos e, bin15]
    · simp only [if_neg e]
theorem R_term5 (f : Nat → Int32) (n o : Nat) : RD f n o 0 2 F_X6_term5 (mkTerm f n (mkOne f n none)) :=
  RD_chn (first := F_X6_atom5) (g := F_X6_term5_k5) (RL_term5 f n o) (by decide) (by decide) opT_lt (R_atom5 f n o) (PO5 f n) (R_atom5 f n o) (PO5 f n) (by decide) (by decide)
theorem RL_added5 (f : Nat → Int32) (n o : Nat) : RLp f n o opS F_X6_term5 F_X6_added5_k5 := by
  refine ⟨fun m q M L x h => ?_, fun m p M L x h => ?_⟩
  · rw [F_X6_added5_k5, F_isSignB h, F_isSignB h]; rfl
  · rw [F_X6_added5_k5, F_isSignS h (by decide), F_isSignS h (by decide)]; unfold opS F_X6_added5_k23 F_X6_added5_k39 F_X6_added5_k62
    simp only [Option.bind_some, zb_if, decide_eq_true_eq]
    by_cases e : tc f n p = 43
    · rw [R_L24 h (by decide) e]
      simp only [if_pos e, bin13, show lg_cmp (Int32.toInt64 43) 43 = 0 by decide, if_true, if_neg (show ¬ (1 : Int32) = 0 by decide)]
    · by_cases e2 : tc f n p = 45
      · rw [R_L24 h (by decide) e2]
        simp only [if_pos e2, if_neg e, bin14, if_neg (show ¬ lg_cmp (Int32.toInt64 45) 43 = 0 by decide), if_true]
      · simp only [if_neg e, if_neg e2]
theorem R_added5 (f : Nat → Int32) (n o : Nat) : RD f n o 0 3 F_X6_added5 (mkSum f n (mkOne f n none)) :=
  RD_chn (first := F_X6_term5) (g := F_X6_added5_k5) (RL_added5 f n o) (by decide) (by decide) opS_lt (R_term5 f n o) (PP_term (PO5 f n)) (R_term5 f n o) (PP_term (PO5 f n)) (by decide) (by decide)
theorem R_not5 (f : Nat → Int32) (n o : Nat) : RD f n o 0 4 F_X6_not5 (mkNot f n none (mkOne f n none)) := RD_not0 (added := F_X6_added5) (R_added5 f n o) (PO5 f n)
theorem RL_both5 (f : Nat → Int32) (n o : Nat) : RLp f n o opA F_X6_not5 F_X6_both5_k5 := by
  refine ⟨fun m q M L x h => ?_, fun m p M L x h => ?_⟩
  · rw [F_X6_both5_k5, F_isWordB h]; rfl
  · rw [F_X6_both5_k5, W_and h]; unfold opA F_X6_both5_k44 F_X6_both5_k45
    simp only [Option.bind_some, zb_if, decide_eq_true_eq]
    by_cases e : tc f n p = 263
    · simp only [if_pos e, bin10]
      congr 1; funext r; congr 1; funext s
      by_cases h1 : x = 0
      · rw [if_pos h1, if_pos h1]
      · rw [if_neg h1, if_neg h1]; by_cases h2 : s.1 = 0
        · rw [if_pos h2, if_pos h2]
        · rw [if_neg h2, if_neg h2]
    · simp only [if_neg e]
theorem R_both5 (f : Nat → Int32) (n o : Nat) : RD f n o 0 5 F_X6_both5 (mkAnd f n (mkNot f n none (mkOne f n none))) :=
  RD_chn (first := F_X6_not5) (g := F_X6_both5_k5) (RL_both5 f n o) (by decide) (by decide) opA_lt (R_not5 f n o) (PN5 f n) (R_not5 f n o) (PN5 f n) (by decide) (by decide)
theorem RL_either5 (f : Nat → Int32) (n o : Nat) : RLp f n o opE F_X6_both5 F_X6_either5_k5 := by
  refine ⟨fun m q M L x h => ?_, fun m p M L x h => ?_⟩
  · rw [F_X6_either5_k5, F_isWordB h]; rfl
  · rw [F_X6_either5_k5, W_or h]; unfold opE F_X6_either5_k39 F_X6_either5_k44
    simp only [Option.bind_some, zb_if, decide_eq_true_eq]
    by_cases e : tc f n p = 262
    · simp only [if_pos e, bin9]
      congr 1; funext r; congr 1; funext s
      by_cases h1 : x = 0
      · rw [if_pos h1, if_pos h1]; by_cases h2 : s.1 = 0
        · rw [if_pos h2, if_pos h2]
        · rw [if_neg h2, if_neg h2]
      · rw [if_neg h1, if_neg h1]
    · simp only [if_neg e]
theorem R_either5 (f : Nat → Int32) (n o : Nat) : RD f n o 0 6 F_X6_either5 (mkE f n (mkNot f n none (mkOne f n none))) :=
  RD_chn (first := F_X6_both5) (g := F_X6_either5_k5) (RL_either5 f n o) (by decide) (by decide) opE_lt (R_both5 f n o) (PP_and (PN5 f n)) (R_both5 f n o) (PP_and (PN5 f n)) (by decide) (by decide)
/-! level 4 -/
theorem PO4 (f : Nat → Int32) (n : Nat) : ∀ p, p ≤ n → PP n (mkOne f n (some (pl f n 0)) p) p := PP_one (PP_up f n 1)
theorem PN4 (f : Nat → Int32) (n : Nat) : ∀ p, p ≤ n → PP n (mkNot f n (some (pl f n 0)) (mkOne f n (some (pl f n 0))) p) p := PP_not (PP_up f n 1) (PO4 f n)
theorem R_atom4 (f : Nat → Int32) (n o : Nat) : RD f n o 1 6 F_X6_atom4 (mkOne f n (some (pl f n 0))) := RD_one1 (atomN := F_X6_atom5) (eitherN := F_X6_either5) (by decide) (R_atom5 f n o) (R_either5 f n o)
theorem RL_term4 (f : Nat → Int32) (n o : Nat) : RLp f n o opT F_X6_atom4 F_X6_term4_k5 := by
  refine ⟨fun m q M L x h => ?_, fun m p M L x h => ?_⟩
  · rw [F_X6_term4_k5, F_isSignB h]; rfl
  · rw [F_X6_term4_k5, F_isSignS h (by decide)]; unfold opT
    simp only [Option.bind_some, zb_if, decide_eq_true_eq]
    by_cases e : tc f n p = 42
    · simp only [if_pos e, bin15]
    · simp only [if_neg e]
theorem R_term4 (f : Nat → Int32) (n o : Nat) : RD f n o 1 7 F_X6_term4 (mkTerm f n (mkOne f n (some (pl f n 0)))) :=
  RD_chn (first := F_X6_atom4) (g := F_X6_term4_k5) (RL_term4 f n o) (by decide) (by decide) opT_lt (R_atom4 f n o) (PO4 f n) (R_atom4 f n o) (PO4 f n) (by decide) (by decide)
theorem RL_added4 (f : Nat → Int32) (n o : Nat) : RLp f n o opS F_X6_term4 F_X6_added4_k5 := by
  refine ⟨fun m q M L x h => ?_, fun m p M L x h => ?_⟩
  · rw [F_X6_added4_k5, F_isSignB h, F_isSignB h]; rfl
  · rw [F_X6_added4_k5, F_isSignS h (by decide), F_isSignS h (by decide)]; unfold opS F_X6_added4_k23 F_X6_added4_k39 F_X6_added4_k62
    simp only [Option.bind_some, zb_if, decide_eq_true_eq]
    by_cases e : tc f n p = 43
    · rw [R_L24 h (by decide) e]
      simp only [if_pos e, bin13, show lg_cmp (Int32.toInt64 43) 43 = 0 by decide, if_true, if_neg (show ¬ (1 : Int32) = 0 by decide)]
    · by_cases e2 : tc f n p = 45
      · rw [R_L24 h (by decide) e2]
        simp only [if_pos e2, if_neg e, bin14, if_neg (show ¬ lg_cmp (Int32.toInt64 45) 43 = 0 by decide), if_true]
      · simp only [if_neg e, if_neg e2]
theorem R_added4 (f : Nat → Int32) (n o : Nat) : RD f n o 1 8 F_X6_added4 (mkSum f n (mkOne f n (some (pl f n 0)))) :=
  RD_chn (first := F_X6_term4) (g := F_X6_added4_k5) (RL_added4 f n o) (by decide) (by decide) opS_lt (R_term4 f n o) (PP_term (PO4 f n)) (R_term4 f n o) (PP_term (PO4 f n)) (by decide) (by decide)
theorem R_not4 (f : Nat → Int32) (n o : Nat) : RD f n o 1 9 F_X6_not4 (mkNot f n (some (pl f n 0)) (mkOne f n (some (pl f n 0)))) := RD_not1 (added := F_X6_added4) (notN := F_X6_not5) (by decide) (R_added4 f n o) (PO4 f n) (R_not5 f n o)
theorem RL_both4 (f : Nat → Int32) (n o : Nat) : RLp f n o opA F_X6_not4 F_X6_both4_k5 := by
  refine ⟨fun m q M L x h => ?_, fun m p M L x h => ?_⟩
  · rw [F_X6_both4_k5, F_isWordB h]; rfl
  · rw [F_X6_both4_k5, W_and h]; unfold opA F_X6_both4_k44 F_X6_both4_k45
    simp only [Option.bind_some, zb_if, decide_eq_true_eq]
    by_cases e : tc f n p = 263
    · simp only [if_pos e, bin10]
      congr 1; funext r; congr 1; funext s
      by_cases h1 : x = 0
      · rw [if_pos h1, if_pos h1]
      · rw [if_neg h1, if_neg h1]; by_cases h2 : s.1 = 0
        · rw [if_pos h2, if_pos h2]
        · rw [if_neg h2, if_neg h2]
    · simp only [if_neg e]
theorem R_both4 (f : Nat → Int32) (n o : Nat) : RD f n o 1 10 F_X6_both4 (mkAnd f n (mkNot f n (some (pl f n 0)) (mkOne f n (some (pl f n 0))))) :=
  RD_chn (first := F_X6_not4) (g := F_X6_both4_k5) (RL_both4 f n o) (by decide) (by decide) opA_lt (R_not4 f n o) (PN4 f n) (R_not4 f n o) (PN4 f n) (by decide) (by decide)
theorem RL_either4 (f : Nat → Int32) (n o : Nat) : RLp f n o opE F_X6_both4 F_X6_either4_k5 := by
  refine ⟨fun m q M L x h => ?_, fun m p M L x h => ?_⟩
  · rw [F_X6_either4_k5, F_isWordB h]; rfl
  · rw [F_X6_either4_k5, W_or h]; unfold opE F_X6_either4_k39 F_X6_either4_k44
    simp only [Option.bind_some, zb_if, decide_eq_true_eq]
    by_cases e : tc f n p = 262
    · simp only [if_pos e, bin9]
      congr 1; funext r; congr 1; funext s
      by_cases h1 : x = 0
      · rw [if_pos h1, if_pos h1]; by_cases h2 : s.1 = 0
        · rw [if_pos h2, if_pos h2]
        · rw [if_neg h2, if_neg h2]
      · rw [if_neg h1, if_neg h1]
    · simp only [if_neg e]
theorem R_either4 (f : Nat → Int32) (n o : Nat) : RD f n o 1 11 F_X6_either4 (mkE f n (mkNot f n (some (pl f n 0)) (mkOne f n (some (pl f n 0))))) :=
  RD_chn (first := F_X6_both4) (g := F_X6_either4_k5) (RL_either4 f n o) (by decide) (by decide) opE_lt (R_both4 f n o) (PP_and (PN4 f n)) (R_both4 f n o) (PP_and (PN4 f n)) (by decide) (by decide)
/-! level 3 -/
theorem PO3 (f : Nat → Int32) (n : Nat) : ∀ p, p ≤ n → PP n (mkOne f n (some (pl f n 1)) p) p := PP_one (PP_up f n 2)
theorem PN3 (f : Nat → Int32) (n : Nat) : ∀ p, p ≤ n → PP n (mkNot f n (some (pl f n 1)) (mkOne f n (some (pl f n 1))) p) p := PP_not (PP_up f n 2) (PO3 f n)
theorem R_atom3 (f : Nat → Int32) (n o : Nat) : RD f n o 2 11 F_X6_atom3 (mkOne f n (some (pl f n 1))) := RD_one1 (atomN := F_X6_atom4) (eitherN := F_X6_either4) (by decide) (R_atom4 f n o) (R_either4 f n o)
theorem RL_term3 (f : Nat → Int32) (n o : Nat) : RLp f n o opT F_X6_atom3 F_X6_term3_k5 := by
  refine ⟨fun m q M L x h => ?_, fun m p M L x h => ?_⟩
  · rw [F_X6_term3_k5, F_isSignB h]; rfl
  · rw [F_X6_term3_k5, F_isSignS h (by decide)]; unfold opT
    simp only [Option.bind_some, zb_if, decide_eq_true_eq]
    by_cases e : tc f n p = 42
    · simp only [if_pos e, bin15]
    · simp only [if_neg e]
theorem R_term3 (f : Nat → Int32) (n o : Nat) : RD f n o 2 12 F_X6_term3 (mkTerm f n (mkOne f n (some (pl f n 1)))) :=
  RD_chn (first := F_X6_atom3) (g := F_X6_term3_k5) (RL_term3 f n o) (by decide) (by decide) opT_lt (R_atom3 f n o) (PO3 f n) (R_atom3 f n o) (PO3 f n) (by decide) (by decide)
theorem RL_added3 (f : Nat → Int32) (n o : Nat) : RLp f n o opS F_X6_term3 F_X6_added3_k5 := by
  refine ⟨fun m q M L x h => ?_, fun m p M L x h => ?_⟩
  · rw [F_X6_added3_k5, F_isSignB h, F_isSignB h]; rfl
  · rw [F_X6_added3_k5, F_isSignS h (by decide), F_isSignS h (by decide)]; unfold opS F_X6_added3_k23 F_X6_added3_k39 F_X6_added3_k62
    simp only [Option.bind_some, zb_if, decide_eq_true_eq]
    by_cases e : tc f n p = 43
    · rw [R_L24 h (by decide) e]
      simp only [if_pos e, bin13, show lg_cmp (Int32.toInt64 43) 43 = 0 by decide, if_true, if_neg (show ¬ (1 : Int32) = 0 by decide)]
    · by_cases e2 : tc f n p = 45
      · rw [R_L24 h (by decide) e2]
        simp only [if_pos e2, if_neg e, bin14, if_neg (show ¬ lg_cmp (Int32.toInt64 45) 43 = 0 by decide), if_true]
      · simp only [if_neg e, if_neg e2]
theorem R_added3 (f : Nat → Int32) (n o : Nat) : RD f n o 2 13 F_X6_added3 (mkSum f n (mkOne f n (some (pl f n 1)))) :=
  RD_chn (first := F_X6_term3) (g := F_X6_added3_k5) (RL_added3 f n o) (by decide) (by decide) opS_lt (R_term3 f n o) (PP_term (PO3 f n)) (R_term3 f n o) (PP_term (PO3 f n)) (by decide) (by decide)
theorem R_not3 (f : Nat → Int32) (n o : Nat) : RD f n o 2 14 F_X6_not3 (mkNot f n (some (pl f n 1)) (mkOne f n (some (pl f n 1)))) := RD_not1 (added := F_X6_added3) (notN := F_X6_not4) (by decide) (R_added3 f n o) (PO3 f n) (R_not4 f n o)
theorem RL_both3 (f : Nat → Int32) (n o : Nat) : RLp f n o opA F_X6_not3 F_X6_both3_k5 := by
  refine ⟨fun m q M L x h => ?_, fun m p M L x h => ?_⟩
  · rw [F_X6_both3_k5, F_isWordB h]; rfl
  · rw [F_X6_both3_k5, W_and h]; unfold opA F_X6_both3_k44 F_X6_both3_k45
    simp only [Option.bind_some, zb_if, decide_eq_true_eq]
    by_cases e : tc f n p = 263
    · simp only [if_pos e, bin10]
      congr 1; funext r; congr 1; funext s
      by_cases h1 : x = 0
      · rw [if_pos h1, if_pos h1]
      · rw [if_neg h1, if_neg h1]; by_cases h2 : s.1 = 0
        · rw [if_pos h2, if_pos h2]
        · rw [if_neg h2, if_neg h2]
    · simp only [if_neg e]
theorem R_both3 (f : Nat → Int32) (n o : Nat) : RD f n o 2 15 F_X6_both3 (mkAnd f n (mkNot f n (some (pl f n 1)) (mkOne f n (some (pl f n 1))))) :=
  RD_chn (first := F_X6_not3) (g := F_X6_both3_k5) (RL_both3 f n o) (by decide) (by decide) opA_lt (R_not3 f n o) (PN3 f n) (R_not3 f n o) (PN3 f n) (by decide) (by decide)
theorem RL_either3 (f : Nat → Int32) (n o : Nat) : RLp f n o opE F_X6_both3 F_X6_either3_k5 := by
  refine ⟨fun m q M L x h => ?_, fun m p M L x h => ?_⟩
  · rw [F_X6_either3_k5, F_isWordB h]; rfl
  · rw [F_X6_either3_k5, W_or h]; unfold opE F_X6_either3_k39 F_X6_either3_k44
    simp only [Option.bind_some, zb_if, decide_eq_true_eq]
    by_cases e : tc f n p = 262
    · simp only [if_pos e, bin9]
      congr 1; funext r; congr 1; funext s
      by_cases h1 : x = 0
      · rw [if_pos h1, if_pos h1]; by_cases h2 : s.1 = 0
        · rw [if_pos h2, if_pos h2]
        · rw [if_neg h2, if_neg h2]
      · rw [if_neg h1, if_neg h1]
    · simp only [if_neg e]
theorem R_either3 (f : Nat → Int32) (n o : Nat) : RD f n o 2 16 F_X6_either3 (mkE f n (mkNot f n (some (pl f n 1)) (mkOne f n (some (pl f n 1))))) :=
  RD_chn (first := F_X6_both3) (g := F_X6_either3_k5) (RL_either3 f n o) (by decide) (by decide) opE_lt (R_both3 f n o) (PP_and (PN3 f n)) (R_both3 f n o) (PP_and (PN3 f n)) (by decide) (by decide)
/-! level 2 -/
theorem PO2 (f : Nat → Int32) (n : Nat) : ∀ p, p ≤ n → PP n (mkOne f n (some (pl f n 2)) p) p := PP_one (PP_up f n 3)
theorem PN2 (f : Nat → Int32) (n : Nat) : ∀ p, p ≤ n → PP n (mkNot f n (some (pl f n 2)) (mkOne f n (some (pl f n 2))) p) p := PP_not (PP_up f n 3) (PO2 f n)
theorem R_atom2 (f : Nat → Int32) (n o : Nat) : RD f n o 3 16 F_X6_atom2 (mkOne f n (some (pl f n 2))) := RD_one1 (atomN := F_X6_atom3) (eitherN := F_X6_either3) (by decide) (R_atom3 f n o) (R_either3 f n o)
theorem RL_term2 (f : Nat → Int32) (n o : Nat) : RLp f n o opT F_X6_atom2 F_X6_term2_k5 := by
  refine ⟨fun m q M L x h => ?_, fun m p M L x h => ?_⟩
  · rw [F_X6_term2_k5, F_isSignB h]; rfl
  · rw [F_X6_term2_k5, F_isSignS h (by decide)]; unfold opT
    simp only [Option.bind_some, zb_if, decide_eq_true_eq]
    by_cases e : tc f n p = 42
    · simp only [if_pos e, bin15]
    · simp only [if_neg e]
theorem R_term2 (f : Nat → Int32) (n o : Nat) : RD f n o 3 17 F_X6_term2 (mkTerm f n (mkOne f n (some (pl f n 2)))) :=
  RD_chn (first := F_X6_atom2) (g := F_X6_term2_k5) (RL_term2 f n o) (by decide) (by decide) opT_lt (R_atom2 f n o) (PO2 f n) (R_atom2 f n o) (PO2 f n) (by decide) (by decide)
theorem RL_added2 (f : Nat → Int32) (n o : Nat) : RLp f n o opS F_X6_term2 F_X6_added2_k5 := by
  refine ⟨fun m q M L x h => ?_, fun m p M L x h => ?_⟩
  · rw [F_X6_added2_k5, F_isSignB h, F_isSignB h]; rfl
  · rw [F_X6_added2_k5, F_isSignS h (by decide), F_isSignS h (by decide)]; unfold opS F_X6_added2_k23 F_X6_added2_k39 F_X6_added2_k62
    simp only [Option.bind_some, zb_if, decide_eq_true_eq]
    by_cases e : tc f n p = 43
    · rw [R_L24 h (by decide) e]
      simp only [if_pos e, bin13, show lg_cmp (Int32.toInt64 43) 43 = 0 by decide, if_true, if_neg (show ¬ (1 : Int32) = 0 by decide)]
    · by_cases e2 : tc f n p = 45
      · rw [R_L24 h (by decide) e2]
        simp only [if_pos e2, if_neg e, bin14, if_neg (show ¬ lg_cmp (Int32.toInt64 45) 43 = 0 by decide), if_true]
      · simp only [if_neg e, if_neg e2]
theorem R_added2 (f : Nat → Int32) (n o : Nat) : RD f n o 3 18 F_X6_added2 (mkSum f n (mkOne f n (some (pl f n 2)))) :=
  RD_chn (first := F_X6_term2) (g := F_X6_added2_k5) (RL_added2 f n o) (by decide) (by decide) opS_lt (R_term2 f n o) (PP_term (PO2 f n)) (R_term2 f n o) (PP_term (PO2 f n)) (by decide) (by decide)
theorem R_not2 (f : Nat → Int32) (n o : Nat) : RD f n o 3 19 F_X6_not2 (mkNot f n (some (pl f n 2)) (mkOne f n (some (pl f n 2)))) := RD_not1 (added := F_X6_added2) (notN := F_X6_not3) (by decide) (R_added2 f n o) (PO2 f n) (R_not3 f n o)
theorem RL_both2 (f : Nat → Int32) (n o : Nat) : RLp f n o opA F_X6_not2 F_X6_both2_k5 := by
  refine ⟨fun m q M L x h => ?_, fun m p M L x h => ?_⟩
  · rw [F_X6_both2_k5, F_isWordB h]; rfl
  · rw [F_X6_both2_k5, W_and h]; unfold opA F_X6_both2_k44 F_X6_both2_k45
    simp only [Option.bind_some, zb_if, decide_eq_true_eq]
    by_cases e : tc f n p = 263
    · simp only [if_pos e, bin10]
      congr 1; funext r; congr 1; funext s
      by_cases h1 : x = 0
      · rw [if_pos h1, if_pos h1]
      · rw [if_neg h1, if_neg h1]; by_cases h2 : s.1 = 0
        · rw [if_pos h2, if_pos h2]
        · rw [if_neg h2, if_neg h2]
    · simp only [if_neg e]
theorem R_both2 (f : Nat → Int32) (n o : Nat) : RD f n o 3 20 F_X6_both2 (mkAnd f n (mkNot f n (some (pl f n 2)) (mkOne f n (some (pl f n 2))))) :=
  RD_chn (first := F_X6_not2) (g := F_X6_both2_k5) (RL_both2 f n o) (by decide) (by decide) opA_lt (R_not2 f n o) (PN2 f n) (R_not2 f n o) (PN2 f n) (by decide) (by decide)
theorem RL_either2 (f : Nat → Int32) (n o : Nat) : RLp f n o opE F_X6_both2 F_X6_either2_k5 := by
  refine ⟨fun m q M L x h => ?_, fun m p M L x h => ?_⟩
  · rw [F_X6_either2_k5, F_isWordB h]; rfl
  · rw [F_X6_either2_k5, W_or h]; unfold opE F_X6_either2_k39 F_X6_either2_k44
    simp only [Option.bind_some, zb_if, decide_eq_true_eq]
    by_cases e : tc f n p = 262
    · simp only [if_pos e, bin9]
      congr 1; funext r; congr 1; funext s
      by_cases h1 : x = 0
      · rw [if_pos h1, if_pos h1]; by_cases h2 : s.1 = 0
        · rw [if_pos h2, if_pos h2]
        · rw [if_neg h2, if_neg h2]
      · rw [if_neg h1, if_neg h1]
    · simp only [if_neg e]
theorem R_either2 (f : Nat → Int32) (n o : Nat) : RD f n o 3 21 F_X6_either2 (mkE f n (mkNot f n (some (pl f n 2)) (mkOne f n (some (pl f n 2))))) :=
  RD_chn (first := F_X6_both2) (g := F_X6_either2_k5) (RL_either2 f n o) (by decide) (by decide) opE_lt (R_both2 f n o) (PP_and (PN2 f n)) (R_both2 f n o) (PP_and (PN2 f n)) (by decide) (by decide)
/-! level 1 -/
theorem PO1 (f : Nat → Int32) (n : Nat) : ∀ p, p ≤ n → PP n (mkOne f n (some (pl f n 3)) p) p := PP_one (PP_up f n 4)
theorem PN1 (f : Nat → Int32) (n : Nat) : ∀ p, p ≤ n → PP n (mkNot f n (some (pl f n 3)) (mkOne f n (some (pl f n 3))) p) p := PP_not (PP_up f n 4) (PO1 f n)
theorem R_atom1 (f : Nat → Int32) (n o : Nat) : RD f n o 4 21 F_X6_atom1 (mkOne f n (some (pl f n 3))) := RD_one1 (atomN := F_X6_atom2) (eitherN := F_X6_either2) (by decide) (R_atom2 f n o) (R_either2 f n o)
theorem RL_term1 (f : Nat → Int32) (n o : Nat) : RLp f n o opT F_X6_atom1 F_X6_term1_k5 := by
  refine ⟨fun m q M L x h => ?_, fun m p M L x h => ?_⟩
  · rw [F_X6_term1_k5, F_isSignB h]; rfl
  · rw [F_X6_term1_k5, F_isSignS h (by decide)]; unfold opT
    simp only [Option.bind_some, zb_if, decide_eq_true_eq]
    by_cases e : tc f n p = 42
    · simp only [if_pos e, bin15]
    · simp only [if_neg e]
theorem R_term1 (f : Nat → Int32) (n o : Nat) : RD f n o 4 22 F_X6_term1 (mkTerm f n (mkOne f n (some (pl f n 3)))) :=
  RD_chn (first := F_X6_atom1) (g := F_X6_term1_k5) (RL_term1 f n o) (by decide) (by decide) opT_lt (R_atom1 f n o) (PO1 f n) (R_atom1 f n o) (PO1 f n) (by decide) (by decide)
theorem RL_added1 (f : Nat → Int32) (n o : Nat) : RLp f n o opS F_X6_term1 F_X6_added1_k5 := by
  refine ⟨fun m q M L x h => ?_, fun m p M L x h => ?_⟩
  · rw [F_X6_added1_k5, F_isSignB h, F_isSignB h]; rfl
  · rw [F_X6_added1_k5, F_isSignS h (by decide), F_isSignS h (by decide)]; unfold opS F_X6_added1_k23 F_X6_added1_k39 F_X6_added1_k62
    simp only [Option.bind_some, zb_if, decide_eq_true_eq]
    by_cases e : tc f n p = 43
    · rw [R_L24 h (by decide) e]
      simp only [if_pos e, bin13, show lg_cmp (Int32.toInt64 43) 43 = 0 by decide, if_true, if_neg (show ¬ (1 : Int32) = 0 by decide)]
    · by_cases e2 : tc f n p = 45
      · rw [R_L24 h (by decide) e2]
        simp only [if_pos e2, if_neg e, bin14, if_neg (show ¬ lg_cmp (Int32.toInt64 45) 43 = 0 by decide), if_true]
      · simp only [if_neg e, if_neg e2]
theorem R_added1 (f : Nat → Int32) (n o : Nat) : RD f n o 4 23 F_X6_added1 (mkSum f n (mkOne f n (some (pl f n 3)))) :=
  RD_chn (first := F_X6_term1) (g := F_X6_added1_k5) (RL_added1 f n o) (by decide) (by decide) opS_lt (R_term1 f n o) (PP_term (PO1 f n)) (R_term1 f n o) (PP_term (PO1 f n)) (by decide) (by decide)
theorem R_not1 (f : Nat → Int32) (n o : Nat) : RD f n o 4 24 F_X6_not1 (mkNot f n (some (pl f n 3)) (mkOne f n (some (pl f n 3)))) := RD_not1 (added := F_X6_added1) (notN := F_X6_not2) (by decide) (R_added1 f n o) (PO1 f n) (R_not2 f n o)
theorem RL_both1 (f : Nat → Int32) (n o : Nat) : RLp f n o opA F_X6_not1 F_X6_both1_k5 := by
  refine ⟨fun m q M L x h => ?_, fun m p M L x h => ?_⟩
  · rw [F_X6_both1_k5, F_isWordB h]; rfl
  · rw [F_X6_both1_k5, W_and h]; unfold opA F_X6_both1_k44 F_X6_both1_k45
    simp only [Option.bind_some, zb_if, decide_eq_true_eq]
    by_cases e : tc f n p = 263
    · simp only [if_pos e, bin10]
      congr 1; funext r; congr 1; funext s
      by_cases h1 : x = 0
      · rw [if_pos h1, if_pos h1]
      · rw [if_neg h1, if_neg h1]; by_cases h2 : s.1 = 0
        · rw [if_pos h2, if_pos h2]
        · rw [if_neg h2, if_neg h2]
    · simp only [if_neg e]
theorem R_both1 (f : Nat → Int32) (n o : Nat) : RD f n o 4 25 F_X6_both1 (mkAnd f n (mkNot f n (some (pl f n 3)) (mkOne f n (some (pl f n 3))))) :=
  RD_chn (first := F_X6_not1) (g := F_X6_both1_k5) (RL_both1 f n o) (by decide) (by decide) opA_lt (R_not1 f n o) (PN1 f n) (R_not1 f n o) (PN1 f n) (by decide) (by decide)
theorem RL_either1 (f : Nat → Int32) (n o : Nat) : RLp f n o opE F_X6_both1 F_X6_either1_k5 := by
  refine ⟨fun m q M L x h => ?_, fun m p M L x h => ?_⟩
  · rw [F_X6_either1_k5, F_isWordB h]; rfl
  · rw [F_X6_either1_k5, W_or h]; unfold opE F_X6_either1_k39 F_X6_either1_k44
    simp only [Option.bind_some, zb_if, decide_eq_true_eq]
    by_cases e : tc f n p = 262
    · simp only [if_pos e, bin9]
      congr 1; funext r; congr 1; funext s
      by_cases h1 : x = 0
      · rw [if_pos h1, if_pos h1]; by_cases h2 : s.1 = 0
        · rw [if_pos h2, if_pos h2]
        · rw [if_neg h2, if_neg h2]
      · rw [if_neg h1, if_neg h1]
    · simp only [if_neg e]
theorem R_either1 (f : Nat → Int32) (n o : Nat) : RD f n o 4 26 F_X6_either1 (mkE f n (mkNot f n (some (pl f n 3)) (mkOne f n (some (pl f n 3))))) :=
  RD_chn (first := F_X6_both1) (g := F_X6_either1_k5) (RL_either1 f n o) (by decide) (by decide) opE_lt (R_both1 f n o) (PP_and (PN1 f n)) (R_both1 f n o) (PP_and (PN1 f n)) (by decide) (by decide)
/-! level 0 -/
theorem PO0 (f : Nat → Int32) (n : Nat) : ∀ p, p ≤ n → PP n (mkOne f n (some (pl f n 4)) p) p := PP_one (PP_up f n 5)
theorem PN0 (f : Nat → Int32) (n : Nat) : ∀ p, p ≤ n → PP n (mkNot f n (some (pl f n 4)) (mkOne f n (some (pl f n 4))) p) p := PP_not (PP_up f n 5) (PO0 f n)
theorem R_atom0 (f : Nat → Int32) (n o : Nat) : RD f n o 5 26 F_X6_atom0 (mkOne f n (some (pl f n 4))) := RD_one1 (atomN := F_X6_atom1) (eitherN := F_X6_either1) (by decide) (R_atom1 f n o) (R_either1 f n o)
theorem RL_term0 (f : Nat → Int32) (n o : Nat) : RLp f n o opT F_X6_atom0 F_X6_term0_k5 := by
  refine ⟨fun m q M L x h => ?_, fun m p M L x h => ?_⟩
  · rw [F_X6_term0_k5, F_isSignB h]; rfl
  · rw [F_X6_term0_k5, F_isSignS h (by decide)]; unfold opT
    simp only [Option.bind_some, zb_if, decide_eq_true_eq]
    by_cases e : tc f n p = 42
    · simp only [if_pos e, bin15]
    · simp only [if_neg e]
theorem R_term0 (f : Nat → Int32) (n o : Nat) : RD f n o 5 27 F_X6_term0 (mkTerm f n (mkOne f n (some (pl f n 4)))) :=
  RD_chn (first := F_X6_atom0) (g := F_X6_term0_k5) (RL_term0 f n o) (by decide) (by decide) opT_lt (R_atom0 f n o) (PO0 f n) (R_atom0 f n o) (PO0 f n) (by decide) (by decide)
theorem RL_added0 (f : Nat → Int32) (n o : Nat) : RLp f n o opS F_X6_term0 F_X6_added0_k5 := by
  refine ⟨fun m q M L x h => ?_, fun m p M L x h => ?_⟩
  · rw [F_X6_added0_k5, F_isSignB h, F_isSignB h]; rfl
  · rw [F_X6_added0_k5, F_isSignS h (by decide), F_isSignS h (by decide)]; unfold opS F_X6_added0_k23 F_X6_added0_k39 F_X6_added0_k62
    simp only [Option.bind_some, zb_if, decide_eq_true_eq]
    by_cases e : tc f n p = 43
    · rw [R_L24 h (by decide) e]
      simp only [if_pos e, bin13, show lg_cmp (Int32.toInt64 43) 43 = 0 by decide, if_true, if_neg (show ¬ (1 : Int32) = 0 by decide)]
    · by_cases e2 : tc f n p = 45
      · rw [R_L24 h (by decide) e2]
        simp only [if_pos e2, if_neg e, bin14, if_neg (show ¬ lg_cmp (Int32.toInt64 45) 43 = 0 by decide), if_true]
      · simp only [if_neg e, if_neg e2]
theorem R_added0 (f : Nat → Int32) (n o : Nat) : RD f n o 5 28 F_X6_added0 (mkSum f n (mkOne f n (some (pl f n 4)))) :=
  RD_chn (first := F_X6_term0) (g := F_X6_added0_k5) (RL_added0 f n o) (by decide) (by decide) opS_lt (R_term0 f n o) (PP_term (PO0 f n)) (R_term0 f n o) (PP_term (PO0 f n)) (by decide) (by decide)
theorem R_not0 (f : Nat → Int32) (n o : Nat) : RD f n o 5 29 F_X6_not0 (mkNot f n (some (pl f n 4)) (mkOne f n (some (pl f n 4)))) := RD_not1 (added := F_X6_added0) (notN := F_X6_not1) (by decide) (R_added0 f n o) (PO0 f n) (R_not1 f n o)
theorem RL_both0 (f : Nat → Int32) (n o : Nat) : RLp f n o opA F_X6_not0 F_X6_both0_k5 := by
  refine ⟨fun m q M L x h => ?_, fun m p M L x h => ?_⟩
  · rw [F_X6_both0_k5, F_isWordB h]; rfl
  · rw [F_X6_both0_k5, W_and h]; unfold opA F_X6_both0_k44 F_X6_both0_k45
    simp only [Option.bind_some, zb_if, decide_eq_true_eq]
    by_cases e : tc f n p = 263
    · simp only [if_pos e, bin10]
      congr 1; funext r; congr 1; funext s
      by_cases h1 : x = 0
      · rw [if_pos h1, if_pos h1]
      · rw [if_neg h1, if_neg h1]; by_cases h2 : s.1 = 0
        · rw [if_pos h2, if_pos h2]
        · rw [if_neg h2, if_neg h2]
    · simp only [if_neg e]
theorem R_both0 (f : Nat → Int32) (n o : Nat) : RD f n o 5 30 F_X6_both0 (mkAnd f n (mkNot f n (some (pl f n 4)) (mkOne f n (some (pl f n 4))))) :=
  RD_chn (first := F_X6_not0) (g := F_X6_both0_k5) (RL_both0 f n o) (by decide) (by decide) opA_lt (R_not0 f n o) (PN0 f n) (R_not0 f n o) (PN0 f n) (by decide) (by decide)
theorem RL_either0 (f : Nat → Int32) (n o : Nat) : RLp f n o opE F_X6_both0 F_X6_either0_k5 := by
  refine ⟨fun m q M L x h => ?_, fun m p M L x h => ?_⟩
  · rw [F_X6_either0_k5, F_isWordB h]; rfl
  · rw [F_X6_either0_k5, W_or h]; unfold opE F_X6_either0_k39 F_X6_either0_k44
    simp only [Option.bind_some, zb_if, decide_eq_true_eq]
    by_cases e : tc f n p = 262
    · simp only [if_pos e, bin9]
      congr 1; funext r; congr 1; funext s
      by_cases h1 : x = 0
      · rw [if_pos h1, if_pos h1]; by_cases h2 : s.1 = 0
        · rw [if_pos h2, if_pos h2]
        · rw [if_neg h2, if_neg h2]
      · rw [if_neg h1, if_neg h1]
    · simp only [if_neg e]
theorem R_either0 (f : Nat → Int32) (n o : Nat) : RD f n o 5 31 F_X6_either0 (mkE f n (mkNot f n (some (pl f n 4)) (mkOne f n (some (pl f n 4))))) :=
  RD_chn (first := F_X6_both0) (g := F_X6_either0_k5) (RL_either0 f n o) (by decide) (by decide) opE_lt (R_both0 f n o) (PP_and (PN0 f n)) (R_both0 f n o) (PP_and (PN0 f n)) (by decide) (by decide)
