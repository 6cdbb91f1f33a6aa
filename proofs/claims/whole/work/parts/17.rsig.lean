/-! PURE: words and signs as the reference asks for them; faults -/
def lt (w i : Nat) : Int32 := (jB.getD w []).getD i 0
def cw (w : Nat) : Int32 := [0, -1, -2, -3, -4, -5, -6, 259, 260, 261, 262, 263, 264].getD w 0
theorem lt_ok : ∀ w, w < 13 → 1 ≤ w → jL.getD w 0 ≤ 6 ∧ 2 ≤ jL.getD w 0 ∧ (∀ i, i < 8 → (lt w i = 0 ↔ jL.getD w 0 ≤ i)) := by decide
theorem lt_one0 : ∀ w, w < 13 → ∀ v, v < 13 → (1 ≤ w ∧ 1 ≤ v ∧ jB.getD w [] = jB.getD v []) → w = v := by decide +kernel
theorem getD_ext {A B : List Int32} (hl : A.length = B.length) (h : ∀ k, k < A.length → A.getD k 0 = B.getD k 0) : A = B := by
  refine List.ext_getElem hl (fun i q1 q2 => ?_)
  have := h i q1
  rw [List.getD_eq_getElem?_getD, List.getD_eq_getElem?_getD, List.getElem?_eq_getElem q1, List.getElem?_eq_getElem q2] at this
  exact this
theorem lt_one {w : Nat} (hw : w < 13) {v : Nat} (hv : v < 13) (h1 : 1 ≤ w) (h2 : 1 ≤ v) (h : jL.getD w 0 = jL.getD v 0) (hk : ∀ k, k < jL.getD w 0 → lt w k = lt v k) : w = v := by
  refine lt_one0 w hw v hv ⟨h1, h2, ?_⟩
  have e1 := (jB_len w hw).1
  have e2 := (jB_len v hv).1
  exact getD_ext (by omega) (fun i q1 => hk i (by omega))
theorem cw_inj : ∀ w, w < 13 → ∀ v, v < 13 → cw w = cw v → w = v := by decide
theorem cw_258 : ∀ w, w < 13 → 1 ≤ w → cw w ≠ 258 ∧ cw w ≠ 256 ∧ cw w ≠ 257 ∧ isSgn (cw w) = false := by decide
theorem spl_iff {f : Nat → Int32} {a e w : Nat} : spl f a e w = true ↔ e - a = jL.getD w 0 ∧ ∀ k, k < jL.getD w 0 → f (a + k) = lt w k := by unfold spl; rw [decide_eq_true_iff]; rfl
theorem spl_one {f : Nat → Int32} {a e w v : Nat} (hw : w < 13) (hv : v < 13) (h1 : 1 ≤ w) (h2 : 1 ≤ v) (s1 : spl f a e w = true) (s2 : spl f a e v = true) : w = v := by
  rw [spl_iff] at s1 s2
  refine lt_one hw hv h1 h2 (s1.1.symm.trans s2.1) (fun k hk => ?_)
  rw [← s1.2 k hk, s2.2 k (by rw [← s2.1, s1.1]; exact hk)]
theorem wc_cases (f : Nat → Int32) (a e : Nat) : (∃ w, w < 13 ∧ 1 ≤ w ∧ spl f a e w = true ∧ wc f a e = cw w) ∨ ((∀ w, w < 13 → 1 ≤ w → spl f a e w = false) ∧ wc f a e = 258) := by
  unfold wc
  by_cases h1 : spl f a e 1 = true
  · exact Or.inl ⟨1, by decide, by decide, h1, by simp [h1]; rfl⟩
  by_cases h2 : spl f a e 2 = true
  · exact Or.inl ⟨2, by decide, by decide, h2, by simp [h1, h2]; rfl⟩
  by_cases h3 : spl f a e 3 = true
  · exact Or.inl ⟨3, by decide, by decide, h3, by simp [h1, h2, h3]; rfl⟩
  by_cases h4 : spl f a e 4 = true
  · exact Or.inl ⟨4, by decide, by decide, h4, by simp [h1, h2, h3, h4]; rfl⟩
  by_cases h5 : spl f a e 5 = true
  · exact Or.inl ⟨5, by decide, by decide, h5, by simp [h1, h2, h3, h4, h5]; rfl⟩
  by_cases h6 : spl f a e 6 = true
  · exact Or.inl ⟨6, by decide, by decide, h6, by simp [h1, h2, h3, h4, h5, h6]; rfl⟩
  by_cases h7 : spl f a e 7 = true
  · exact Or.inl ⟨7, by decide, by decide, h7, by simp [h1, h2, h3, h4, h5, h6, h7]; rfl⟩
  by_cases h8 : spl f a e 8 = true
  · exact Or.inl ⟨8, by decide, by decide, h8, by simp [h1, h2, h3, h4, h5, h6, h7, h8]; rfl⟩
  by_cases h9 : spl f a e 9 = true
  · exact Or.inl ⟨9, by decide, by decide, h9, by simp [h1, h2, h3, h4, h5, h6, h7, h8, h9]; rfl⟩
  by_cases h10 : spl f a e 10 = true
  · exact Or.inl ⟨10, by decide, by decide, h10, by simp [h1, h2, h3, h4, h5, h6, h7, h8, h9, h10]; rfl⟩
  by_cases h11 : spl f a e 11 = true
  · exact Or.inl ⟨11, by decide, by decide, h11, by simp [h1, h2, h3, h4, h5, h6, h7, h8, h9, h10, h11]; rfl⟩
  by_cases h12 : spl f a e 12 = true
  · exact Or.inl ⟨12, by decide, by decide, h12, by simp [h1, h2, h3, h4, h5, h6, h7, h8, h9, h10, h11, h12]; rfl⟩
  right
  refine ⟨fun w hw h1 => ?_, by simp [h1, h2, h3, h4, h5, h6, h7, h8, h9, h10, h11, h12]⟩
  rcases (show w = 1 ∨ w = 2 ∨ w = 3 ∨ w = 4 ∨ w = 5 ∨ w = 6 ∨ w = 7 ∨ w = 8 ∨ w = 9 ∨ w = 10 ∨ w = 11 ∨ w = 12 by omega) with rfl | rfl | rfl | rfl | rfl | rfl | rfl | rfl | rfl | rfl | rfl | rfl <;> simp only [Bool.not_eq_true] at * <;> assumption
theorem wc_iff {f : Nat → Int32} {a e w : Nat} (hw : w < 13) (h1 : 1 ≤ w) : wc f a e = cw w ↔ spl f a e w = true := by
  rcases wc_cases f a e with ⟨v, hv, g1, g2, g3⟩ | ⟨g1, g2⟩
  · rw [g3]
    constructor
    · intro h; rw [← cw_inj v hv w hw h]; exact g2
    · intro h; rw [spl_one hw hv h1 g1 h g2]
  · rw [g2, g1 w hw h1]
    exact ⟨fun h => absurd h.symm (cw_258 w hw h1).1, fun h => by cases h⟩
theorem sgn_lit (x : Int32) (h : isSgn x = true) : x = 40 ∨ x = 41 ∨ x = 59 ∨ x = 43 ∨ x = 45 ∨ x = 42 ∨ x = 60 ∨ x = 61 := by simpa [isSgn] using h
theorem tc_word {f : Nat → Int32} {n p w : Nat} (hw : w < 13) (h1 : 1 ≤ w) : tc f n p = cw w ↔ rc f n p = 1 ∧ spl f (ta f n p) (te f n p) w = true := by
  have hc := cw_258 w hw h1
  unfold tc rc
  by_cases ha : n ≤ ta f n p
  · simp only [if_pos ha]; exact ⟨fun h => absurd h.symm hc.2.1, fun h => absurd h.1 (by decide)⟩
  · simp only [if_neg ha]
    by_cases hl : isLet (f (ta f n p)) = true
    · simp only [if_pos hl]; rw [wc_iff hw h1]; exact ⟨fun h => ⟨trivial, h⟩, fun h => h.2⟩
    · simp only [if_neg hl]
      by_cases hd : isDig (f (ta f n p)) = true
      · simp only [if_pos hd]
        by_cases h4 : te f n p - ta f n p ≤ 4
        · simp only [if_pos h4]; exact ⟨fun h => absurd h.symm hc.2.2.1, fun h => absurd h.1 (by decide)⟩
        · simp only [if_neg h4]; exact ⟨fun h => absurd h.symm hc.1, fun h => absurd h.1 (by decide)⟩
      · simp only [if_neg hd]
        by_cases hs : isSgn (f (ta f n p)) = true
        · simp only [if_pos hs]; exact ⟨(fun h => by rw [h, hc.2.2.2] at hs; cases hs), fun h => absurd h.1 (by decide)⟩
        · simp only [if_neg hs]; exact ⟨fun h => absurd h.symm hc.1, fun h => absurd h.1 (by decide)⟩
theorem tc_sign {f : Nat → Int32} {n p : Nat} {s : Int32} (hs : isSgn s = true) : tc f n p = s ↔ rc f n p = 3 ∧ f (ta f n p) = s := by
  have ne : s ≠ 256 ∧ s ≠ 257 ∧ s ≠ 258 := by rcases sgn_lit s hs with rfl | rfl | rfl | rfl | rfl | rfl | rfl | rfl <;> decide
  unfold tc rc
  by_cases ha : n ≤ ta f n p
  · simp only [if_pos ha]; exact ⟨fun h => absurd h.symm ne.1, fun h => absurd h.1 (by decide)⟩
  · simp only [if_neg ha]
    by_cases hl : isLet (f (ta f n p)) = true
    · simp only [if_pos hl]
      refine ⟨fun h => ?_, fun h => absurd h.1 (by decide)⟩
      exfalso
      rcases wc_cases f (ta f n p) (te f n p) with ⟨v, hv, g1, g2, g3⟩ | ⟨g1, g2⟩
      · rw [← h, g3, (cw_258 v hv g1).2.2.2] at hs; cases hs
      · rw [g2] at h; exact ne.2.2 h.symm
    · simp only [if_neg hl]
      by_cases hd : isDig (f (ta f n p)) = true
      · simp only [if_pos hd]
        by_cases h4 : te f n p - ta f n p ≤ 4
        · simp only [if_pos h4]; exact ⟨fun h => absurd h.symm ne.2.1, fun h => absurd h.1 (by decide)⟩
        · simp only [if_neg h4]; exact ⟨fun h => absurd h.symm ne.2.2, fun h => absurd h.1 (by decide)⟩
      · simp only [if_neg hd]
        by_cases hs2 : isSgn (f (ta f n p)) = true
        · simp only [if_pos hs2]; exact ⟨fun h => ⟨trivial, h⟩, fun h => h.2⟩
        · simp only [if_neg hs2]; exact ⟨fun h => absurd h.symm ne.2.2, fun h => absurd h.1 (by decide)⟩
theorem rc3_tc {f : Nat → Int32} {n p : Nat} (h : rc f n p = 3) : tc f n p = f (ta f n p) ∧ isSgn (f (ta f n p)) = true := by
  unfold rc at h; unfold tc
  by_cases ha : n ≤ ta f n p
  · rw [if_pos ha] at h; exact absurd h (by decide)
  · rw [if_neg ha] at h ⊢
    by_cases hl : isLet (f (ta f n p)) = true
    · rw [if_pos hl] at h; exact absurd h (by decide)
    · rw [if_neg hl] at h ⊢
      by_cases hd : isDig (f (ta f n p)) = true
      · rw [if_pos hd] at h; split at h <;> exact absurd h (by decide)
      · rw [if_neg hd] at h ⊢
        by_cases hs2 : isSgn (f (ta f n p)) = true
        · rw [if_pos hs2]; exact ⟨rfl, hs2⟩
        · rw [if_neg hs2] at h; exact absurd h (by decide)
/-- the reference stands well at p -/
def RS (f : Nat → Int32) (n o p : Nat) (M : Mi) (L : Ml) : Prop :=
  RT f n o M ∧ p ≤ n ∧ M 0 26 = 0 ∧ M 0 22 = rc f n p ∧ M 0 23 = nI (ta f n p) ∧ (rc f n p ≠ 4 → M 0 21 = nI (te f n p)) ∧ (rc f n p = 2 → L 0 24 = (tv f n p).toInt64) ∧ (rc f n p = 3 → L 0 24 = (tc f n p).toInt64)
/-- it has a fault -/
def RB (f : Nat → Int32) (n o q : Nat) (M : Mi) : Prop := RT f n o M ∧ M 0 26 = 1 ∧ M 0 27 = nI q
/-- what reading leaves -/
def RF (M M' : Mi) (L L' : Ml) : Prop := (∀ k, k ≠ 0 → M' k = M k) ∧ (∀ j, j ≠ 21 → j ≠ 22 → j ≠ 23 → j ≠ 26 → j ≠ 27 → M' 0 j = M 0 j) ∧ (∀ k j, (k ≠ 0 ∨ j ≠ 24) → L' k j = L k j)
theorem RF.rfl' (M : Mi) (L : Ml) : RF M M L L := ⟨fun _ _ => rfl, fun _ _ _ _ _ _ => rfl, fun _ _ _ => rfl⟩
theorem RF.trans {M M' M'' : Mi} {L L' L'' : Ml} (h : RF M M' L L') (g : RF M' M'' L' L'') : RF M M'' L L'' :=
  ⟨fun k hk => (g.1 k hk).trans (h.1 k hk), fun j a b c d e => (g.2.1 j a b c d e).trans (h.2.1 j a b c d e), fun k j q => (g.2.2 k j q).trans (h.2.2 k j q)⟩
theorem RF.rt {f : Nat → Int32} {n o : Nat} {M M' : Mi} {L L' : Ml} (h : RF M M' L L') (g : RT f n o M) : RT f n o M' := g.keep (h.1 1 (by decide)) (h.2.1 19 (by decide) (by decide) (by decide) (by decide) (by decide)) (h.2.1 20 (by decide) (by decide) (by decide) (by decide) (by decide))
theorem F_nextS {f : Nat → Int32} {n o p : Nat} {M : Mi} {L : Ml} (hR : RT f n o M) (h26 : M 0 26 = 0) (h21 : M 0 21 = nI p) (hp : p ≤ n) : ∃ M' L', F_X6_next M L = some (M', L') ∧ RS f n o p M' L' ∧ RF M M' L L' := by
  obtain ⟨M', L', h1, h2, h3, h4, h5, h6, h7, h8, h9⟩ := F_nextR L hR h21 hp
  have hF : RF M M' L L' := ⟨h2, fun j a b c _ _ => h3 j a b c, h4⟩
  exact ⟨M', L', h1, ⟨hF.rt hR, hp, by rw [h3 26 (by decide) (by decide) (by decide)]; exact h26, h5, h6, h7, h8, h9⟩, hF⟩
theorem RS.go {f : Nat → Int32} {n o p : Nat} {M : Mi} {L : Ml} (h : RS f n o p M L) (h4 : rc f n p ≠ 4) : ∃ M' L', F_X6_next M L = some (M', L') ∧ RS f n o (te f n p) M' L' ∧ RF M M' L L' := F_nextS h.1 h.2.2.1 (h.2.2.2.2.2.1 h4) (te_n h.2.1)
theorem F_failS {f : Nat → Int32} {n o p : Nat} {M : Mi} {L : Ml} (h : RS f n o p M L) : ∃ M', F_X6_fail M L = some (M', L) ∧ RB f n o (ta f n p) M' ∧ RF M M' L L := by
  unfold F_X6_fail
  rw [if_pos h.2.2.1]
  have hF : RF M (up2 (up2 M 0 26 1) 0 27 (M 0 23)) L L := ⟨fun k hk => by funext j; simp [up2, hk], fun j a b c d e => by simp [up2, d, e], fun _ _ _ => rfl⟩
  refine ⟨_, rfl, ⟨?_, ?_, ?_⟩, ?_⟩
  · rw [up2_b (show (23 : Nat) ≠ 26 by decide)]; exact hF.rt h.1
  · simp [up2]
  · simp [up2, h.2.2.2.2.1]
  · rw [up2_b (show (23 : Nat) ≠ 26 by decide)]; exact hF
theorem F_failB {f : Nat → Int32} {n o q : Nat} {M : Mi} {L : Ml} (h : RB f n o q M) : F_X6_fail M L = some (M, L) := by
  unfold F_X6_fail; rw [h.2.1, if_neg (by decide)]
theorem F_isSignB {f : Nat → Int32} {n o q : Nat} {M : Mi} {L : Ml} (h : RB f n o q M) (s : Int32) : F_X6_isSign M L s = some (zb false) := by
  unfold F_X6_isSign; rw [h.2.1, if_neg (by decide)]; rfl
theorem F_isWordB {f : Nat → Int32} {n o q : Nat} {M : Mi} {L : Ml} (h : RB f n o q M) (a b c d e g i j : Int32) : F_X6_isWord M L a b c d e g i j = some (zb false) := by
  unfold F_X6_isWord; rw [h.2.1, if_neg (by decide)]; rfl
theorem toL_inj (x y : Int32) : x.toInt64 = y.toInt64 ↔ x = y := by rw [l_eq, toL, toL, i_eq]
theorem F_isSignS {f : Nat → Int32} {n o p : Nat} {M : Mi} {L : Ml} (h : RS f n o p M L) {s : Int32} (hs : isSgn s = true) : F_X6_isSign M L s = some (zb (decide (tc f n p = s))) := by
  unfold F_X6_isSign
  obtain ⟨-, -, h26, h22, h23, h21, -, h24⟩ := h
  rw [h26, if_pos rfl, h22]
  by_cases h3 : rc f n p = 3
  · rw [if_pos h3, h24 h3]
    simp only [lg_eq0, toL_inj]
    by_cases e : tc f n p = s
    · rw [if_pos e, decide_eq_true e]; rfl
    · rw [if_neg e, decide_eq_false e]; rfl
  · rw [if_neg h3, decide_eq_false (fun e => h3 ((tc_sign hs).mp e).1)]; rfl
theorem F_isLetterS {f : Nat → Int32} {n o p : Nat} {M : Mi} {L : Ml} (h : RS f n o p M L) (h1 : rc f n p = 1) {i : Nat} (hi : i < 8) (c : Int32) : F_X6_isLetter M L (nI i) c = some (zb (decide (if te f n p ≤ ta f n p + i then c = 0 else f (ta f n p + i) = c))) := by
  obtain ⟨hR, hp, h26, h22, h23, h21, -, h24⟩ := h
  have hn := hR.1
  have e1 := ta_n (f := f) hp
  have e2 := te_n (f := f) hp
  unfold F_X6_isLetter
  rw [h23, h21 (by rw [h1]; decide), nI_add]
  by_cases hc : te f n p ≤ ta f n p + i
  · rw [if_pos (nI_le hc (by omega))]
    by_cases h0 : c = 0
    · rw [if_pos h0, rz_1]; simp [hc, h0]
    · rw [if_neg h0, rz_0]; simp [hc, h0]
  · rw [if_neg (nI_ge (by omega) (by omega)), F_byteAtR L hR (by omega), if_pos (by omega), Option.bind_some]
    by_cases h0 : f (ta f n p + i) = c
    · rw [if_pos h0, rz_1]; simp [hc, h0]
    · rw [if_neg h0, rz_0]; simp [hc, h0]
theorem F_isWordS {f : Nat → Int32} {n o p : Nat} {M : Mi} {L : Ml} (h : RS f n o p M L) {w : Nat} (hw : w < 13) (hw1 : 1 ≤ w) : F_X6_isWord M L (lt w 0) (lt w 1) (lt w 2) (lt w 3) (lt w 4) (lt w 5) (lt w 6) (lt w 7) = some (zb (decide (tc f n p = cw w))) := by
  have hh := h
  obtain ⟨hR, hp, h26, h22, h23, h21, -, h24⟩ := h
  have hn := hR.1
  have e1 := ta_n (f := f) hp
  have e2 := te_n (f := f) hp
  unfold F_X6_isWord
  rw [h26, if_pos rfl, h22]
  by_cases h1 : rc f n p = 1
  · rw [if_pos h1]
    have h21 := h21 (by rw [h1]; decide)
    have hle : ta f n p < te f n p := te_gt hp (fun q => by unfold rc at h1; rw [if_pos q] at h1; exact absurd h1 (by decide))
    have hlt : isLet (f (ta f n p)) = true := by
      unfold rc at h1
      rw [if_neg (by omega)] at h1
      by_cases hl : isLet (f (ta f n p)) = true
      · exact hl
      · rw [if_neg hl] at h1
        split at h1
        · split at h1 <;> exact absurd h1 (by decide)
        · split at h1 <;> exact absurd h1 (by decide)
    have hte : te f n p = rto isLet f n (ta f n p) := by unfold te; rw [if_neg (by omega), if_pos hlt]
    have hall : ∀ j, ta f n p ≤ j → j < te f n p → isLet (f j) = true := by rw [hte]; exact rto_all isLet f n (n - ta f n p) (ta f n p) (Nat.le_refl _)
    have L0 : ∀ c, F_X6_isLetter M L 0 c = some (zb (decide (if te f n p ≤ ta f n p + 0 then c = 0 else f (ta f n p + 0) = c))) := fun c => F_isLetterS hh h1 (i := 0) (by decide) c
    have L1 : ∀ c, F_X6_isLetter M L 1 c = some (zb (decide (if te f n p ≤ ta f n p + 1 then c = 0 else f (ta f n p + 1) = c))) := fun c => F_isLetterS hh h1 (i := 1) (by decide) c
    have L2 : ∀ c, F_X6_isLetter M L 2 c = some (zb (decide (if te f n p ≤ ta f n p + 2 then c = 0 else f (ta f n p + 2) = c))) := fun c => F_isLetterS hh h1 (i := 2) (by decide) c
    have L3 : ∀ c, F_X6_isLetter M L 3 c = some (zb (decide (if te f n p ≤ ta f n p + 3 then c = 0 else f (ta f n p + 3) = c))) := fun c => F_isLetterS hh h1 (i := 3) (by decide) c
    have L4 : ∀ c, F_X6_isLetter M L 4 c = some (zb (decide (if te f n p ≤ ta f n p + 4 then c = 0 else f (ta f n p + 4) = c))) := fun c => F_isLetterS hh h1 (i := 4) (by decide) c
    have L5 : ∀ c, F_X6_isLetter M L 5 c = some (zb (decide (if te f n p ≤ ta f n p + 5 then c = 0 else f (ta f n p + 5) = c))) := fun c => F_isLetterS hh h1 (i := 5) (by decide) c
    have L6 : ∀ c, F_X6_isLetter M L 6 c = some (zb (decide (if te f n p ≤ ta f n p + 6 then c = 0 else f (ta f n p + 6) = c))) := fun c => F_isLetterS hh h1 (i := 6) (by decide) c
    have L7 : ∀ c, F_X6_isLetter M L 7 c = some (zb (decide (if te f n p ≤ ta f n p + 7 then c = 0 else f (ta f n p + 7) = c))) := fun c => F_isLetterS hh h1 (i := 7) (by decide) c
    have e8 : (nI (ta f n p) + 8 < nI (te f n p)) ↔ ta f n p + 8 < te f n p := by
      rw [show nI (ta f n p) + 8 = nI (ta f n p + 8) from nI_add _ 8]; exact nI_ltI (by omega) (by omega)
    simp only [h23, h21, e8, L0, L1, L2, L3, L4, L5, L6, L7, Option.bind_some, zb_if]
    obtain ⟨g1, g2, g3⟩ := lt_ok w hw hw1
    by_cases hs : spl f (ta f n p) (te f n p) w = true
    · rw [decide_eq_true ((tc_word hw hw1).mpr ⟨h1, hs⟩)]
      rw [spl_iff] at hs
      have hD : ∀ i, i < 8 → (if te f n p ≤ ta f n p + i then lt w i = 0 else f (ta f n p + i) = lt w i) := by
        intro i hi
        by_cases q : te f n p ≤ ta f n p + i
        · rw [if_pos q]; exact (g3 i hi).mpr (by omega)
        · rw [if_neg q]; exact hs.2 i (by omega)
      rw [if_neg (by omega), decide_eq_true (hD 0 (by decide)), decide_eq_true (hD 1 (by decide)), decide_eq_true (hD 2 (by decide)), decide_eq_true (hD 3 (by decide)), decide_eq_true (hD 4 (by decide)), decide_eq_true (hD 5 (by decide)), decide_eq_true (hD 6 (by decide)), decide_eq_true (hD 7 (by decide))]
      rfl
    · rw [decide_eq_false (fun q => hs ((tc_word hw hw1).mp q).2)]
      by_cases h8 : ta f n p + 8 < te f n p
      · rw [if_pos h8]; rfl
      · rw [if_neg h8]
        by_cases d0 : (if te f n p ≤ ta f n p + 0 then lt w 0 = 0 else f (ta f n p + 0) = lt w 0)
        case' neg => rw [decide_eq_false d0]; rfl
        rw [decide_eq_true d0, if_pos rfl]
        by_cases d1 : (if te f n p ≤ ta f n p + 1 then lt w 1 = 0 else f (ta f n p + 1) = lt w 1)
        case' neg => rw [decide_eq_false d1]; rfl
        rw [decide_eq_true d1, if_pos rfl]
        by_cases d2 : (if te f n p ≤ ta f n p + 2 then lt w 2 = 0 else f (ta f n p + 2) = lt w 2)
        case' neg => rw [decide_eq_false d2]; rfl
        rw [decide_eq_true d2, if_pos rfl]
        by_cases d3 : (if te f n p ≤ ta f n p + 3 then lt w 3 = 0 else f (ta f n p + 3) = lt w 3)
        case' neg => rw [decide_eq_false d3]; rfl
        rw [decide_eq_true d3, if_pos rfl]
        by_cases d4 : (if te f n p ≤ ta f n p + 4 then lt w 4 = 0 else f (ta f n p + 4) = lt w 4)
        case' neg => rw [decide_eq_false d4]; rfl
        rw [decide_eq_true d4, if_pos rfl]
        by_cases d5 : (if te f n p ≤ ta f n p + 5 then lt w 5 = 0 else f (ta f n p + 5) = lt w 5)
        case' neg => rw [decide_eq_false d5]; rfl
        rw [decide_eq_true d5, if_pos rfl]
        by_cases d6 : (if te f n p ≤ ta f n p + 6 then lt w 6 = 0 else f (ta f n p + 6) = lt w 6)
        case' neg => rw [decide_eq_false d6]; rfl
        rw [decide_eq_true d6, if_pos rfl]
        by_cases d7 : (if te f n p ≤ ta f n p + 7 then lt w 7 = 0 else f (ta f n p + 7) = lt w 7)
        case' neg => rw [decide_eq_false d7]; rfl
        rw [decide_eq_true d7, if_pos rfl]
        exfalso
        apply hs
        rw [spl_iff]
        have hD : ∀ i, i < 8 → (if te f n p ≤ ta f n p + i then lt w i = 0 else f (ta f n p + i) = lt w i) := by
          intro i hi
          rcases (show i = 0 ∨ i = 1 ∨ i = 2 ∨ i = 3 ∨ i = 4 ∨ i = 5 ∨ i = 6 ∨ i = 7 by omega) with rfl | rfl | rfl | rfl | rfl | rfl | rfl | rfl <;> assumption
        have hlow : ∀ i, i < jL.getD w 0 → ta f n p + i < te f n p ∧ f (ta f n p + i) = lt w i := by
          intro i hi
          have := hD i (by omega)
          by_cases q : te f n p ≤ ta f n p + i
          · rw [if_pos q] at this; have := (g3 i (by omega)).mp this; omega
          · rw [if_neg q] at this; exact ⟨by omega, this⟩
        have hup : te f n p ≤ ta f n p + jL.getD w 0 := by
          have := hD (jL.getD w 0) (by omega)
          by_cases q : te f n p ≤ ta f n p + jL.getD w 0
          · exact q
          · rw [if_neg q, (g3 _ (by omega)).mpr (Nat.le_refl _)] at this
            have h9 := hall (ta f n p + jL.getD w 0) (by omega) (by omega)
            rw [this] at h9; exact absurd h9 (by decide)
        have := hlow (jL.getD w 0 - 1) (by omega)
        exact ⟨by omega, fun k hk => (hlow k hk).2⟩
  · rw [if_neg h1, decide_eq_false (fun e => h1 ((tc_word hw hw1).mp e).1)]; rfl
