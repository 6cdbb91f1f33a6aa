/-! PURE: a whole text, and the class' parts of it -/
def tpart (f : Nat → Int32) (n : Nat) (key : Int32) (p : Nat) (c : List Int32) : PR :=
  if tc f n p = key then pbd ((pl f n 5).2.2 (te f n p)) fun p' c' => if tc f n p' = 59 then .inr (te f n p', c ++ c') else .inl (ta f n p') else .inl (ta f n p)
/-- a fault's place, or the code and where its parts end -/
def ptext (f : Nat → Int32) (n : Nat) : Nat ⊕ (List Int32 × Nat × Nat) := match tpart f n 259 0 [] with
  | .inl q => .inl q
  | .inr x => match tpart f n 260 x.1 x.2 with
    | .inl q => .inl q
    | .inr y => match tpart f n 261 y.1 y.2 with
      | .inl q => .inl q
      | .inr z => if tc f n z.1 = 256 then .inr (z.2, x.2.length, y.2.length) else .inl (ta f n z.1)
theorem X_need {f : Nat → Int32} {n p : Nat} {c0 : List Int32} {M : Mi} (L : Ml) (h : XS f n p c0 M) {x : Int32} (hx : x ≠ 256) : ∃ M', F_X2_need M L x = some (M', L) ∧ XF M M' ∧ if tc f n p = x then XS f n (te f n p) c0 M' else XB (ta f n p) n M' := by
  unfold F_X2_need
  rw [h.2.2.2.2.2.2.1]
  by_cases e : tc f n p = x
  · simp only [if_pos e]
    obtain ⟨M', a, b, c⟩ := X_advance L h (by rw [e]; exact hx)
    exact ⟨M', by rw [a]; rfl, c, b⟩
  · simp only [if_neg e]
    obtain ⟨M', a, b, c⟩ := X_refuse L h
    exact ⟨M', by rw [a]; rfl, c, b⟩
theorem X_needEnd {f : Nat → Int32} {n p : Nat} {c0 : List Int32} {M : Mi} (L : Ml) (h : XS f n p c0 M) : ∃ M', F_X2_need M L 256 = some (M', L) ∧ XF M M' ∧ if tc f n p = 256 then M' 24 3 = -1 ∧ M' 24 8 = nI c0.length ∧ M' 26 = M 26 else XB (ta f n p) n M' := by
  unfold F_X2_need
  rw [h.2.2.2.2.2.2.1]
  by_cases e : tc f n p = 256
  · simp only [if_pos e]
    obtain ⟨hn, hp, hc, h25, h2, h3, h4, h5, h6, h7, h8, h26⟩ := h
    obtain ⟨M', e1, t1, t2, t3, t4, t5, t6⟩ := F_advanceX f n (te f n p) hn M L h25 h2 h6 (te_n hp)
    exact ⟨M', by rw [e1]; rfl, ⟨fun k a _ => t1 k a, fun j a => t2 j (by omega) (by omega) (by omega) (by omega)⟩, by rw [t2 3 (by decide) (by decide) (by decide) (by decide)]; exact h3, by rw [t2 8 (by decide) (by decide) (by decide) (by decide)]; exact h8, t1 26 (by decide)⟩
  · simp only [if_neg e]
    obtain ⟨M', a, b, c⟩ := X_refuse L h
    exact ⟨M', by rw [a]; rfl, c, b⟩
theorem X_part {f : Nat → Int32} {n p : Nat} {c0 : List Int32} {M : Mi} (L : Ml) (h : XS f n p c0 M) {x : Int32} (hx : x ≠ 256) : ∃ w M', F_X2_readPart M L x = some (w, M', L) ∧ XF M M' ∧ match tpart f n x p c0 with
    | .inl q => XB q n M'
    | .inr y => XS f n y.1 y.2 M' ∧ w = nI y.2.length := by
  unfold F_X2_readPart tpart
  obtain ⟨M1, a1, a2, a3⟩ := X_need L h hx
  have hX := (XD_all f n 5 (by decide)).2.2 FD (by unfold FD; omega)
  rw [a1, Option.bind_some]
  have bad : ∀ q (M2 : Mi), XB q n M2 → ∃ w M', ((F_X2_need M2 L 59).bind fun r13 => some (r13.1 24 8, r13.1, r13.2)) = some (w, M', L) ∧ XF M2 M' ∧ XB q n M' := by
    intro q M2 h2
    rw [X_needB L h2 (by decide)]
    exact ⟨_, M2, rfl, XF.rfl' M2, h2⟩
  by_cases e : tc f n p = x
  · rw [if_pos e] at a3 ⊢
    obtain ⟨M2, b1, b2, b3⟩ := hX.1 _ _ M1 L a3
    replace b1 : F_RD FD 0 M1 L 0 = some (M2, L) := b1
    rw [b1, Option.bind_some]
    cases er : (pl f n 5).2.2 (te f n p) with
    | inl q =>
      rw [er] at b3
      obtain ⟨w, M3, c1, c2, c3⟩ := bad q M2 b3
      exact ⟨w, M3, c1, (a2.trans b2).trans c2, c3⟩
    | inr y =>
      rw [er] at b3
      rw [show (y : Nat × List Int32) = (y.1, y.2) from rfl, pbd_r]
      obtain ⟨M3, c1, c2, c3⟩ := X_need L b3 (x := 59) (by decide)
      rw [c1]
      refine ⟨_, M3, rfl, (a2.trans b2).trans c2, ?_⟩
      by_cases e2 : tc f n y.1 = 59
      · rw [if_pos e2] at c3 ⊢
        exact ⟨c3, c3.2.2.2.2.2.2.2.2.2.2.1⟩
      · rw [if_neg e2] at c3 ⊢
        exact c3
  · rw [if_neg e] at a3 ⊢
    obtain ⟨M2, b1, b2, b3⟩ := hX.2 _ M1 L a3
    replace b1 : F_RD FD 0 M1 L 0 = some (M2, L) := b1
    rw [b1, Option.bind_some]
    obtain ⟨w, M3, c1, c2, c3⟩ := bad _ M2 b2
    exact ⟨w, M3, c1, (a2.trans b3).trans c2, c3⟩
theorem X_partB {n q : Nat} {M : Mi} (L : Ml) (h : XB q n M) {x : Int32} (hx : x ≠ 258) : ∃ w M', F_X2_readPart M L x = some (w, M', L) ∧ XF M M' ∧ XB q n M' := by
  unfold F_X2_readPart
  have hX := (XD_all (fun _ => 0) n 5 (by decide)).2.2 FD (by unfold FD; omega)
  rw [X_needB L h hx, Option.bind_some]
  obtain ⟨M2, b1, b2, b3⟩ := hX.2 _ M L h
  replace b1 : F_RD FD 0 M L 0 = some (M2, L) := b1
  rw [b1, Option.bind_some, X_needB L b2 (by decide)]
  exact ⟨_, M2, rfl, b3, b2⟩
theorem X_needB' {n q : Nat} {M : Mi} (L : Ml) (h : XB q n M) : F_X2_need M L 256 = some (M, L) := X_needB L h (by decide)
theorem tpart_len {f : Nat → Int32} {n : Nat} {key : Int32} {p : Nat} {c : List Int32} {y : Nat × List Int32} (h : tpart f n key p c = .inr y) : c.length ≤ y.2.length := by
  unfold tpart at h
  by_cases e : tc f n p = key
  · rw [if_pos e] at h
    cases er : (pl f n 5).2.2 (te f n p) with
    | inl q => rw [er] at h; cases h
    | inr x =>
      rw [er, show (x : Nat × List Int32) = (x.1, x.2) from rfl, pbd_r] at h
      by_cases e2 : tc f n x.1 = 59
      · rw [if_pos e2] at h; cases h; simp
      · rw [if_neg e2] at h; cases h
  · rw [if_neg e] at h; cases h
/-- all three parts and the end: what the reader holds then -/
theorem X_text {f : Nat → Int32} {n : Nat} {M : Mi} (L : Ml) (hn : n ≤ 160) (h25 : M 25 = f) (h2 : M 24 2 = nI n) (h3 : M 24 3 = -1) (h6 : M 24 6 = 0) (h8 : M 24 8 = 0) :
    ∃ w1 w2 w3 M1 M2 M3 M4 M5, F_X2_advance M L = some (M1, L) ∧ F_X2_readPart M1 L 259 = some (w1, M2, L) ∧ F_X2_readPart M2 L 260 = some (w2, M3, L) ∧ F_X2_readPart M3 L 261 = some (w3, M4, L) ∧ F_X2_need M4 L 256 = some (M5, L) ∧ XF M M5 ∧
    match ptext f n with
    | .inl q => XB q n M5
    | .inr x => M5 24 3 = -1 ∧ M5 24 8 = nI x.1.length ∧ x.1.length ≤ n ∧ w1 = nI x.2.1 ∧ w2 = nI x.2.2 ∧ x.2.1 ≤ x.2.2 ∧ x.2.2 ≤ x.1.length ∧ ∀ i, i < x.1.length → M5 26 i = x.1.getD i 0 := by
  obtain ⟨M1, e1, t1, t2, t3, t4, t5, t6⟩ := F_advanceX f n 0 hn M L h25 h2 h6 (Nat.zero_le _)
  have s1 : XS f n 0 [] M1 := ⟨hn, Nat.zero_le _, Nat.zero_le _, by rw [t1 25 (by decide)]; exact h25, by rw [t2 2 (by decide) (by decide) (by decide) (by decide)]; exact h2, by rw [t2 3 (by decide) (by decide) (by decide) (by decide)]; exact h3, t3, t4, t5, t6, by rw [t2 8 (by decide) (by decide) (by decide) (by decide)]; exact h8, fun i hi => by simp at hi⟩
  have f1 : XF M M1 := ⟨fun k a _ => t1 k a, fun j a => t2 j (by omega) (by omega) (by omega) (by omega)⟩
  obtain ⟨w1, M2, a1, a2, a3⟩ := X_part L s1 (x := 259) (by decide)
  unfold ptext
  cases r1 : tpart f n 259 0 [] with
  | inl q =>
    rw [r1] at a3
    obtain ⟨w2, M3, b1, b2, b3⟩ := X_partB L a3 (x := 260) (by decide)
    obtain ⟨w3, M4, c1, c2, c3⟩ := X_partB L b3 (x := 261) (by decide)
    exact ⟨w1, w2, w3, M1, M2, M3, M4, M4, e1, a1, b1, c1, X_needB' L c3, ((f1.trans a2).trans b2).trans c2, c3⟩
  | inr x =>
    rw [r1] at a3
    obtain ⟨s2, hw1⟩ := a3
    obtain ⟨w2, M3, b1, b2, b3⟩ := X_part L s2 (x := 260) (by decide)
    dsimp only
    cases r2 : tpart f n 260 x.1 x.2 with
    | inl q =>
      rw [r2] at b3
      obtain ⟨w3, M4, c1, c2, c3⟩ := X_partB L b3 (x := 261) (by decide)
      exact ⟨w1, w2, w3, M1, M2, M3, M4, M4, e1, a1, b1, c1, X_needB' L c3, ((f1.trans a2).trans b2).trans c2, c3⟩
    | inr y =>
      rw [r2] at b3
      obtain ⟨s3, hw2⟩ := b3
      obtain ⟨w3, M4, c1, c2, c3⟩ := X_part L s3 (x := 261) (by decide)
      dsimp only
      cases r3 : tpart f n 261 y.1 y.2 with
      | inl q =>
        rw [r3] at c3
        exact ⟨w1, w2, w3, M1, M2, M3, M4, M4, e1, a1, b1, c1, X_needB' L c3, ((f1.trans a2).trans b2).trans c2, c3⟩
      | inr z =>
        rw [r3] at c3
        obtain ⟨s4, hw3⟩ := c3
        obtain ⟨M5, d1, d2, d3⟩ := X_needEnd L s4
        dsimp only
        refine ⟨w1, w2, w3, M1, M2, M3, M4, M5, e1, a1, b1, c1, d1, (((f1.trans a2).trans b2).trans c2).trans d2, ?_⟩
        by_cases e : tc f n z.1 = 256
        · rw [if_pos e] at d3 ⊢
          obtain ⟨d3, d4, d5⟩ := d3
          have l2 := tpart_len r2
          have l3 := tpart_len r3
          exact ⟨d3, d4, Nat.le_trans s4.2.2.1 s4.2.1, hw1, hw2, l2, l3, by rw [d5]; exact s4.2.2.2.2.2.2.2.2.2.2.2⟩
        · rw [if_neg e] at d3 ⊢
          exact d3
