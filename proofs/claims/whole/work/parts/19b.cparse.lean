/-! PURE: the class' reader, its levels -/
theorem X_putTok {f : Nat → Int32} {n p : Nat} {c0 : List Int32} {M : Mi} (L : Ml) (h : XS f n p c0 M) (hne : tc f n p ≠ 256) (x : Int32) : ∃ M', ((F_X2_write M L x).bind fun r => (F_X2_advance r.1 r.2).bind fun r => some (r.1, r.2)) = some (M', L) ∧ XS f n (te f n p) (c0 ++ [x]) M' ∧ XF M M' := by
  obtain ⟨hn, hp, hcp, h25, h2, h3, h4, h5, h6, h7, h8, h26⟩ := h
  have hg := te_go hp hne
  have htn := te_n (f := f) hp
  unfold F_X2_write
  rw [h8, if_neg (show ¬ (160 : Int32) ≤ nI c0.length from nI_ge (b := 160) (by omega) (by omega)), if_pos (ix_nI (by omega) (by decide)), nI_clamp (by omega), Option.bind_some]
  obtain ⟨M', e1, t1, t2, t3, t4, t5, t6⟩ := F_advanceX f n (te f n p) hn (up2 (up2 M 26 c0.length x) 24 8 (up2 M 26 c0.length x 24 8 + 1)) L (by rw [up2_ne (by decide), up2_ne (by decide)]; exact h25) (by rw [up2_b (by decide), up2_a (by decide)]; exact h2) (by rw [up2_b (by decide), up2_a (by decide)]; exact h6) htn
  rw [e1]
  refine ⟨M', rfl, ⟨hn, htn, by simp; omega, ?_, ?_, ?_, t3, t4, t5, t6, ?_, ?_⟩, ?_, ?_⟩
  · rw [t1 25 (by decide), up2_ne (by decide), up2_ne (by decide)]; exact h25
  · rw [t2 2 (by decide) (by decide) (by decide) (by decide), up2_b (by decide), up2_a (by decide)]; exact h2
  · rw [t2 3 (by decide) (by decide) (by decide) (by decide), up2_b (by decide), up2_a (by decide)]; exact h3
  · rw [t2 8 (by decide) (by decide) (by decide) (by decide), up2_at, up2_a (by decide), h8, nI_1]; simp
  · intro i hi
    rw [t1 26 (by decide), up2_a (by decide)]
    simp only [List.length_append, List.length_cons, List.length_nil] at hi
    by_cases e : i = c0.length
    · subst e; rw [up2_at]; simp
    · rw [up2_b e, h26 i (by omega)]
      simp only [List.getD_eq_getElem?_getD]
      rw [List.getElem?_append_left (by omega)]
  · intro k a b; rw [t1 k a]; funext j; simp [up2, a, b]
  · intro j a
    rw [t2 j (by omega) (by omega) (by omega) (by omega)]
    have : j ≠ 8 := by omega
    simp [up2, *]
theorem XL_Term (f : Nat → Int32) (n g : Nat) (x : Int32) : XL f n opT (fun M L => F_RD g 5 M L x) (fun m M L y => F_X2_readTerm_k7 (F_RD g) m M L x y) := by
  intro m M L y
  show F_X2_readTerm_k7 (F_RD g) (m + 1) M L x y = _
  rw [F_X2_readTerm_k7]; unfold opT
  by_cases h : (160 : Int32) ≤ y
  · rw [if_pos h, if_pos h]
  · rw [if_neg h, if_neg h]
    by_cases h1 : M 24 4 = 42
    · simp only [if_pos h1]
    · simp only [if_neg h1]
theorem XL_And (f : Nat → Int32) (n g : Nat) (x : Int32) : XL f n opA (fun M L => F_RD g 2 M L x) (fun m M L y => F_X2_readAnd_k7 (F_RD g) m M L x y) := by
  intro m M L y
  show F_X2_readAnd_k7 (F_RD g) (m + 1) M L x y = _
  rw [F_X2_readAnd_k7]; unfold opA
  by_cases h : (160 : Int32) ≤ y
  · rw [if_pos h, if_pos h]
  · rw [if_neg h, if_neg h]
    by_cases h1 : M 24 4 = 263
    · simp only [if_pos h1]
    · simp only [if_neg h1]
theorem XL_E (f : Nat → Int32) (n g : Nat) (x : Int32) : XL f n opE (fun M L => F_RD g 1 M L x) (fun m M L y => F_X2_readE_k7 (F_RD g) m M L x y) := by
  intro m M L y
  show F_X2_readE_k7 (F_RD g) (m + 1) M L x y = _
  rw [F_X2_readE_k7]; unfold opE
  by_cases h : (160 : Int32) ≤ y
  · rw [if_pos h, if_pos h]
  · rw [if_neg h, if_neg h]
    by_cases h1 : M 24 4 = 262
    · simp only [if_pos h1]
    · simp only [if_neg h1]
theorem XL_Sum (f : Nat → Int32) (n g : Nat) (x : Int32) : XL f n opS (fun M L => F_RD g 4 M L x) (fun m M L y => F_X2_readSum_k7 (F_RD g) m M L x y) := by
  intro m M L y
  show F_X2_readSum_k7 (F_RD g) (m + 1) M L x y = _
  rw [F_X2_readSum_k7]; unfold opS F_X2_readSum_k32 F_X2_readSum_k48
  by_cases h : (160 : Int32) ≤ y
  · rw [if_pos h, if_pos h]
  · rw [if_neg h, if_neg h]
    by_cases h1 : M 24 4 = 43
    · simp only [if_pos h1]
    · by_cases h2 : M 24 4 = 45
      · simp only [if_pos h2, if_neg h1]
      · simp only [if_neg h1, if_neg h2]
theorem XD_un {f : Nat → Int32} {n : Nat} {sub : Mi → Ml → Option (Mi × Ml)} {r : Nat → PR} (hs : XD f n sub r) (hr : ∀ p, p ≤ n → PP n (r p) p) (o : Int32) {p : Nat} {c0 : List Int32} {M : Mi} (L : Ml) (h : XS f n p c0 M) (hc : c0.length < p) :
    ∃ M', ((sub M L).bind fun r => (F_X2_write r.1 r.2 o).bind fun r => some (r.1, r.2)) = some (M', L) ∧ XF M M' ∧ match pbd (r p) (fun p' c => .inr (p', c ++ [o])) with
      | .inl q => XB q n M'
      | .inr x => XS f n x.1 (c0 ++ x.2) M' := by
  obtain ⟨M1, a1, a2, a3⟩ := hs.1 p c0 M L h
  have hpp := hr p h.2.1
  rw [a1, Option.bind_some]
  cases er : r p with
  | inl q =>
    rw [er] at a3
    obtain ⟨M2, b1, b2, b3⟩ := X_writeB L a3 o
    rw [b1]
    exact ⟨M2, rfl, a2.trans b3, b2⟩
  | inr x =>
    rw [er] at a3 hpp
    obtain ⟨g1, g2, g3⟩ := hpp
    obtain ⟨M2, b1, b2, b3⟩ := X_write L a3 (by simp only [List.length_append]; omega) o
    rw [b1]
    exact ⟨M2, rfl, a2.trans b3, by show XS f n x.1 (c0 ++ (x.2 ++ [o])) M2; rw [← List.append_assoc]; exact b2⟩
theorem nI_full {d : Nat} (hd : d + 1 ≤ 5) : ¬ (5 : Int32) ≤ nI (5 - (d + 1)) := nI_ge (b := 5) (by omega) (by decide)
theorem nI_up {d : Nat} (hd : d + 1 ≤ 5) : nI (5 - (d + 1)) + 1 = nI (5 - d) := by rw [nI_1]; congr 1; omega
theorem XD_one {f : Nat → Int32} {n d g : Nat} (hd : d ≤ 5) (hu : ∀ e, d = e + 1 → XD f n (fun M L => F_RD g 5 M L (nI (5 - e))) (pl f n e).1 ∧ XD f n (fun M L => F_RD g 0 M L (nI (5 - e))) (pl f n e).2.2) :
    XD f n (fun M L => F_X2_readOne (F_RD g) M L (nI (5 - d))) (mkOne f n (upl f n d)) := by
  refine ⟨fun p c0 M L h => ?_, fun q M L h => ?_⟩
  · have htk := h.2.2.2.2.2.2.1
    dsimp only
    unfold F_X2_readOne mkOne
    rw [htk]
    by_cases h1 : tc f n p = 257
    · rw [if_pos h1, if_pos h1]
      obtain ⟨M', a1, a2, a3⟩ := X_putTok L h (by rw [h1]; decide) (M 24 7)
      rw [h.2.2.2.2.2.2.2.2.2.1 h1] at a2
      exact ⟨M', a1, a3, a2⟩
    rw [if_neg h1, if_neg h1]
    by_cases h2 : tc f n p < 0
    · rw [if_neg (by rw [i_le]; rw [i_lt] at h2; omega), if_pos h2]
      obtain ⟨M', a1, a2, a3⟩ := X_putTok L h (fun e => by rw [e] at h2; exact absurd h2 (by decide)) (tc f n p)
      exact ⟨M', a1, a3, a2⟩
    rw [if_pos (by rw [i_le]; rw [i_lt] at h2; omega), if_neg h2]
    by_cases h3 : tc f n p = 45
    · rw [if_pos h3, if_pos h3]
      cases d with
      | zero =>
        obtain ⟨M', a1, a2, a3⟩ := X_refuse L h
        unfold F_X2_readOne_k81 F_X2_readOne_k129
        rw [if_pos (show (5 : Int32) ≤ nI (5 - 0) by decide), htk, if_neg (show ¬ tc f n p = 40 by rw [h3]; decide), a1]
        exact ⟨M', rfl, a3, a2⟩
      | succ d =>
        have hne : tc f n p ≠ 256 := by rw [h3]; decide
        obtain ⟨M', a1, a2, a3⟩ := X_advance L h hne
        have hg := te_go h.2.1 hne
        obtain ⟨M2, b1, b2, b3⟩ := XD_un (hu d rfl).1 (PP_pl f n d).1 (-8) L a2 (by have := h.2.2.1; omega)
        rw [if_neg (nI_full hd)]
        simp only [a1, Option.bind_some, nI_up hd]
        exact ⟨M2, b1, a3.trans b2, b3⟩
    rw [if_neg h3, if_neg h3]
    unfold F_X2_readOne_k81 F_X2_readOne_k129
    rw [htk]
    by_cases h4 : tc f n p = 40
    · rw [if_pos h4, if_pos h4]
      cases d with
      | zero =>
        obtain ⟨M', a1, a2, a3⟩ := X_refuse L h
        rw [if_pos (show (5 : Int32) ≤ nI (5 - 0) by decide), a1]
        exact ⟨M', rfl, a3, a2⟩
      | succ d =>
        have hne : tc f n p ≠ 256 := by rw [h4]; decide
        obtain ⟨M', a1, a2, a3⟩ := X_advance L h hne
        obtain ⟨M2, b1, b2, b3⟩ := (hu d rfl).2.1 _ _ M' L a2
        replace b1 : F_RD g 0 M' L (nI (5 - d)) = some (M2, L) := b1
        rw [if_neg (nI_full hd)]
        simp only [a1, Option.bind_some, nI_up hd, b1, upl]
        cases er : (pl f n d).2.2 (te f n p) with
        | inl q =>
          rw [er] at b3
          rw [b3.tok, if_neg (by decide), X_refuseB L b3]
          exact ⟨M2, rfl, a3.trans b2, b3⟩
        | inr x =>
          rw [er] at b3
          rw [show (x : Nat × List Int32) = (x.1, x.2) from rfl, pbd_r]
          rw [b3.2.2.2.2.2.2.1]
          by_cases h5 : tc f n x.1 = 41
          · simp only [if_pos h5]
            obtain ⟨M3, c1, c2, c3⟩ := X_advance L b3 (by rw [h5]; decide)
            rw [c1]
            exact ⟨M3, rfl, (a3.trans b2).trans c3, c2⟩
          · simp only [if_neg h5]
            obtain ⟨M3, c1, c2, c3⟩ := X_refuse L b3
            rw [c1]
            exact ⟨M3, rfl, (a3.trans b2).trans c3, c2⟩
    rw [if_neg h4, if_neg h4]
    obtain ⟨M3, c1, c2, c3⟩ := X_refuse L h
    rw [c1]
    exact ⟨M3, rfl, c3, c2⟩
  · simp only [F_X2_readOne, F_X2_readOne_k81, F_X2_readOne_k129, h.tok]
    rw [if_neg (by decide), if_pos (by decide), if_neg (by decide), if_neg (by decide), X_refuseB L h]
    exact ⟨M, rfl, h, XF.rfl' M⟩
theorem XD_cmp {f : Nat → Int32} {n g : Nat} {one : Nat → PR} {x : Int32} (hs : XD f n (fun M L => F_RD g 3 M L x) (mkSum f n one)) (hr : ∀ p, p ≤ n → PP n (one p) p) :
    XD f n (fun M L => F_X2_readNot_k33 (F_RD g) M L x) (mkCmp f n one) := by
  unfold F_X2_readNot_k33
  refine ⟨fun p c0 M L h => ?_, fun q M L h => ?_⟩
  · obtain ⟨M1, a1, a2, a3⟩ := hs.1 p c0 M L h
    have hpp := PP_sum (f := f) hr p h.2.1
    replace a1 : F_RD g 3 M L x = some (M1, L) := a1
    simp only [a1, Option.bind_some, mkCmp]
    cases er : mkSum f n one p with
    | inl q =>
      rw [er] at a3
      rw [a3.tok, if_neg (by decide), if_neg (by decide)]
      exact ⟨M1, rfl, a2, a3⟩
    | inr y =>
      rw [er] at a3 hpp
      obtain ⟨g1, g2, g3⟩ := hpp
      have hcl := a3.2.2.1
      rw [show (y : Nat × List Int32) = (y.1, y.2) from rfl, pbd_r, a3.2.2.2.2.2.2.1]
      have go : ∀ o, tc f n y.1 ≠ 256 → ∃ M', F_X2_readNot_k72 (F_RD g) M1 L x o = some (M', L) ∧ XF M M' ∧ match pbd (mkSum f n one (te f n y.1)) (fun p' c' => .inr (p', y.2 ++ c' ++ [o])) with
          | .inl q => XB q n M'
          | .inr x => XS f n x.1 (c0 ++ x.2) M' := by
        intro o hne
        have hg := te_go g1 hne
        obtain ⟨M2, b1, b2, b3⟩ := X_advance L a3 hne
        obtain ⟨M3, c1, c2, c3⟩ := XD_un hs (fun p hp => PP_sum hr p hp) o L b2 (by show (c0 ++ y.2).length < te f n y.1; omega)
        refine ⟨M3, ?_, (a2.trans b3).trans c2, ?_⟩
        · unfold F_X2_readNot_k72
          rw [b1, Option.bind_some]; exact c1
        · cases er2 : mkSum f n one (te f n y.1) with
          | inl q => rw [er2] at c3; exact c3
          | inr z =>
            rw [er2] at c3
            show XS f n z.1 (c0 ++ (y.2 ++ z.2 ++ [o])) M3
            have c3' : XS f n z.1 ((c0 ++ y.2) ++ (z.2 ++ [o])) M3 := c3
            simpa only [List.append_assoc] using c3'
      unfold opC F_X2_readNot_k56
      by_cases h1 : tc f n y.1 = 60
      · simp only [if_pos h1, a3.2.2.2.2.2.2.1]
        exact go (-11) (by rw [h1]; decide)
      · by_cases h2 : tc f n y.1 = 61
        · simp only [if_neg h1, if_pos h2, a3.2.2.2.2.2.2.1]
          exact go (-12) (by rw [h2]; decide)
        · simp only [if_neg h1, if_neg h2]
          exact ⟨M1, rfl, a2, a3⟩
  · obtain ⟨M1, a1, a2, a3⟩ := hs.2 q M L h
    replace a1 : F_RD g 3 M L x = some (M1, L) := a1
    simp only [a1, Option.bind_some, a2.tok]
    rw [if_neg (by decide), if_neg (by decide)]
    exact ⟨M1, rfl, a2, a3⟩
theorem mkCmp_l {f : Nat → Int32} {n : Nat} {one : Nat → PR} {p q : Nat} (h : one p = .inl q) : mkCmp f n one p = .inl q := by
  unfold mkCmp mkSum mkTerm
  rw [h, pbd_l, pbd_l, pbd_l]
theorem mkOne_not {f : Nat → Int32} {n : Nat} {up : Option PL} {p : Nat} (h : tc f n p = 264) : mkOne f n up p = .inl (ta f n p) := by
  unfold mkOne
  rw [h, if_neg (by decide), if_neg (by decide), if_neg (by decide), if_neg (by decide)]
theorem XD_not {f : Nat → Int32} {n d g : Nat} {one : Nat → PR} (hd : d ≤ 5) (h1n : ∀ p, tc f n p = 264 → one p = .inl (ta f n p)) (hs : XD f n (fun M L => F_RD g 3 M L (nI (5 - d))) (mkSum f n one)) (hr : ∀ p, p ≤ n → PP n (one p) p) (hu : ∀ e, d = e + 1 → XD f n (fun M L => F_RD g 2 M L (nI (5 - e))) (pl f n e).2.1) :
    XD f n (fun M L => F_X2_readNot (F_RD g) M L (nI (5 - d))) (mkNot f n (upl f n d) one) := by
  have hcmp := XD_cmp hs hr
  refine ⟨fun p c0 M L h => ?_, fun q M L h => ?_⟩
  · have htk := h.2.2.2.2.2.2.1
    dsimp only
    unfold F_X2_readNot mkNot
    rw [htk]
    by_cases h1 : tc f n p = 264
    · rw [if_pos h1, if_pos h1]
      cases d with
      | zero =>
        have hx := hcmp.1 p c0 M L h
        rw [mkCmp_l (h1n p h1)] at hx
        rw [if_pos (show (5 : Int32) ≤ nI (5 - 0) by decide)]
        exact hx
      | succ d =>
        have hne : tc f n p ≠ 256 := by rw [h1]; decide
        obtain ⟨M', a1, a2, a3⟩ := X_advance L h hne
        have hg := te_go h.2.1 hne
        obtain ⟨M2, b1, b2, b3⟩ := XD_un (hu d rfl) (PP_pl f n d).2.1 (-7) L a2 (by have := h.2.2.1; omega)
        rw [if_neg (nI_full hd)]
        simp only [a1, Option.bind_some, nI_up hd]
        exact ⟨M2, b1, a3.trans b2, b3⟩
    · rw [if_neg h1, if_neg h1]
      exact hcmp.1 p c0 M L h
  · simp only [F_X2_readNot, h.tok]
    rw [if_neg (by decide)]
    exact hcmp.2 q M L h
/-- all levels, by what may yet be opened -/
theorem XD_all (f : Nat → Int32) (n : Nat) : ∀ d, d ≤ 5 → (∀ g, 6 * d + 1 ≤ g → XD f n (fun M L => F_RD g 5 M L (nI (5 - d))) (pl f n d).1) ∧ (∀ g, 6 * d + 4 ≤ g → XD f n (fun M L => F_RD g 2 M L (nI (5 - d))) (pl f n d).2.1) ∧ (∀ g, 6 * d + 6 ≤ g → XD f n (fun M L => F_RD g 0 M L (nI (5 - d))) (pl f n d).2.2) := by
  have lev : ∀ d, d ≤ 5 → (∀ e, d = e + 1 → (∀ g, 6 * e + 1 ≤ g → XD f n (fun M L => F_RD g 5 M L (nI (5 - e))) (pl f n e).1) ∧ (∀ g, 6 * e + 4 ≤ g → XD f n (fun M L => F_RD g 2 M L (nI (5 - e))) (pl f n e).2.1) ∧ (∀ g, 6 * e + 6 ≤ g → XD f n (fun M L => F_RD g 0 M L (nI (5 - e))) (pl f n e).2.2)) →
      (∀ g, 6 * d + 1 ≤ g → XD f n (fun M L => F_RD g 5 M L (nI (5 - d))) (pl f n d).1) ∧ (∀ g, 6 * d + 4 ≤ g → XD f n (fun M L => F_RD g 2 M L (nI (5 - d))) (pl f n d).2.1) ∧ (∀ g, 6 * d + 6 ≤ g → XD f n (fun M L => F_RD g 0 M L (nI (5 - d))) (pl f n d).2.2) := by
    intro d hd hu
    have hP := PP_up f n d
    have P1 : ∀ p, p ≤ n → PP n (mkOne f n (upl f n d) p) p := PP_one hP
    have P2 : ∀ p, p ≤ n → PP n (mkNot f n (upl f n d) (mkOne f n (upl f n d)) p) p := PP_not hP P1
    have L5 : ∀ g, 6 * d + 1 ≤ g → XD f n (fun M L => F_RD g 5 M L (nI (5 - d))) (mkOne f n (upl f n d)) := by
      intro g hg
      obtain ⟨g, rfl⟩ : ∃ k, g = k + 1 := ⟨g - 1, by omega⟩
      exact XD_one hd fun e he => ⟨(hu e he).1 g (by omega), (hu e he).2.2 g (by omega)⟩
    have L4 : ∀ g, 6 * d + 2 ≤ g → XD f n (fun M L => F_RD g 4 M L (nI (5 - d))) (mkTerm f n (mkOne f n (upl f n d))) := by
      intro g hg
      obtain ⟨g, rfl⟩ : ∃ k, g = k + 1 := ⟨g - 1, by omega⟩
      exact XD_chn (XL_Term f n g _) (by decide) (by decide) (L5 g (by omega)) P1 (L5 g (by omega)) P1
    have L3 : ∀ g, 6 * d + 3 ≤ g → XD f n (fun M L => F_RD g 3 M L (nI (5 - d))) (mkSum f n (mkOne f n (upl f n d))) := by
      intro g hg
      obtain ⟨g, rfl⟩ : ∃ k, g = k + 1 := ⟨g - 1, by omega⟩
      exact XD_chn (XL_Sum f n g _) (by decide) (by decide) (L4 g (by omega)) (PP_term P1) (L4 g (by omega)) (PP_term P1)
    have L2 : ∀ g, 6 * d + 4 ≤ g → XD f n (fun M L => F_RD g 2 M L (nI (5 - d))) (mkNot f n (upl f n d) (mkOne f n (upl f n d))) := by
      intro g hg
      obtain ⟨g, rfl⟩ : ∃ k, g = k + 1 := ⟨g - 1, by omega⟩
      exact XD_not hd (fun p hp => mkOne_not hp) (L3 g (by omega)) P1 fun e he => (hu e he).2.1 g (by omega)
    have L1 : ∀ g, 6 * d + 5 ≤ g → XD f n (fun M L => F_RD g 1 M L (nI (5 - d))) (mkAnd f n (mkNot f n (upl f n d) (mkOne f n (upl f n d)))) := by
      intro g hg
      obtain ⟨g, rfl⟩ : ∃ k, g = k + 1 := ⟨g - 1, by omega⟩
      exact XD_chn (XL_And f n g _) (by decide) (by decide) (L2 g (by omega)) P2 (L2 g (by omega)) P2
    have L0 : ∀ g, 6 * d + 6 ≤ g → XD f n (fun M L => F_RD g 0 M L (nI (5 - d))) (mkE f n (mkNot f n (upl f n d) (mkOne f n (upl f n d)))) := by
      intro g hg
      obtain ⟨g, rfl⟩ : ∃ k, g = k + 1 := ⟨g - 1, by omega⟩
      exact XD_chn (XL_E f n g _) (by decide) (by decide) (L1 g (by omega)) (PP_and P2) (L1 g (by omega)) (PP_and P2)
    rw [pl_up]
    exact ⟨L5, L2, L0⟩
  intro d
  induction d with
  | zero => intro hd; exact lev 0 hd (fun e he => by omega)
  | succ d ih => intro hd; exact lev (d + 1) hd (fun e he => by cases he; exact ih (by omega))
