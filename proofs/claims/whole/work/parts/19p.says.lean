/-! PURE: both say the same of a party -/
theorem VV.one {ρ : Int32 → Int32} {c : List Int32} {v v' : Int32} (h : VV ρ c 31 v) (h' : VV ρ c 31 v') : v = v' := by
  have := (h [] (by simp)).symm.trans (h' [] (by simp))
  simpa using this
theorem TY.keep {M M' : Mi} {r n : Nat} {f : Nat → Int32} {c : List Int32} {e1 e2 : Nat} (h : TY M r f n c e1 e2) (h1 : M' 1 = M 1) (h2 : M' 2 = M 2) : TY M' r f n c e1 e2 :=
  ⟨h.1, by rw [h2]; exact h.2.1, by rw [h1]; exact h.2.2.1, h.2.2.2.1, h.2.2.2.2⟩
theorem nmR_RH {M M' : Mi} {L L' : Ml} (h : RH M M' L L') (p : Nat) : nmR M' L' p = nmR M L p := by
  funext x; unfold nmR
  rw [h.1 4 (by decide), h.2.1 7 (by decide), h.2.2.2 0 9 (Or.inr (by decide))]
theorem CR_of {R : Mi} {S : Ml} {p r n : Nat} {f : Nat → Int32} {c : List Int32} {e1 e2 : Nat} (hp : p < 5) (h4 : R 0 4 = nI r) (hr : r < 6) (hy : TY R r f n c e1 e2) :
    ∃ v0 v1 v2, CR R S p v0 v1 v2 ∧ VV (nmR R S p) (seg c (segA (nI 0) e1 e2) (segB (nI 0) e1 e2 c.length)) 31 v0 ∧ VV (nmR R S p) (seg c (segA (nI 1) e1 e2) (segB (nI 1) e1 e2 c.length)) 31 v1 ∧ VV (nmR R S p) (seg c (segA (nI 2) e1 e2) (segB (nI 2) e1 e2 c.length)) 31 v2 := by
  obtain ⟨v0, _, _, _, _, V0⟩ := R_says R S hp (show 0 < 3 by decide) h4 hr hy
  obtain ⟨v1, _, _, _, _, V1⟩ := R_says R S hp (show 1 < 3 by decide) h4 hr hy
  obtain ⟨v2, _, _, _, _, V2⟩ := R_says R S hp (show 2 < 3 by decide) h4 hr hy
  refine ⟨v0, v1, v2, fun M1 L1 h1 => ?_, V0, V1, V2⟩
  have h4' : M1 0 4 = nI r := (h1.2.1 4 (by decide)).trans h4
  have hy' := hy.keep (h1.1 1 (by decide)) (h1.1 2 (by decide))
  obtain ⟨u0, A0, B0, a0, b0, W0⟩ := R_says M1 L1 hp (show 0 < 3 by decide) h4' hr hy'
  obtain ⟨u1, A1, B1, a1, b1, W1⟩ := R_says M1 L1 hp (show 1 < 3 by decide) h4' hr hy'
  obtain ⟨u2, A2, B2, a2, b2, W2⟩ := R_says M1 L1 hp (show 2 < 3 by decide) h4' hr hy'
  rw [nmR_RH h1] at W0 W1 W2
  rw [W0.one V0] at a0
  rw [W1.one V1] at a1
  rw [W2.one V2] at a2
  exact ⟨⟨A0, B0, a0, b0⟩, ⟨A1, B1, a1, b1⟩, ⟨A2, B2, a2, b2⟩⟩
