/-! PURE: what a text says of a party: reference -/
def nmR (M : Mi) (L : Ml) (p : Nat) (x : Int32) : Int32 := if x = -5 then M 0 7 else if x = -4 then M 4 (4 * p) else if x = -3 then M 4 (4 * p + 1) / 8 else if x = -2 then irm (M 4 (4 * p + 1)) 8 else if x = -1 then M 4 (4 * p + 2) else nI (pcn 64 (vN (L 0 9)))
/-- what saying leaves -/
def RH (M M' : Mi) (L L' : Ml) : Prop := (∀ k, k ≠ 0 → M' k = M k) ∧ (∀ j, j < 13 → M' 0 j = M 0 j) ∧ (∀ j, 27 < j → M' 0 j = M 0 j) ∧ (∀ k j, (k ≠ 0 ∨ j ≠ 24) → L' k j = L k j)
theorem RH.trans {M M' M'' : Mi} {L L' L'' : Ml} (h : RH M M' L L') (g : RH M' M'' L' L'') : RH M M'' L L'' :=
  ⟨fun k hk => (g.1 k hk).trans (h.1 k hk), fun j hj => (g.2.1 j hj).trans (h.2.1 j hj), fun j hj => (g.2.2.1 j hj).trans (h.2.2.1 j hj), fun k j q => (g.2.2.2 k j q).trans (h.2.2.2 k j q)⟩
theorem RH.rfl' (M : Mi) (L : Ml) : RH M M L L := ⟨fun _ _ => rfl, fun _ _ => rfl, fun _ _ => rfl, fun _ _ _ => rfl⟩
/-- the reference's text r is f, n long, which says the code c -/
def TY (M : Mi) (r : Nat) (f : Nat → Int32) (n : Nat) (c : List Int32) (e1 e2 : Nat) : Prop :=
  n ≤ 160 ∧ M 2 r = nI n ∧ (∀ i, i < n → M 1 (160 * r + i) = f i) ∧ (∀ i, i < n → 0 ≤ (f i).toInt) ∧ ptext f n = .inr (c, e1, e2)
theorem R_says (M : Mi) (L : Ml) {p r w n : Nat} {f : Nat → Int32} {c : List Int32} {e1 e2 : Nat} (hp : p < 5) (hw : w < 3) (h4 : M 0 4 = nI r) (hr : r < 6) (hx : TY M r f n c e1 e2) :
    ∃ v M' L', F_X6_says M L (nI w) (nI p) = some (bnd v (if w = 0 then -99 else 0) 99, M', L') ∧ RH M M' L L' ∧ VV (nmR M L p) (seg c (segA (nI w) e1 e2) (segB (nI w) e1 e2 c.length)) 31 v := by
  obtain ⟨y1, y2, y3, y4, y5⟩ := hx
  unfold F_X6_says
  simp only [i4p, show nI (4 * p) + 2 = nI (4 * p + 2) from nI_add _ 2, if_pos (ix_nI (show 4 * p + 2 < 20 by omega) (by decide)), if_pos (ix_nI (show 4 * p < 20 by omega) (by decide)), nI_clamp (show 4 * p + 2 < 2 ^ 31 by omega), nI_clamp (show 4 * p < 2 ^ 31 by omega), F_onOfR _ _ hp, Option.bind_some, F_bitsOf, up2_a (show (4 : Nat) ≠ 0 by decide)]
  generalize hM0 : up2 (up2 (up2 (up2 (up2 (up2 M 0 13 (M 4 (4 * p + 2))) 0 14 (irm (M 4 (4 * p + 1)) 8)) 0 15 (M 4 (4 * p + 1) / 8)) 0 16 (M 4 (4 * p))) 0 17 (up2 (up2 (up2 (up2 M 0 13 (M 4 (4 * p + 2))) 0 14 (irm (M 4 (4 * p + 1)) 8)) 0 15 (M 4 (4 * p + 1) / 8)) 0 16 (M 4 (4 * p)) 0 7)) 0 18 (nI (pcn 64 (vN (L 0 9)))) = M0
  have k1 : ∀ k, k ≠ 0 → M0 k = M k := by intro k hk; rw [← hM0]; funext j; simp only [up2, if_neg hk]
  have k2 : ∀ j, j < 13 ∨ 18 < j → M0 0 j = M 0 j := by
    intro j hj; rw [← hM0]
    rw [up2_b (by omega), up2_b (by omega), up2_b (by omega), up2_b (by omega), up2_b (by omega), up2_b (by omega)]
  have k3 : nm M0 = nmR M L p := by
    have g18 : M0 0 18 = nI (pcn 64 (vN (L 0 9))) := by rw [← hM0, up2_at]
    have g17 : M0 0 17 = M 0 7 := by rw [← hM0, up2_b (by decide), up2_at, up2_b (by decide), up2_b (by decide), up2_b (by decide), up2_b (by decide)]
    have g16 : M0 0 16 = M 4 (4 * p) := by rw [← hM0, up2_b (by decide), up2_b (by decide), up2_at]
    have g15 : M0 0 15 = M 4 (4 * p + 1) / 8 := by rw [← hM0, up2_b (by decide), up2_b (by decide), up2_b (by decide), up2_at]
    have g14 : M0 0 14 = irm (M 4 (4 * p + 1)) 8 := by rw [← hM0, up2_b (by decide), up2_b (by decide), up2_b (by decide), up2_b (by decide), up2_at]
    have g13 : M0 0 13 = M 4 (4 * p + 2) := by rw [← hM0, up2_b (by decide), up2_b (by decide), up2_b (by decide), up2_b (by decide), up2_b (by decide), up2_at]
    funext x; unfold nm nmR
    rw [g13, g14, g15, g16, g17, g18]
    generalize M 4 (4 * p + 2) = A1
    generalize irm (M 4 (4 * p + 1)) 8 = A2
    generalize M 4 (4 * p + 1) / 8 = A3
    generalize M 4 (4 * p) = A4
    generalize M 0 7 = A5
    generalize nI (pcn 64 (vN (L 0 9))) = A6
    by_cases h1 : x = -1
    · subst h1; rfl
    by_cases h2 : x = -2
    · subst h2; rfl
    by_cases h3 : x = -3
    · subst h3; rfl
    by_cases h4 : x = -4
    · subst h4; rfl
    by_cases h5 : x = -5
    · subst h5; rfl
    rw [if_neg h1, if_neg h2, if_neg h3, if_neg h4, if_neg h5, if_neg h5, if_neg h4, if_neg h3, if_neg h2, if_neg h1]
  obtain ⟨v, M', L', a1, a2, a3⟩ := R_read (f := f) (n := n) (r := r) (M := M0) L hr y1 (by rw [k1 2 (by decide)]; exact y2) (fun i hi => by rw [k1 1 (by decide)]; exact y3 i hi) y4 (nI w)
  rw [y5] at a3
  rw [k2 4 (Or.inl (by decide)), h4, a1]
  simp only [Option.bind_some]
  unfold F_X6_says_k88
  rw [F_withinR, F_withinR]
  refine ⟨v, M', L', ?_, ⟨fun k hk => (a2.1 k hk).trans (k1 k hk), fun j hj => (a2.2.1 j (by omega) (by omega) (by omega) (by omega) (by omega) (by omega) (by omega) (by omega)).trans (k2 j (Or.inl hj)), fun j hj => (a2.2.1 j (by omega) (by omega) (by omega) (by omega) (by omega) (by omega) (by omega) (by omega)).trans (k2 j (Or.inr (by omega))), a2.2.2⟩, by rw [← k3]; exact a3.2⟩
  by_cases e : w = 0
  · rw [if_pos (show nI w = 0 by rw [e]; rfl), if_pos e]; rfl
  · rw [if_neg (fun q => e (by rcases (show w = 0 ∨ w = 1 ∨ w = 2 by omega) with rfl | rfl | rfl <;> first | rfl | (exact absurd q (by decide)))), if_neg e]; rfl
