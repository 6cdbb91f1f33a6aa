/-! PURE: the class' floor at b is the reference's floor -/
def FR (b : Nat) (M : Mi) (L : Ml) (R : Mi) (S : Ml) (P : Nat) : Prop :=
  P ≤ 5 ∧ L b 0 = S 0 8 ∧ L b 1 = S 0 9 ∧ M b 2 = R 0 7 ∧ M b 3 = nI P ∧ R 0 11 = nI P ∧ M b 4 = R 0 4 ∧ 0 ≤ R 0 7 ∧
  ∀ p, p < P → M (b + 1) p = R 4 (4 * p + 3) ∧ M (b + 2) p = R 4 (4 * p) ∧ M (b + 3) p = R 4 (4 * p + 1) ∧ M (b + 4) p = R 4 (4 * p + 2) ∧ (0 ≤ R 4 (4 * p) ∧ R 4 (4 * p) ≤ 99) ∧ (0 ≤ R 4 (4 * p + 2) ∧ R 4 (4 * p + 2) ≤ 99)
theorem FR.nm {b : Nat} {M : Mi} {L : Ml} {R : Mi} {S : Ml} {P p : Nat} (h : FR b M L R S P) (hp : p < P) : nmX b M L p = nmR R S p := by
  obtain ⟨h5, h0, h1, h2, h3, h11, h4, h7, hr⟩ := h
  obtain ⟨q1, q2, q3, q4, q5, q6⟩ := hr p hp
  funext x; unfold nmX nmR
  rw [h1, h2, q2, q3, q4]
theorem FR.tile {b : Nat} {M : Mi} {L : Ml} {R : Mi} {S : Ml} {P p : Nat} (h : FR b M L R S P) (hp : p < P) (still : Bool) (v0 : Int32) :
    sp_tile still (L b 1) (M (b + 1) p) (M (b + 2) p) (M (b + 4) p) (M b 2) (M (b + 3) p) v0 = sp_tile still (S 0 9) (R 4 (4 * p + 3)) (R 4 (4 * p)) (R 4 (4 * p + 2)) (R 0 7) (R 4 (4 * p + 1)) v0 := by
  obtain ⟨h5, h0, h1, h2, h3, h11, h4, h7, hr⟩ := h
  obtain ⟨q1, q2, q3, q4, q5, q6⟩ := hr p hp
  rw [h1, h2, q1, q2, q3, q4]
