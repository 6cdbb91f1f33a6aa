/-! PURE: leap, floor, count, set, party -/
def plnd (A : Af) (p : Nat) (t : Int32) (v : Nat) : Int32 := sp_land (aH A) (aQ A p).1 (aQ A p).2.1 (aQ A p).2.2.2 (nI (aM A)) t v
theorem X_land {b : Nat} {M : Mi} {L : Ml} {A : Af} {T p v : Nat} (hw : wfA T A) (hF : XFl b M L A) (hp : p < aP A) (hv : v < 8) (t : Int32) : F_X0_landing b M L (nI p) t (nI v) = some (plnd A p t v) := by
  have hP := hw.1
  obtain ⟨q1, q2, q3, q4⟩ := hF.2.2.2.2.2 p hp
  rw [F_landingX b M L (by omega) hv, hF.2.1, hF.2.2.1, q1, q2, q4]; rfl
theorem Y_land {R : Mi} {S : Ml} {A : Af} {T p v : Nat} (hw : wfA T A) (hm : aM A < 2 ^ 30) (hF : YFl R S A) (hp : p < aP A) (hv : v < 8) (t : Int32) : F_X6_leapFrom R S (nI p) t (nI v) = some (plnd A p t v) := by
  have hP := hw.1
  obtain ⟨q1, q2, q3, q4⟩ := hF.2.2.2.2.2 p hp
  rw [F_leapFromR R S (by omega) hv _ (by rw [hF.2.2.1]; exact nI_pos' (by omega)), hF.2.1, hF.2.2.1, q1, q2, q4]; rfl
def s_leap (A : Af) (one way : Int32) : Int32 := if ix one (aP A) = true then (if ix way 8 = true then plnd A one.toNatClampNeg (aQ A one.toNatClampNeg).2.2.1 way.toNatClampNeg else -2) else -2
theorem X_leap {M : Mi} {L : Ml} {A : Af} {T : Nat} (hw : wfA T A) (hF : XFl 1 M L A) (one way : Int32) : F_X5_leap M L one way = some (s_leap A one way) := by
  have hP := hw.1
  unfold F_X5_leap s_leap
  rw [X_isParty hF.2.2.2.1 hP, Option.bind_some, zb_if, show (7 : Int32) = nI 7 from rfl, F_isWithinN _ (by decide), Option.bind_some, zb_if]
  by_cases h1 : ix one (aP A) = true
  · rw [if_pos h1, if_pos h1]
    by_cases h2 : ix way 8 = true
    · rw [if_pos h2, if_pos h2]
      obtain ⟨p, hp, rfl⟩ := ix_of h1 (by omega)
      obtain ⟨v, hv, rfl⟩ := ix_of h2 (by decide)
      rw [if_pos (ix_nI (by omega) (by decide)), nI_clamp (by omega), nI_clamp (by omega), (hF.2.2.2.2.2 p hp).2.2.1, X_land hw hF hp hv]; rfl
    · rw [if_neg h2, if_neg h2]
  · rw [if_neg h1, if_neg h1]
theorem Y_leap {R : Mi} {S : Ml} {A : Af} {T : Nat} (hw : wfA T A) (hm : aM A < 2 ^ 30) (hF : YFl R S A) (one way : Int32) : F_X6_leap R S one way = some (s_leap A one way) := by
  have hP := hw.1
  unfold F_X6_leap s_leap
  rw [Y_isOne hF.2.2.2.1 hP, Option.bind_some, zb_if, F_inN way 7 rfl, Option.bind_some, zb_if]
  by_cases h1 : ix one (aP A) = true
  · rw [if_pos h1, if_pos h1]
    by_cases h2 : ix way 8 = true
    · rw [if_pos h2, if_pos h2]
      obtain ⟨p, hp, rfl⟩ := ix_of h1 (by omega)
      obtain ⟨v, hv, rfl⟩ := ix_of h2 (by decide)
      rw [Y_on hw hF hp S, Option.bind_some, nI_clamp (by omega), nI_clamp (by omega), Y_land hw hm hF hp hv]; rfl
    · rw [if_neg h2, if_neg h2]
  · rw [if_neg h1, if_neg h1]
def s_floor (A : Af) (what : Int32) : Int64 := if what = 0 then aR A else if what = 1 then aH A else if what = 2 then std A else -4611686018427387904
theorem X_floor {M : Mi} {L : Ml} {A : Af} {T : Nat} (hw : wfA T A) (hF : XFl 1 M L A) (x : Int32) : F_X5_floor M L x = some (s_floor A x) := by
  unfold F_X5_floor s_floor
  rw [hF.1, hF.2.1, X_std hw hF, Option.bind_some]
  by_cases h0 : x = 0
  · rw [if_pos h0, if_pos h0]
  rw [if_neg h0, if_neg h0]
  by_cases h1 : x = 1
  · rw [if_pos h1, if_pos h1]
  rw [if_neg h1, if_neg h1]
  by_cases h2 : x = 2
  · rw [if_pos h2, if_pos h2]
  rw [if_neg h2, if_neg h2]
theorem Y_floor {R : Mi} {S : Ml} {A : Af} {T : Nat} (hw : wfA T A) (hF : YFl R S A) (x : Int32) : F_X6_floor R S x = some (s_floor A x) := by
  unfold F_X6_floor s_floor
  rw [F_inN x 2 rfl, Option.bind_some, zb_if, hF.1, hF.2.1, Y_std hw hF, Option.bind_some]
  by_cases h : ix x 3 = true
  · rw [if_pos h]
    obtain ⟨w, hw3, rfl⟩ := ix_of h (by decide)
    rcases (show w = 0 ∨ w = 1 ∨ w = 2 by omega) with rfl | rfl | rfl
    · rw [if_pos (show nI 0 = 0 from rfl), if_pos (show nI 0 = 0 from rfl)]
    · rw [if_neg (show ¬ nI 1 = 0 by decide), if_neg (show ¬ nI 1 = 0 by decide), if_pos (show nI 1 = 1 from rfl), if_pos (show nI 1 = 1 from rfl)]
    · rw [if_neg (show ¬ nI 2 = 0 by decide), if_neg (show ¬ nI 2 = 0 by decide), if_neg (show ¬ nI 2 = 1 by decide), if_neg (show ¬ nI 2 = 1 by decide), if_pos (show nI 2 = 2 from rfl)]
  · have n0 : ¬ x = 0 := ix_no h (w := 0) (by decide) (by decide)
    have n1 : ¬ x = 1 := ix_no h (w := 1) (by decide) (by decide)
    have n2 : ¬ x = 2 := ix_no h (w := 2) (by decide) (by decide)
    rw [if_neg h, if_neg n0, if_neg n1, if_neg n2]
def s_count (σ : Sg) (what : Int32) : Int32 := if what = 0 then nI (aP (uA σ)) else if what = 1 then nI (pcn 64 (vN (aH (uA σ)))) else if what = 2 then nI (aM (uA σ)) else if what = 3 then nI (uT σ) else if what = 4 then nI (uN σ) else if what = 5 then nI (aU (uA σ)) else -2
theorem X_count {E : Ev} {M : Mi} {L : Ml} {σ : Sg} (h : XI E M L σ) (x : Int32) : F_X5_count M L x = some (s_count σ x) := by
  unfold F_X5_count s_count
  rw [F_bitCount, h.1.2.1, h.1.2.2.1, h.1.2.2.2.1, h.1.2.2.2.2.1, h.2.2.1.1, h.2.2.2.1.1]
  simp only [Option.bind_some]
  by_cases h0 : x = 0
  · rw [if_pos h0, if_pos h0]
  rw [if_neg h0, if_neg h0]
  by_cases h1 : x = 1
  · rw [if_pos h1, if_pos h1]
  rw [if_neg h1, if_neg h1]
  by_cases h2 : x = 2
  · rw [if_pos h2, if_pos h2]
  rw [if_neg h2, if_neg h2]
  by_cases h3 : x = 3
  · rw [if_pos h3, if_pos h3]
  rw [if_neg h3, if_neg h3]
  by_cases h4 : x = 4
  · rw [if_pos h4, if_pos h4]
  rw [if_neg h4, if_neg h4]
  by_cases h5 : x = 5
  · rw [if_pos h5, if_pos h5]
  rw [if_neg h5, if_neg h5]
theorem Y_count {R : Mi} {S : Ml} {σ : Sg} (g : YI R S σ) (x : Int32) : F_X6_count R S x = some (s_count σ x) := by
  unfold F_X6_count s_count
  rw [F_inN x 5 rfl, Option.bind_some, zb_if, F_bitsOf, g.1.2.1, g.1.2.2.1, g.1.2.2.2.1, g.1.2.2.2.2.1, g.2.2.1.1, g.2.2.2.1.1]
  simp only [Option.bind_some]
  by_cases h : ix x 6 = true
  · rw [if_pos h]
    by_cases h0 : x = 0
    · rw [if_pos h0, if_pos h0]
    rw [if_neg h0, if_neg h0]
    by_cases h1 : x = 1
    · rw [if_pos h1, if_pos h1]
    rw [if_neg h1, if_neg h1]
    by_cases h2 : x = 2
    · rw [if_pos h2, if_pos h2]
    rw [if_neg h2, if_neg h2]
    by_cases h3 : x = 3
    · rw [if_pos h3, if_pos h3]
    rw [if_neg h3, if_neg h3]
    by_cases h4 : x = 4
    · rw [if_pos h4, if_pos h4]
    rw [if_neg h4, if_neg h4]
    have h5 : x = 5 := by
      obtain ⟨w, hw6, rfl⟩ := ix_of h (by decide)
      rcases (show w = 0 ∨ w = 1 ∨ w = 2 ∨ w = 3 ∨ w = 4 ∨ w = 5 by omega) with rfl | rfl | rfl | rfl | rfl | rfl
      · exact absurd rfl h0
      · exact absurd rfl h1
      · exact absurd rfl h2
      · exact absurd rfl h3
      · exact absurd rfl h4
      · rfl
    rw [if_pos h5]
  · have n0 : ¬ x = 0 := ix_no h (w := 0) (by decide) (by decide)
    have n1 : ¬ x = 1 := ix_no h (w := 1) (by decide) (by decide)
    have n2 : ¬ x = 2 := ix_no h (w := 2) (by decide) (by decide)
    have n3 : ¬ x = 3 := ix_no h (w := 3) (by decide) (by decide)
    have n4 : ¬ x = 4 := ix_no h (w := 4) (by decide) (by decide)
    have n5 : ¬ x = 5 := ix_no h (w := 5) (by decide) (by decide)
    rw [if_neg h, if_neg n0, if_neg n1, if_neg n2, if_neg n3, if_neg n4, if_neg n5]
/-! a floor that is changed -/
theorem XI.now {E : Ev} {M M' : Mi} {L L' : Ml} {σ : Sg} {A' : Af} (h : XI E M L σ) (hF : XFl 1 M' L' A') (hM : ∀ k, k ≠ 23 → (k = 0 ∨ 15 < k) → M' k = M k) (hL : ∀ k, 15 < k → L' k = L k) : XI E M' L' (A', σ.2) := by
  obtain ⟨a, b, c, d, e⟩ := h
  refine ⟨hF, ?_, c.keep (by rw [hM 21 (by decide) (by decide)]) (fun k hk => hM k (by omega) (by omega)), ?_, fun s hs => (e s hs).keep (hM _ (by omega) (by omega)) (hM _ (by omega) (by omega))⟩
  · show XKp M' L' (uK σ)
    cases hk : uK σ with
    | none => rw [hk] at b; show M' 0 7 = 0; rw [hM 0 (by decide) (by decide)]; exact b
    | some k => rw [hk] at b; exact ⟨by rw [hM 0 (by decide) (by decide)]; exact b.1, b.2.keep (hM _ (by decide) (by decide)) (hM _ (by decide) (by decide)) (hM _ (by decide) (by decide)) (hM _ (by decide) (by decide)) (hM _ (by decide) (by decide)) (hL _ (by decide))⟩
  · exact ⟨by rw [hM 24 (by decide) (by decide)]; exact d.1, by rw [hM 25 (by decide) (by decide)]; exact d.2⟩
theorem YI.now {R R' : Mi} {S S' : Ml} {σ : Sg} {A' : Af} (h : YI R S σ) (hF : YFl R' S' A') (hR : ∀ k, k ≠ 0 → k ≠ 4 → k ≠ 5 → R' k = R k) (h0 : ∀ j, (j = 3 ∨ j = 6 ∨ j = 12 ∨ 31 < j) → R' 0 j = R 0 j) (hS : ∀ j, 24 < j → S' 0 j = S 0 j) : YI R' S' (A', σ.2) := by
  obtain ⟨a, b, c, d, e, f⟩ := h
  refine ⟨hF, ?_, c.keep (h0 3 (by decide)) (hR 1 (by decide) (by decide) (by decide)) (hR 2 (by decide) (by decide) (by decide)), ?_, fun s hs => ?_, by rw [h0 12 (by decide)]; exact f⟩
  · show YKp R' S' (uK σ)
    cases hk : uK σ with
    | none => rw [hk] at b; show R' 0 32 = -1; rw [h0 32 (by decide)]; exact b
    | some k => rw [hk] at b; unfold YKp at *; rw [h0 32 (by decide), h0 33 (by decide), h0 34 (by decide), hS 35 (by decide), hS 36 (by decide), hR 6 (by decide) (by decide) (by decide)]; exact b
  · exact ⟨by rw [h0 6 (by decide)]; exact d.1, by rw [hR 3 (by decide) (by decide) (by decide)]; exact d.2⟩
  · have := e s hs
    unfold YSh at *
    rw [hR 7 (by decide) (by decide) (by decide), hR 8 (by decide) (by decide) (by decide), hR 9 (by decide) (by decide) (by decide), hR 10 (by decide) (by decide) (by decide)]; exact this
def upQ (Q : Nat → Pt) (p : Nat) (g : Pt → Pt) : Nat → Pt := fun j => if j = p then g (Q j) else Q j
def ptset (w : Nat) (v : Int32) (q : Pt) : Pt := if w = 3 then (q.1, v, q.2.2.1, q.2.2.2) else if w = 4 then (q.1, q.2.1, v, q.2.2.2) else if w = 5 then (q.1, q.2.1, q.2.2.1, v) else (v, q.2.1, q.2.2.1, q.2.2.2)
def aSet (A : Af) (p w : Nat) (v : Int32) : Af := (aR A, aH A, aM A, aP A, aU A, upQ (aQ A) p (ptset w v))
theorem wfA_set {T : Nat} {A : Af} {p w : Nat} {v : Int32} (h : wfA T A) (hv : wfp (aQ A p) → wfp (ptset w v (aQ A p))) : wfA T (aSet A p w v) := by
  refine ⟨h.1, h.2.1, fun j hj => ?_⟩
  show wfp (if j = p then ptset w v (aQ A j) else aQ A j)
  by_cases e : j = p
  · rw [if_pos e, e]; exact hv (by rw [← e]; exact h.2.2 j hj)
  · rw [if_neg e]; exact h.2.2 j hj
/-- the row of a class' floor that holds what -/
def rwX (w : Nat) : Nat := if w = 3 then 2 else if w = 4 then 3 else if w = 5 then 4 else 1
theorem XFl_set {b : Nat} {M : Mi} {L : Ml} {A : Af} {p w : Nat} {v : Int32} (h : XFl b M L A) (hw : w = 3 ∨ w = 4 ∨ w = 5 ∨ w = 6) : XFl b (up2 M (b + rwX w) p v) L (aSet A p w v) := by
  obtain ⟨a, b', c, d, e, f⟩ := h
  have hr : 1 ≤ rwX w := by rcases hw with rfl | rfl | rfl | rfl <;> decide
  refine ⟨a, b', by rw [up2_a (by omega)]; exact c, by rw [up2_a (by omega)]; exact d, by rw [up2_a (by omega)]; exact e, fun j hj => ?_⟩
  have g := f j hj
  show XP b _ j (if j = p then ptset w v (aQ A j) else aQ A j)
  by_cases hp : j = p
  · rw [if_pos hp]; subst hp
    rcases hw with rfl | rfl | rfl | rfl
    · exact ⟨(up2_a (show b + 1 ≠ b + 2 by omega)).trans g.1, up2_at _ _ _ _, (up2_a (show b + 3 ≠ b + 2 by omega)).trans g.2.2.1, (up2_a (show b + 4 ≠ b + 2 by omega)).trans g.2.2.2⟩
    · exact ⟨(up2_a (show b + 1 ≠ b + 3 by omega)).trans g.1, (up2_a (show b + 2 ≠ b + 3 by omega)).trans g.2.1, up2_at _ _ _ _, (up2_a (show b + 4 ≠ b + 3 by omega)).trans g.2.2.2⟩
    · exact ⟨(up2_a (show b + 1 ≠ b + 4 by omega)).trans g.1, (up2_a (show b + 2 ≠ b + 4 by omega)).trans g.2.1, (up2_a (show b + 3 ≠ b + 4 by omega)).trans g.2.2.1, up2_at _ _ _ _⟩
    · exact ⟨up2_at _ _ _ _, (up2_a (show b + 2 ≠ b + 1 by omega)).trans g.2.1, (up2_a (show b + 3 ≠ b + 1 by omega)).trans g.2.2.1, (up2_a (show b + 4 ≠ b + 1 by omega)).trans g.2.2.2⟩
  · rw [if_neg hp]
    have o : ∀ k, up2 M (b + rwX w) p v k j = M k j := by
      intro k
      by_cases e : k = b + rwX w
      · subst e; exact up2_b hp
      · exact up2_a e
    unfold XP; rw [o, o, o, o]; exact g
theorem YFl_set {R : Mi} {S : Ml} {A : Af} {p w : Nat} {v : Int32} (h : YFl R S A) (hw : w = 3 ∨ w = 4 ∨ w = 5 ∨ w = 6) : YFl (up2 R 4 (4 * p + w - 3) v) S (aSet A p w v) := by
  obtain ⟨a, b', c, d, e, f⟩ := h
  refine ⟨a, b', by rw [up2_a (by decide)]; exact c, by rw [up2_a (by decide)]; exact d, by rw [up2_a (by decide)]; exact e, fun j hj => ?_⟩
  have g := f j hj
  show YP _ j (if j = p then ptset w v (aQ A j) else aQ A j)
  by_cases hp : j = p
  · rw [if_pos hp]; subst hp
    rcases hw with rfl | rfl | rfl | rfl
    · exact ⟨(up2_b (by omega)).trans g.1, (show up2 R 4 (4 * j + 3 - 3) v 4 (4 * j) = v by rw [show 4 * j + 3 - 3 = 4 * j by omega]; exact up2_at _ _ _ _), (up2_b (by omega)).trans g.2.2.1, (up2_b (by omega)).trans g.2.2.2⟩
    · exact ⟨(up2_b (by omega)).trans g.1, (up2_b (by omega)).trans g.2.1, (show up2 R 4 (4 * j + 4 - 3) v 4 (4 * j + 1) = v by rw [show 4 * j + 4 - 3 = 4 * j + 1 by omega]; exact up2_at _ _ _ _), (up2_b (by omega)).trans g.2.2.2⟩
    · exact ⟨(up2_b (by omega)).trans g.1, (up2_b (by omega)).trans g.2.1, (up2_b (by omega)).trans g.2.2.1, (show up2 R 4 (4 * j + 5 - 3) v 4 (4 * j + 2) = v by rw [show 4 * j + 5 - 3 = 4 * j + 2 by omega]; exact up2_at _ _ _ _)⟩
    · exact ⟨(show up2 R 4 (4 * j + 6 - 3) v 4 (4 * j + 3) = v by rw [show 4 * j + 6 - 3 = 4 * j + 3 by omega]; exact up2_at _ _ _ _), (up2_b (by omega)).trans g.2.1, (up2_b (by omega)).trans g.2.2.1, (up2_b (by omega)).trans g.2.2.2⟩
  · rw [if_neg hp]
    refine ⟨(up2_b ?_).trans g.1, (up2_b ?_).trans g.2.1, (up2_b ?_).trans g.2.2.1, (up2_b ?_).trans g.2.2.2⟩ <;> omega
