/-! PURE: one pass of one party, reference -/
def CR (M : Mi) (L : Ml) (p : Nat) (v0 v1 v2 : Int32) : Prop := ∀ M1 L1, RH M M1 L L1 →
  (∃ M2 L2, F_X6_says M1 L1 0 (nI p) = some (bnd v0 (-99) 99, M2, L2) ∧ RH M1 M2 L1 L2) ∧ (∃ M2 L2, F_X6_says M1 L1 1 (nI p) = some (bnd v1 0 99, M2, L2) ∧ RH M1 M2 L1 L2) ∧ (∃ M2 L2, F_X6_says M1 L1 2 (nI p) = some (bnd v2 0 99, M2, L2) ∧ RH M1 M2 L1 L2)
theorem RH_4 {M M' : Mi} {L L' : Ml} (h : RH M M' L L') (i : Nat) (x : Int32) : RH (up2 M 4 i x) (up2 M' 4 i x) L L' := by
  refine ⟨fun k hk => ?_, fun j hj => ?_, fun j hj => ?_, h.2.2.2⟩
  · funext j; simp only [up2]; rw [h.1 k hk]
  · rw [up2_a (by decide), up2_a (by decide)]; exact h.2.1 j hj
  · rw [up2_a (by decide), up2_a (by decide)]; exact h.2.2.1 j hj
theorem R_passOne (M : Mi) (L : Ml) {p P : Nat} {v0 v1 v2 : Int32} (hp : p < P) (hP : P ≤ 5) (h11 : M 0 11 = nI P) (hs : CR M L p v0 v1 v2) (hm : 0 ≤ M 0 7) (hn : 0 ≤ M 4 (4 * p) ∧ M 4 (4 * p) ≤ 99) (m : Nat) (x : Int32) :
    ∃ M' L' T, T = sp_tile (decide (nI p = M 0 12)) (L 0 9) (M 4 (4 * p + 3)) (M 4 (4 * p)) (M 4 (4 * p + 2)) (M 0 7) (M 4 (4 * p + 1)) v0 ∧
      F_X6_passes_k4 (m + 1) M L x (nI p) = F_X6_passes_k4 m M' L' (x ||| ishl (zb (decide (¬ T = -1))) (nI p)) (nI (p + 1)) ∧
      RH (up2 (up2 M 4 (4 * p + 2) (sp_wear T (M 4 (4 * p + 3)) (M 4 (4 * p)) (M 4 (4 * p + 2)) v1 v2)) 4 (4 * p + 1) (if T = -1 then M 4 (4 * p + 1) else T)) M' L L' := by
  have hp5 : p < 5 := by omega
  obtain ⟨-, ⟨M1, L1, a1, a2⟩, -⟩ := hs M L (RH.rfl' M L)
  obtain ⟨-, -, ⟨M2, L2, b1, b2⟩⟩ := hs M1 L1 a2
  have C1 := R_tires hp5 a1 (a2.1 4 (by decide))
  have e4 : M1 4 = M 4 := a2.1 4 (by decide)
  obtain ⟨M3, L3, C2, h3⟩ := R_rests hp5 b1 b2 (by rw [e4]; exact hn)
  rw [e4] at C2
  have H3 := a2.trans h3
  have k52 : ∀ (M4 : Mi) (L4 : Ml) (T : Int32), RH M M4 L L4 → ∃ M', F_X6_passes_k52 (F_X6_passes_k4 m) M4 L4 x (nI p) (bnd (sp_tires (M 4 (4 * p + 3)) (M 4 (4 * p)) (bnd v1 0 99)) 0 99) (bnd (sp_rests (M 4 (4 * p + 3)) (M 4 (4 * p)) (bnd v2 0 99)) 0 99) T = F_X6_passes_k4 m M' L4 (x ||| ishl (zb (decide (¬ T = -1))) (nI p)) (nI (p + 1)) ∧
      RH (up2 (up2 M 4 (4 * p + 2) (sp_wear T (M 4 (4 * p + 3)) (M 4 (4 * p)) (M 4 (4 * p + 2)) v1 v2)) 4 (4 * p + 1) (if T = -1 then M 4 (4 * p + 1) else T)) M' L L4 := by
    intro M4 L4 T h4
    have e4 : M4 4 = M 4 := h4.1 4 (by decide)
    unfold F_X6_passes_k52 F_X6_passes_k93 F_X6_passes_k130 F_X6_passes_k143 sp_wear
    simp only [i4p, show nI (4 * p) + 2 = nI (4 * p + 2) from nI_add _ 2, nI_1, if_pos (ix_nI (show 4 * p + 2 < 20 by omega) (by decide)), if_pos (ix_nI (show 4 * p + 1 < 20 by omega) (by decide)), nI_clamp (show 4 * p + 2 < 2 ^ 31 by omega), nI_clamp (show 4 * p + 1 < 2 ^ 31 by omega), F_withinR, Option.bind_some, e4]
    by_cases e : T = -1
    · simp only [if_pos e]
      rw [up2_b (by omega), e4]
      exact ⟨_, by rw [decide_eq_false (fun q => q e)]; rfl, RH_4 (RH_4 h4 _ _) _ _⟩
    · simp only [if_neg e]
      exact ⟨_, by rw [decide_eq_true e]; rfl, RH_4 (RH_4 h4 _ _) _ _⟩
  rw [F_X6_passes_k4, h11, if_neg (nI_ge hp (by omega)), C1]
  simp only [Option.bind_some, C2, H3.2.1 12 (by decide)]
  by_cases e : nI p = M 0 12
  · rw [if_pos e, decide_eq_true e]
    obtain ⟨M', q1, q2⟩ := k52 M3 L3 (-1) H3
    exact ⟨M', L3, -1, rfl, q1, q2⟩
  · rw [if_neg e, decide_eq_false e]
    obtain ⟨⟨M5, L5, d1, d2⟩, -, -⟩ := hs M3 L3 H3
    have H5 := H3.trans d2
    obtain ⟨d, hd, ed⟩ := sp_way_lt v0
    rw [F_onOfR _ _ hp5, Option.bind_some, R_way d1, Option.bind_some]
    simp only [ed]
    rw [F_leapFromR M5 L5 hp5 hd _ (by rw [H5.2.1 7 (by decide)]; exact hm), Option.bind_some, H5.1 4 (by decide), H3.1 4 (by decide), H5.2.1 7 (by decide), H5.2.2.2 0 9 (Or.inr (by decide))]
    obtain ⟨M', q1, q2⟩ := k52 M5 L5 _ H5
    refine ⟨M', L5, _, ?_, q1, q2⟩
    unfold sp_tile
    rw [if_neg (by decide), ed, nI_clamp (by omega)]
