/-! PURE: one pass of one party, class -/
/-- what the rule says of p in its three parts, whatever is on the stack -/
def CS (E : Ev) (b : Nat) (M : Mi) (L : Ml) (p : Nat) (v0 v1 v2 : Int32) : Prop := ∀ M1 : Mi, (∀ k, k ≠ 23 → M1 k = M k) →
  (∃ M2, F_X1_value E b M1 L (nI p) 0 = some (v0, M2, L) ∧ ∀ k, k ≠ 23 → M2 k = M k) ∧ (∃ M2, F_X1_value E b M1 L (nI p) 1 = some (v1, M2, L) ∧ ∀ k, k ≠ 23 → M2 k = M k) ∧ (∃ M2, F_X1_value E b M1 L (nI p) 2 = some (v2, M2, L) ∧ ∀ k, k ≠ 23 → M2 k = M k)
def sp_tile (still : Bool) (hol : Int64) (k num w mi t v0 : Int32) : Int32 := if still = true then -1 else sp_land hol k num w mi t (sp_way (bnd v0 (-99) 99)).toNatClampNeg
def sp_wear (tile k num w v1 v2 : Int32) : Int32 := if tile = -1 then bnd (w - bnd (sp_rests k num (bnd v2 0 99)) 0 99) 0 99 else bnd (w + bnd (sp_tires k num (bnd v1 0 99)) 0 99) 0 99
theorem C_passOne (E : Ev) (b : Nat) (hb : b + 4 < 21) (M : Mi) (L : Ml) {p : Nat} {v0 v1 v2 : Int32} (hp : p < 5) (hs : CS E b M L p v0 v1 v2) (hw : 0 ≤ M (b + 4) p ∧ M (b + 4) p ≤ 99) (still : Bool) :
    ∃ M', F_X1_passOne E b M L (nI p) (zb still) = some (zb (decide (¬ sp_tile still (L b 1) (M (b + 1) p) (M (b + 2) p) (M (b + 4) p) (M b 2) (M (b + 3) p) v0 = -1)), M', L) ∧
      ∀ k, k ≠ 23 → M' k = up2 (up2 M (b + 4) p (sp_wear (sp_tile still (L b 1) (M (b + 1) p) (M (b + 2) p) (M (b + 4) p) (M b 2) (M (b + 3) p) v0) (M (b + 1) p) (M (b + 2) p) (M (b + 4) p) v1 v2)) (b + 3) p (if sp_tile still (L b 1) (M (b + 1) p) (M (b + 2) p) (M (b + 4) p) (M b 2) (M (b + 3) p) v0 = -1 then M (b + 3) p else sp_tile still (L b 1) (M (b + 1) p) (M (b + 2) p) (M (b + 4) p) (M b 2) (M (b + 3) p) v0) k := by
  have k25 : ∀ (M1 : Mi) (t : Int32), (∀ k, k ≠ 23 → M1 k = M k) → ∃ M', F_X1_passOne_k25 E b M1 L (nI p) t = some (zb (decide (¬ t = -1)), M', L) ∧ ∀ k, k ≠ 23 → M' k = up2 (up2 M (b + 4) p (sp_wear t (M (b + 1) p) (M (b + 2) p) (M (b + 4) p) v1 v2)) (b + 3) p (if t = -1 then M (b + 3) p else t) k := by
    intro M1 t h1
    obtain ⟨-, ⟨M2, a1, a2⟩, ⟨M3, b1, b2⟩⟩ := hs M1 h1
    have C1 := C_tires hp a1
    have C2 := C_rests hp b1
    rw [a2 (b + 1) (by omega), a2 (b + 2) (by omega)] at C1
    rw [b2 (b + 1) (by omega), b2 (b + 2) (by omega)] at C2
    unfold F_X1_passOne_k25 sp_wear
    simp only [if_pos (ix_nI hp (show 5 < 2 ^ 31 by decide)), nI_clamp (show p < 2 ^ 31 by omega), C1, C2, Option.bind_some, h1 (b + 4) (show b + 4 ≠ 23 by omega)]
    by_cases e : t = -1
    · simp only [if_pos e]
      rw [wear_down hw (bnd_in _ _ _ (by decide))]
      refine ⟨_, by rw [decide_eq_false (fun q => q e)]; rfl, fun k hk => ?_⟩
      funext j
      by_cases q3 : k = b + 3
      · subst q3
        by_cases qj : j = p
        · subst qj; rw [up2_at, up2_a (by omega), b2 _ hk]
        · rw [up2_b qj, up2_a (by omega), up2_a (by omega), b2 _ hk]
      · rw [up2_a q3]
        by_cases q4 : k = b + 4
        · subst q4
          by_cases qj : j = p
          · subst qj; rw [up2_at, up2_at]
          · rw [up2_b qj, up2_b qj, b2 _ hk]
        · rw [up2_a q4, up2_a q4, b2 _ hk]
    · simp only [if_neg e]
      rw [wear_up hw (bnd_in _ _ _ (by decide))]
      refine ⟨_, by rw [decide_eq_true e]; rfl, fun k hk => ?_⟩
      funext j
      by_cases q3 : k = b + 3
      · subst q3
        by_cases qj : j = p
        · subst qj; rw [up2_at, up2_at]
        · rw [up2_b qj, up2_b qj, up2_a (by omega), up2_a (by omega), a2 _ hk]
      · rw [up2_a q3, up2_a q3]
        by_cases q4 : k = b + 4
        · subst q4
          by_cases qj : j = p
          · subst qj; rw [up2_at, up2_at]
          · rw [up2_b qj, up2_b qj, a2 _ hk]
        · rw [up2_a q4, up2_a q4, a2 _ hk]
  unfold F_X1_passOne
  rw [zb_if]
  cases still with
  | true => rw [if_pos rfl]; exact k25 M (-1) (fun _ _ => rfl)
  | false =>
    rw [if_neg (by decide), if_pos (ix_nI hp (by decide)), nI_clamp (by omega)]
    obtain ⟨⟨M2, a1, a2⟩, -⟩ := hs M (fun _ _ => rfl)
    obtain ⟨d, hd, e⟩ := sp_way_lt v0
    rw [C_way a1, Option.bind_some, e]
    simp only [F_landingX b M2 L hp hd, Option.bind_some]
    rw [a2 (b + 1) (by omega), a2 (b + 2) (by omega), a2 (b + 4) (by omega), a2 b (by omega)]
    unfold sp_tile
    rw [if_neg (by decide), e, nI_clamp (by omega)]
    exact k25 M2 _ a2
