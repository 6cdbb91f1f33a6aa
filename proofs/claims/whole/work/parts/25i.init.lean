/-! TilesOfLaw.<init> as a whole -/
def fR (j i : Nat) : Int32 := if i < j then (jB.getD 0 []).getD i 0 else 0
def C0 : Cd := ([-5, -4, -13, 3, 2], 3, 4)
def sg00 : Sg := ((0, 0, 0, 0, 0, fun _ => (0, 0, 0, 0)), none, (0, fun _ => C0), (43, fR 43), fun _ => (-1, 0, fun _ => 0))
def sg0 : Sg := sAdd sg00 C0
theorem pt0 : ptext (fR 43) 43 = .inr C0 := by decide +kernel
theorem fR_pos : ∀ i, i < 43 → 0 ≤ (fR 43 i).toInt := by decide +kernel
theorem fR_s {j : Nat} : (fun i => if i = j then (jB.getD 0 []).getD j 0 else fR j i) = fR (j + 1) := by
  funext i
  unfold fR
  by_cases h : i = j
  · rw [if_pos h, if_pos (by omega), h]
  · rw [if_neg h]
    by_cases h2 : i < j
    · rw [if_pos h2, if_pos (by omega)]
    · rw [if_neg h2, if_neg (by omega)]
theorem XAt_cells {E : Ev} (hs : E.1 = xSh) (hF : KF E xPs) (hn : KN E 22) : XAt E := by
  have fl : ∀ b, b ∈ [1, 6, 11, 16] → FAt E b := fun b hb => by
    simp only [List.mem_cons, List.not_mem_nil, or_false] at hb
    rcases hb with rfl | rfl | rfl | rfl
    · exact ⟨by rw [hs]; rfl, hF (1, 5, 2) (by decide), by rw [hs]; rfl, hF (1, 6, 3) (by decide), by rw [hs]; rfl, hF (1, 7, 4) (by decide), by rw [hs]; rfl, hF (1, 8, 5) (by decide), by rw [hs]; rfl⟩
    · exact ⟨by rw [hs]; rfl, hF (6, 5, 7) (by decide), by rw [hs]; rfl, hF (6, 6, 8) (by decide), by rw [hs]; rfl, hF (6, 7, 9) (by decide), by rw [hs]; rfl, hF (6, 8, 10) (by decide), by rw [hs]; rfl⟩
    · exact ⟨by rw [hs]; rfl, hF (11, 5, 12) (by decide), by rw [hs]; rfl, hF (11, 6, 13) (by decide), by rw [hs]; rfl, hF (11, 7, 14) (by decide), by rw [hs]; rfl, hF (11, 8, 15) (by decide), by rw [hs]; rfl⟩
    · exact ⟨by rw [hs]; rfl, hF (16, 5, 17) (by decide), by rw [hs]; rfl, hF (16, 6, 18) (by decide), by rw [hs]; rfl, hF (16, 7, 19) (by decide), by rw [hs]; rfl, hF (16, 8, 20) (by decide), by rw [hs]; rfl⟩
  refine ⟨by rw [hs]; rfl, hF (0, 0, 1) (by decide), fl 1 (by decide), hF (0, 1, 6) (by decide), fl 6 (by decide), hF (0, 2, 11) (by decide), fl 11 (by decide), hF (0, 3, 16) (by decide), fl 16 (by decide), hF (0, 4, 21) (by decide), ⟨by rw [hs]; rfl, hF (21, 0, 22) (by decide), by rw [hs]; rfl, hF (21, 1, 23) (by decide), by rw [hs]; rfl, fun j z hz => by rw [hn j] at hz; cases hz⟩, hF (0, 5, 24) (by decide), ⟨by rw [hs]; rfl, hF (24, 0, 25) (by decide), by rw [hs]; rfl, hF (24, 1, 26) (by decide), by rw [hs]; rfl⟩, hF (0, 6, 27) (by decide), by rw [hs]; rfl, fun j hj => ?_, fun j hj => ?_⟩
  · match j, hj with
    | 0, _ => exact hF (27, 0, 28) (by decide)
    | 1, _ => exact hF (27, 1, 30) (by decide)
    | 2, _ => exact hF (27, 2, 32) (by decide)
    | 3, _ => exact hF (27, 3, 34) (by decide)
  · match j, hj with
    | 0, _ => exact ⟨by rw [hs]; rfl, hF (28, 0, 29) (by decide), by rw [hs]; rfl⟩
    | 1, _ => exact ⟨by rw [hs]; rfl, hF (30, 0, 31) (by decide), by rw [hs]; rfl⟩
    | 2, _ => exact ⟨by rw [hs]; rfl, hF (32, 0, 33) (by decide), by rw [hs]; rfl⟩
    | 3, _ => exact ⟨by rw [hs]; rfl, hF (34, 0, 35) (by decide), by rw [hs]; rfl⟩
section CG
variable {ρ : Type} {κ : Kx} {P : ρ → State → Prop} {rm : Room} {f : Option ρ} {L : Ml} {cn sn : Nat} {E : Ev}
set_option maxRecDepth 100000 in
set_option maxHeartbeats 4000000 in
theorem j_letters (C : Cx κ cX5_init RX5 rm none) (hN : knL κ = 2) (hA : XAt E) (hf : 6 ≤ rm.frames) (hlo : 260 ≤ rm.locals) (hcs : cn ≤ rm.cells ∧ sn ≤ rm.slots) {M0 : Mi} (kk : ∀ M, M 25 = fR 43 → M 24 2 = nI 43 → (∀ k, k ≠ 24 → k ≠ 25 → M k = M0 k) → JF κ P 135 [some (.ref (E.2.1 0)), some (.int (nI 43))] [] E M L cn sn f) :
    ∀ (d j : Nat) (M : Mi), j + d = 43 → M 25 = fR j → M 24 2 = nI j → (∀ k, k ≠ 24 → k ≠ 25 → M k = M0 k) → JF κ P 106 [some (.ref (E.2.1 0)), some (.int (nI j))] [] E M L cn sn f := by
  intro d
  induction d with
  | zero =>
    intro j M hj h25 h2 ho
    have e : j = 43 := by omega
    subst e
    refine j_iload_n C dX5_init_106 rfl rfl ?_
    refine j_ldcS (i := 0) C dX5_init_107 (by decide) rfl ?_
    refine j_strLen C dX5_init_109 (by decide) mi_J0_length tw_249 (lv_room0 (Nat.le_of_ble_eq_true rfl)) hf hlo hcs ?_
    refine j_take (c := nI (jL.getD 0 0) ≤ nI 43) (by decide) (j_icmp_ge (tgt := 135) C dX5_init_112 (by decide) ?_ jf_none)
    exact kk M h25 h2 ho
  | succ d ih =>
    intro j M hj h25 h2 ho
    refine j_iload_n C dX5_init_106 rfl rfl ?_
    refine j_ldcS (i := 0) C dX5_init_107 (by decide) rfl ?_
    refine j_strLen C dX5_init_109 (by decide) mi_J0_length tw_249 (lv_room0 (Nat.le_of_ble_eq_true rfl)) hf hlo hcs ?_
    refine j_skip (c := nI (jL.getD 0 0) ≤ nI j) (nI_ge (a := j) (b := 43) (by omega) (by decide)) (j_icmp_ge (tgt := 135) C dX5_init_112 (by decide) jf_none ?_)
    refine j_aload_n C dX5_init_115 rfl rfl ?_
    refine j_getR (j := 5) C dX5_init_116 FC5 hA.S (by decide) rfl hA.R_reader tw_431 ?_
    refine j_ldcS (i := 0) C dX5_init_119 (by decide) rfl ?_
    refine j_iload_n C dX5_init_121 rfl rfl ?_
    refine j_take (c := ix (nI j) (jL.getD 0 0) = true) (ix_nI (n := 43) (by omega) (by decide)) (j_strAt C dX5_init_122 (by decide) mi_J0_charAt tw_259 (lv_room0 (Nat.le_of_ble_eq_true rfl)) hf hlo hcs ?_)
    rw [nI_clamp (show j < 2 ^ 31 by omega)]
    have eT : F_X2_takeIn M L ((jB.getD 0 []).getD j 0) = some (1, up2 (up2 M 25 j ((jB.getD 0 []).getD j 0)) 24 2 (nI (j + 1)), L) := by
      unfold F_X2_takeIn
      rw [h2, if_pos (show nI j < 160 from nI_lt (b := 160) (by omega) (by decide)), if_pos (ix_nI (by omega) (by decide)), nI_clamp (show j < 2 ^ 31 by omega), up2_a (by decide), h2, nI_1, rzw_1]; rfl
    refine j_known eT (j_callV_iw (st := []) C dX5_init_125 (ct_X2_takeIn (kγ κ) E M L _ hA.P_reader) mi_X2_takeIn tw_297 FC2 hA.P_reader.S rfl rfl (Nat.le_of_ble_eq_true rfl) ⟨⟨rfl, rfl⟩, ⟨by dsimp only; omega, by dsimp only; omega⟩, hcs⟩ (fun v => j_at (fun hv => ?_)))
    subst hv
    dsimp only
    refine j_pop C dX5_init_128 rfl ?_
    refine j_iinc (i := 1) (v := nI (j + 1)) (lv' := [some (.ref (E.2.1 0)), some (.int (nI (j + 1)))]) C dX5_init_129 rfl (nI_1 j) (by rw [hN]; decide) rfl ?_
    refine j_goto (tgt := 106) C dX5_init_132 (by decide) ?_
    refine ih (j + 1) _ (by omega) ?_ (up2_at _ _ _ _) (fun k a b => by rw [up2_ne a, up2_ne b]; exact ho k a b)
    rw [up2_ne (by decide), up2_self, h25]
    exact fR_s
end CG
