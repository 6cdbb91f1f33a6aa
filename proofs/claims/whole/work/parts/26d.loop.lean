/-! THE LAW: all turns, from its start -/
section LO
variable {κ : Kx} {P : Unit → State → Prop} {b N : Nat} {xs : Nat → Int32}
set_option maxRecDepth 100000 in
set_option maxHeartbeats 4000000 in
theorem law_loop (C : Cx κ cL_law RL room_1 ret) (hs : LH κ b N xs) (hend : ∀ (i : Nat) (Ex : Ev) (Mx : Mi) (Lx : Ml) (Em : Ev) (Mm : Mi) (Lm : Ml) (cn sn : Nat), cn ≤ 600000 → sn ≤ 7302250 → JX κ P 1172 b i Ex Mx Lx Em Mm Lm cn sn) :
    ∀ (n t : Nat) (Ex Em : Ev) (Mx Mm : Mi) (Lx Lm : Ml) (σ : Sg), t + n = 513 → XW Ex Mx Lx σ → YZ Em Mm Lm σ → WS σ → JX κ P 18 b (6 * t) Ex Mx Lx Em Mm Lm (49 + 2 * t) (2241 + 163 * t) := by
  have hN := hs.2.2.2.1
  have ex : ∀ (t : Nat) (Ex Em : Ev) (Mx Mm : Mi) (Lx Lm : Ml), t ≤ 513 → N < 6 * t + 6 → JX κ P 18 b (6 * t) Ex Mx Lx Em Mm Lm (49 + 2 * t) (2241 + 163 * t) := fun t Ex Em Mx Mm Lx Lm ht hx => by
    refine j_iload_n (C.kW _) dL_law_18 rfl rfl ?_
    refine j_aload_n (C.kW _) dL_law_19 rfl rfl ?_
    refine j_slenX (C.kW _) (hs.kW _) dL_law_20 ?_
    refine j_bipush (v := nI 6) (C.kW _) dL_law_21 rfl ?_
    refine j_isub (C.kW _) dL_law_23 ?_
    refine j_take (c := nI N - nI 6 < nI (6 * t)) ((head_lt (by omega) hN).mpr hx) (j_icmp_gt (tgt := 1172) (C.kW _) dL_law_24 (by decide) ?_ jf_none)
    exact hend _ _ _ _ _ _ _ _ _ (by omega) (by omega)
  intro n
  induction n with
  | zero => exact fun t Ex Em Mx Mm Lx Lm σ ht _ _ _ => ex t Ex Em Mx Mm Lx Lm (by omega) (by omega)
  | succ n ih =>
    intro t Ex Em Mx Mm Lx Lm σ ht hx hy hS
    by_cases hi : 6 * t + 6 ≤ N
    · refine law_step ⟨C, hs, hi, hx, hy, hS, ⟨by show 49 + 2 * t + 2 ≤ 600000; omega, by show 2241 + 163 * t + 163 ≤ 7302250; omega⟩⟩ (fun Ex1 Em1 Mx1 Mm1 Lx1 Lm1 σ1 hx1 hy1 hS1 a1 a2 => ?_)
      refine j_iinc (i := 3) (v := nI (6 * (t + 1))) (lv' := [some (.ref b), some (.ref (Ex1.2.1 0)), some (.ref (Em1.2.1 0)), some (.int (nI (6 * (t + 1))))]) (C.kW _) dL_law_1166 rfl (by rw [show Int32.ofInt 6 = nI 6 from rfl, nI_add]; congr 1) (by show 3 < knL κ; rw [hs.2.2.2.2]; decide) rfl ?_
      refine j_goto (tgt := 18) (C.kW _) dL_law_1169 (by decide) ?_
      have := ih (t + 1) Ex1 Em1 Mx1 Mm1 Lx1 Lm1 σ1 (by omega) hx1 hy1 hS1
      rw [show 49 + 2 * (t + 1) = 49 + 2 * t + 2 by omega, show 2241 + 163 * (t + 1) = 2241 + 163 * t + 163 by omega] at this
      exact this
    · exact ex t Ex Em Mx Mm Lx Lm (by omega) (by omega)
def eE : Ev := ([], fun _ => 0, fun _ _ => none)
def zM : Mi := fun _ _ => 0
def zL : Ml := fun _ _ => 0
theorem zZ (n : Nat) : Zn n zM zL := fun _ _ => ⟨rfl, rfl⟩
theorem eE_RW : RW eE := fun k j x hk _ => absurd hk (Nat.not_lt_zero k)
set_option maxRecDepth 100000 in
set_option maxHeartbeats 8000000 in
theorem law_start (C : Cx κ cL_law RL room_1 ret) (hs : LH κ b N xs) (hend : ∀ (i : Nat) (Ex : Ev) (Mx : Mi) (Lx : Ml) (Em : Ev) (Mm : Mi) (Lm : Ml) (cn sn : Nat), cn ≤ 600000 → sn ≤ 7302250 → JX κ P 1172 b i Ex Mx Lx Em Mm Lm cn sn) :
    JF (kW κ (wd (gG (kγ κ)) eE zM zL)) P 0 [some (.ref b), none, none, none] [] eE zM zL 0 0 (some ()) := by
  have hn : ∀ j, j < 4 → j < knL κ := fun j h => by rw [hs.2.2.2.2]; exact h
  refine j_newQ (l := 0) (c := 5) (C.kW _) dL_law_0 FC5 tw_116 tw_117 tw_101 (by decide +kernel) rfl (zZ 0) eE_RW ⟨Nat.le_of_ble_eq_true rfl, Nat.le_of_ble_eq_true rfl⟩ (fun q hR => ?_)
  have s1 : (eN eE (.inl 5) q).1 = [Sum.inl 5] := rfl
  generalize eN eE (.inl 5) q = E1 at *
  refine j_dup (C.kW _) dL_law_3 rfl ?_
  refine j_callI (st := [.ref (E1.2.1 0)]) (C.kW _) dL_law_4 (ct_X5_init _ E1 zM zL s1 (zZ 0) hR) mi_X5_init tw_118 rfl rfl (Nat.le_of_ble_eq_true rfl) ⟨⟨rfl, rfl⟩, ⟨Nat.le_of_ble_eq_true rfl, Nat.le_of_ble_eq_true rfl⟩, ⟨Nat.le_of_ble_eq_true rfl, Nat.le_of_ble_eq_true rfl⟩⟩ (fun Ex Mx Lx hP => ?_)
  obtain ⟨hx, ha⟩ := hP
  rw [← ha]
  refine j_astore_n (i := 1) (lv' := [some (.ref b), some (.ref (Ex.2.1 0)), none, none]) (C.kW _) dL_law_7 rfl (hn 1 (by decide)) rfl ?_
  refine j_swap ?_
  refine j_newQ (l := 0) (c := 6) (C.kW _) dL_law_8 FC6 tw_794 tw_795 tw_114 (by decide +kernel) rfl (zZ 0) eE_RW ⟨Nat.le_of_ble_eq_true rfl, Nat.le_of_ble_eq_true rfl⟩ (fun q2 hR2 => ?_)
  have s2 : (eN eE (.inl 6) q2).1 = [Sum.inl 6] := rfl
  generalize eN eE (.inl 6) q2 = E2 at *
  refine j_dup (C.kW _) dL_law_11 rfl ?_
  refine j_callI (st := [.ref (E2.2.1 0)]) (C.kW _) dL_law_12 (ct_X6_init _ E2 zM zL s2 (zZ 0) hR2) mi_X6_init tw_796 rfl rfl (Nat.le_of_ble_eq_true rfl) ⟨⟨rfl, rfl⟩, ⟨Nat.le_of_ble_eq_true rfl, Nat.le_of_ble_eq_true rfl⟩, ⟨Nat.le_of_ble_eq_true rfl, Nat.le_of_ble_eq_true rfl⟩⟩ (fun Em Mm Lm hP => ?_)
  obtain ⟨hy, hb⟩ := hP
  rw [← hb]
  refine j_astore_n (i := 2) (lv' := [some (.ref b), some (.ref (Ex.2.1 0)), some (.ref (Em.2.1 0)), none]) (C.kW _) dL_law_15 rfl (hn 2 (by decide)) rfl ?_
  refine j_iconst (v := (0 : Int32)) (C.kW _) dL_law_16 rfl ?_
  refine j_istore_n (i := 3) (lv' := [some (.ref b), some (.ref (Ex.2.1 0)), some (.ref (Em.2.1 0)), some (.int (nI (6 * 0)))]) (C.kW _) dL_law_17 rfl (hn 3 (by decide)) rfl ?_
  refine j_swap ?_
  refine j_pc (pc2 := 18) rfl ?_
  exact law_loop C hs hend 513 0 Ex Em Mx Mm Lx Lm sg0 rfl hx hy WS_sg0
end LO
