set_option maxRecDepth 100000 in
set_option maxHeartbeats 4000000 in
theorem ct_X6_in (γ : Gm) (E : Ev) (M : Mi) (L : Ml)  (x0 : Int64) (x2 : Int64) (x4 : Int64)  : Ct γ yX6_in cX6_in 6 (some .boolean) ⟨0, 0, 0, 0⟩ [.long x0, .long x2, .long x4] E M L (Q_i γ E M L) 0 0 (F_X6_in x0 x2 x4) := by
  refine ct_of (own := RX6) (lv := [some (.long x0), none, some (.long x2), none, some (.long x4), none]) (by decide +kernel) rfl rfl (Nat.le_of_ble_eq_true rfl) (fun κ C hγ hN => ?_)
  subst hγ
  have hn : ∀ i, i < 6 → i < knL κ := fun i h => by rw [hN]; exact h
  unfold F_X6_in
  refine j_lload_n C dX6_in_0 rfl rfl ?_
  refine j_lload_n C dX6_in_1 rfl rfl ?_
  refine j_lcmp C dX6_in_2 ?_
  refine j_if_lt (tgt := 17) C dX6_in_3 (by decide) ?_ ?_
  · refine j_iconst (v := (0 : Int32)) C dX6_in_17 rfl ?_
    exact j_zret C dX6_in_18
  · refine j_lload_n C dX6_in_6 rfl rfl ?_
    refine j_lload C dX6_in_7 rfl ?_
    refine j_lcmp C dX6_in_9 ?_
    refine j_if_gt (tgt := 17) C dX6_in_10 (by decide) ?_ ?_
    · refine j_iconst (v := (0 : Int32)) C dX6_in_17 rfl ?_
      exact j_zret C dX6_in_18
    · refine j_iconst (v := (1 : Int32)) C dX6_in_13 rfl ?_
      refine j_goto (tgt := 18) C dX6_in_14 (by decide) ?_
      exact j_zret C dX6_in_18
set_option maxRecDepth 100000 in
set_option maxHeartbeats 4000000 in
theorem ct_X6_within (γ : Gm) (E : Ev) (M : Mi) (L : Ml)  (x0 : Int32) (x1 : Int32) (x2 : Int32)  : Ct γ yX6_within cX6_within 3 (some .int) ⟨0, 0, 0, 0⟩ [.int x0, .int x1, .int x2] E M L (Q_i γ E M L) 0 0 (F_X6_within x0 x1 x2) := by
  refine ct_of (own := RX6) (lv := [some (.int x0), some (.int x1), some (.int x2)]) (by decide +kernel) rfl rfl (Nat.le_of_ble_eq_true rfl) (fun κ C hγ hN => ?_)
  subst hγ
  have hn : ∀ i, i < 3 → i < knL κ := fun i h => by rw [hN]; exact h
  unfold F_X6_within
  refine j_iload_n C dX6_within_0 rfl rfl ?_
  refine j_iload_n C dX6_within_1 rfl rfl ?_
  refine j_icmp_ge (tgt := 9) C dX6_within_2 (by decide) ?_ ?_
  · refine j_iload_n C dX6_within_9 rfl rfl ?_
    refine j_iload_n C dX6_within_10 rfl rfl ?_
    refine j_icmp_le (tgt := 18) C dX6_within_11 (by decide) ?_ ?_
    · refine j_iload_n C dX6_within_18 rfl rfl ?_
      exact j_iret C dX6_within_19
    · refine j_iload_n C dX6_within_14 rfl rfl ?_
      refine j_goto (tgt := 19) C dX6_within_15 (by decide) ?_
      exact j_iret C dX6_within_19
  · refine j_iload_n C dX6_within_5 rfl rfl ?_
    refine j_goto (tgt := 19) C dX6_within_6 (by decide) ?_
    exact j_iret C dX6_within_19
set_option maxRecDepth 100000 in
set_option maxHeartbeats 4000000 in
theorem ct_X6_spell (γ : Gm) (E : Ev) (M : Mi) (L : Ml)  (x1 : Int32) (x2 : Int32) (x3 : Int32) (x4 : Int32) (x5 : Int32) (x6 : Int32) (x7 : Int32) (x8 : Int32) (x9 : Int32) (h0 : MAt E) : Ct γ yX6_spell cX6_spell 10 none ⟨0, 0, 0, 0⟩ [.ref (E.2.1 0), .int x1, .int x2, .int x3, .int x4, .int x5, .int x6, .int x7, .int x8, .int x9] E M L (Q_vw γ E) 0 0 (F_X6_spell M L x1 x2 x3 x4 x5 x6 x7 x8 x9) := by
  refine ct_of (own := RX6) (lv := [some (.ref (E.2.1 0)), some (.int x1), some (.int x2), some (.int x3), some (.int x4), some (.int x5), some (.int x6), some (.int x7), some (.int x8), some (.int x9)]) (by decide +kernel) rfl rfl (Nat.le_of_ble_eq_true rfl) (fun κ C hγ hN => ?_)
  subst hγ
  have hn : ∀ i, i < 10 → i < knL κ := fun i h => by rw [hN]; exact h
  unfold F_X6_spell
  refine j_aload_n C dX6_spell_0 rfl rfl ?_
  refine j_getR (j := 1) C dX6_spell_1 FC6 (MAt.S h0) (by decide) rfl (MAt.R_texts h0) tw_804 ?_
  refine j_iload_n C dX6_spell_4 rfl rfl ?_
  refine j_iload_n C dX6_spell_5 rfl rfl ?_
  refine j_iast C dX6_spell_6 (MAt.P_texts h0) ?_
  refine j_aload_n C dX6_spell_7 rfl rfl ?_
  refine j_getR (j := 1) C dX6_spell_8 FC6 (MAt.S h0) (by decide) rfl (MAt.R_texts h0) tw_804 ?_
  refine j_pc (pc2 := 11) rfl ?_
  refine j_iload_n C dX6_spell_11 rfl rfl ?_
  refine j_iconst (v := (1 : Int32)) C dX6_spell_12 rfl ?_
  refine j_iadd C dX6_spell_13 ?_
  refine j_iload_n C dX6_spell_14 rfl rfl ?_
  refine j_iast C dX6_spell_15 (MAt.P_texts h0) ?_
  refine j_aload_n C dX6_spell_16 rfl rfl ?_
  refine j_getR (j := 1) C dX6_spell_17 FC6 (MAt.S h0) (by decide) rfl (MAt.R_texts h0) tw_804 ?_
  refine j_iload_n C dX6_spell_20 rfl rfl ?_
  refine j_pc (pc2 := 21) rfl ?_
  refine j_iconst (v := (2 : Int32)) C dX6_spell_21 rfl ?_
  refine j_iadd C dX6_spell_22 ?_
  refine j_iload C dX6_spell_23 rfl ?_
  refine j_iast C dX6_spell_25 (MAt.P_texts h0) ?_
  refine j_aload_n C dX6_spell_26 rfl rfl ?_
  refine j_getR (j := 1) C dX6_spell_27 FC6 (MAt.S h0) (by decide) rfl (MAt.R_texts h0) tw_804 ?_
  refine j_iload_n C dX6_spell_30 rfl rfl ?_
  refine j_iconst (v := (3 : Int32)) C dX6_spell_31 rfl ?_
  refine j_pc (pc2 := 32) rfl ?_
  refine j_iadd C dX6_spell_32 ?_
  refine j_iload C dX6_spell_33 rfl ?_
  refine j_iast C dX6_spell_35 (MAt.P_texts h0) ?_
  refine j_aload_n C dX6_spell_36 rfl rfl ?_
  refine j_getR (j := 1) C dX6_spell_37 FC6 (MAt.S h0) (by decide) rfl (MAt.R_texts h0) tw_804 ?_
  refine j_iload_n C dX6_spell_40 rfl rfl ?_
  refine j_iconst (v := (4 : Int32)) C dX6_spell_41 rfl ?_
  refine j_iadd C dX6_spell_42 ?_
  refine j_pc (pc2 := 43) rfl ?_
  refine j_iload C dX6_spell_43 rfl ?_
  refine j_iast C dX6_spell_45 (MAt.P_texts h0) ?_
  refine j_aload_n C dX6_spell_46 rfl rfl ?_
  refine j_getR (j := 1) C dX6_spell_47 FC6 (MAt.S h0) (by decide) rfl (MAt.R_texts h0) tw_804 ?_
  refine j_iload_n C dX6_spell_50 rfl rfl ?_
  refine j_iconst (v := (5 : Int32)) C dX6_spell_51 rfl ?_
  refine j_iadd C dX6_spell_52 ?_
  refine j_iload C dX6_spell_53 rfl ?_
  refine j_pc (pc2 := 55) rfl ?_
  refine j_iast C dX6_spell_55 (MAt.P_texts h0) ?_
  refine j_aload_n C dX6_spell_56 rfl rfl ?_
  refine j_getR (j := 1) C dX6_spell_57 FC6 (MAt.S h0) (by decide) rfl (MAt.R_texts h0) tw_804 ?_
  refine j_iload_n C dX6_spell_60 rfl rfl ?_
  refine j_bipush (v := (6 : Int32)) C dX6_spell_61 (by decide) ?_
  refine j_iadd C dX6_spell_63 ?_
  refine j_iload C dX6_spell_64 rfl ?_
  refine j_iast C dX6_spell_66 (MAt.P_texts h0) ?_
  refine j_pc (pc2 := 67) rfl ?_
  refine j_aload_n C dX6_spell_67 rfl rfl ?_
  refine j_getR (j := 1) C dX6_spell_68 FC6 (MAt.S h0) (by decide) rfl (MAt.R_texts h0) tw_804 ?_
  refine j_iload_n C dX6_spell_71 rfl rfl ?_
  refine j_bipush (v := (7 : Int32)) C dX6_spell_72 (by decide) ?_
  refine j_iadd C dX6_spell_74 ?_
  refine j_iload C dX6_spell_75 rfl ?_
  refine j_iast C dX6_spell_77 (MAt.P_texts h0) ?_
  exact j_vretw C dX6_spell_78
set_option maxRecDepth 100000 in
set_option maxHeartbeats 4000000 in
theorem ct_X6_isOne (γ : Gm) (E : Ev) (M : Mi) (L : Ml)  (x1 : Int32) (h0 : MAt E) : Ct γ yX6_isOne cX6_isOne 2 (some .boolean) ⟨1, 0, 0, 25⟩ [.ref (E.2.1 0), .int x1] E M L (Q_i γ E M L) 0 0 (F_X6_isOne M L x1) := by
  refine ct_of (own := RX6) (lv := [some (.ref (E.2.1 0)), some (.int x1)]) (by decide +kernel) rfl rfl (Nat.le_of_ble_eq_true rfl) (fun κ C hγ hN => ?_)
  subst hγ
  have hn : ∀ i, i < 2 → i < knL κ := fun i h => by rw [hN]; exact h
  unfold F_X6_isOne
  refine j_iload_n C dX6_isOne_0 rfl rfl ?_
  refine j_i2l C dX6_isOne_1 ?_
  refine j_lconst (v := (0 : Int64)) C dX6_isOne_2 rfl ?_
  refine j_aload_n C dX6_isOne_3 rfl rfl ?_
  refine j_getI (j := 11) C dX6_isOne_4 FC6 (MAt.S h0) (by decide) rfl tw_814 ?_
  refine j_iconst (v := (1 : Int32)) C dX6_isOne_7 rfl ?_
  refine j_isub C dX6_isOne_8 ?_
  refine j_pc (pc2 := 9) rfl ?_
  refine j_i2l C dX6_isOne_9 ?_
  refine j_callS_i (st := []) C dX6_isOne_10 (ct_X6_in (kγ κ) E M L (Int32.toInt64 x1) (0 : Int64) (Int32.toInt64 ((M 0 11) - (1 : Int32)))) mi_X6_in tw_933 rfl rfl (Nat.le_of_ble_eq_true rfl) ⟨⟨rfl, rfl⟩, ⟨Nat.le_of_ble_eq_true rfl, Nat.le_of_ble_eq_true rfl⟩, ⟨Nat.zero_le _, Nat.zero_le _⟩⟩ (fun v10 => ?_)
  exact j_zret C dX6_isOne_13
set_option maxRecDepth 100000 in
set_option maxHeartbeats 4000000 in
theorem ct_X6_areTwo (γ : Gm) (E : Ev) (M : Mi) (L : Ml)  (x1 : Int32) (x2 : Int32) (h0 : MAt E) : Ct γ yX6_areTwo cX6_areTwo 3 (some .boolean) ⟨2, 0, 0, 46⟩ [.ref (E.2.1 0), .int x1, .int x2] E M L (Q_i γ E M L) 0 0 (F_X6_areTwo M L x1 x2) := by
  refine ct_of (own := RX6) (lv := [some (.ref (E.2.1 0)), some (.int x1), some (.int x2)]) (by decide +kernel) rfl rfl (Nat.le_of_ble_eq_true rfl) (fun κ C hγ hN => ?_)
  subst hγ
  have hn : ∀ i, i < 3 → i < knL κ := fun i h => by rw [hN]; exact h
  unfold F_X6_areTwo
  refine j_aload_n C dX6_areTwo_0 rfl rfl ?_
  refine j_iload_n C dX6_areTwo_1 rfl rfl ?_
  refine j_callV_i (st := []) C dX6_areTwo_2 (ct_X6_isOne (kγ κ) E M L x1 h0) mi_X6_isOne tw_944 FC6 (MAt.S h0) rfl rfl (Nat.le_of_ble_eq_true rfl) ⟨⟨rfl, rfl⟩, ⟨Nat.le_of_ble_eq_true rfl, Nat.le_of_ble_eq_true rfl⟩, ⟨Nat.zero_le _, Nat.zero_le _⟩⟩ (fun v2 => ?_)
  refine j_if_eq (tgt := 25) C dX6_areTwo_5 (by decide) ?_ ?_
  · refine j_iconst (v := (0 : Int32)) C dX6_areTwo_25 rfl ?_
    exact j_zret C dX6_areTwo_26
  · refine j_aload_n C dX6_areTwo_8 rfl rfl ?_
    refine j_iload_n C dX6_areTwo_9 rfl rfl ?_
    refine j_callV_i (st := []) C dX6_areTwo_10 (ct_X6_isOne (kγ κ) E M L x2 h0) mi_X6_isOne tw_944 FC6 (MAt.S h0) rfl rfl (Nat.le_of_ble_eq_true rfl) ⟨⟨rfl, rfl⟩, ⟨Nat.le_of_ble_eq_true rfl, Nat.le_of_ble_eq_true rfl⟩, ⟨Nat.zero_le _, Nat.zero_le _⟩⟩ (fun v10 => ?_)
    refine j_if_eq (tgt := 25) C dX6_areTwo_13 (by decide) ?_ ?_
    · refine j_iconst (v := (0 : Int32)) C dX6_areTwo_25 rfl ?_
      exact j_zret C dX6_areTwo_26
    · refine j_iload_n C dX6_areTwo_16 rfl rfl ?_
      refine j_iload_n C dX6_areTwo_17 rfl rfl ?_
      refine j_icmp_eq (tgt := 25) C dX6_areTwo_18 (by decide) ?_ ?_
      · refine j_iconst (v := (0 : Int32)) C dX6_areTwo_25 rfl ?_
        exact j_zret C dX6_areTwo_26
      · refine j_iconst (v := (1 : Int32)) C dX6_areTwo_21 rfl ?_
        refine j_goto (tgt := 26) C dX6_areTwo_22 (by decide) ?_
        exact j_zret C dX6_areTwo_26
set_option maxRecDepth 100000 in
set_option maxHeartbeats 4000000 in
theorem ct_X6_isTile (γ : Gm) (E : Ev) (M : Mi) (L : Ml)  (x0 : Int32)  : Ct γ yX6_isTile cX6_isTile 1 (some .boolean) ⟨1, 0, 0, 25⟩ [.int x0] E M L (Q_i γ E M L) 0 0 (F_X6_isTile x0) := by
  refine ct_of (own := RX6) (lv := [some (.int x0)]) (by decide +kernel) rfl rfl (Nat.le_of_ble_eq_true rfl) (fun κ C hγ hN => ?_)
  subst hγ
  have hn : ∀ i, i < 1 → i < knL κ := fun i h => by rw [hN]; exact h
  unfold F_X6_isTile
  refine j_iload_n C dX6_isTile_0 rfl rfl ?_
  refine j_i2l C dX6_isTile_1 ?_
  refine j_lconst (v := (0 : Int64)) C dX6_isTile_2 rfl ?_
  refine j_ldc2 (v := (63 : Int64)) C dX6_isTile_3 tw_943 ?_
  refine j_callS_i (st := []) C dX6_isTile_6 (ct_X6_in (kγ κ) E M L (Int32.toInt64 x0) (0 : Int64) (63 : Int64)) mi_X6_in tw_933 rfl rfl (Nat.le_of_ble_eq_true rfl) ⟨⟨rfl, rfl⟩, ⟨Nat.le_of_ble_eq_true rfl, Nat.le_of_ble_eq_true rfl⟩, ⟨Nat.zero_le _, Nat.zero_le _⟩⟩ (fun v6 => ?_)
  exact j_zret C dX6_isTile_9
set_option maxRecDepth 100000 in
set_option maxHeartbeats 4000000 in
theorem ct_X6_has (γ : Gm) (E : Ev) (M : Mi) (L : Ml)  (x0 : Int64) (x2 : Int32)  : Ct γ yX6_has cX6_has 3 (some .boolean) ⟨0, 0, 0, 0⟩ [.long x0, .int x2] E M L (Q_i γ E M L) 0 0 (F_X6_has x0 x2) := by
  refine ct_of (own := RX6) (lv := [some (.long x0), none, some (.int x2)]) (by decide +kernel) rfl rfl (Nat.le_of_ble_eq_true rfl) (fun κ C hγ hN => ?_)
  subst hγ
  have hn : ∀ i, i < 3 → i < knL κ := fun i h => by rw [hN]; exact h
  unfold F_X6_has
  refine j_lload_n C dX6_has_0 rfl rfl ?_
  refine j_iload_n C dX6_has_1 rfl rfl ?_
  refine j_lshr C dX6_has_2 ?_
  refine j_lconst (v := (1 : Int64)) C dX6_has_3 rfl ?_
  refine j_land C dX6_has_4 ?_
  refine j_lconst (v := (1 : Int64)) C dX6_has_5 rfl ?_
  refine j_lcmp C dX6_has_6 ?_
  refine j_pc (pc2 := 7) rfl ?_
  refine j_if_ne (tgt := 14) C dX6_has_7 (by decide) ?_ ?_
  · refine j_iconst (v := (0 : Int32)) C dX6_has_14 rfl ?_
    exact j_zret C dX6_has_15
  · refine j_iconst (v := (1 : Int32)) C dX6_has_10 rfl ?_
    refine j_goto (tgt := 15) C dX6_has_11 (by decide) ?_
    exact j_zret C dX6_has_15
set_option maxRecDepth 100000 in
set_option maxHeartbeats 4000000 in
theorem ct_X6_bitsOf (γ : Gm) (E : Ev) (M : Mi) (L : Ml)  (x0 : Int64)  : Ct γ yX6_bitsOf cX6_bitsOf 5 (some .int) ⟨0, 0, 0, 0⟩ [.long x0] E M L (Q_i γ E M L) 0 0 (F_X6_bitsOf x0) := by
  refine ct_of (own := RX6) (lv := [some (.long x0), none, none, none, none]) (by decide +kernel) rfl rfl (Nat.le_of_ble_eq_true rfl) (fun κ C hγ hN => ?_)
  subst hγ
  have hn : ∀ i, i < 5 → i < knL κ := fun i h => by rw [hN]; exact h
  have k4 : ∀ (n : Nat) (x2 : Int32) (x3 : Int64), JF κ (PQ κ (Q_i (kγ κ) E M L) 0 0) 4 [none, none, some (.int x2), some (.long x3), none] [] E M L 0 0 (F_X6_bitsOf_k4  n x2 x3) := by
    intro n
    induction n with
    | zero => intros; exact jf_none
    | succ n ih =>
      intro x2 x3
      unfold F_X6_bitsOf_k4
      refine j_lload_n C dX6_bitsOf_4 rfl rfl ?_
      refine j_lconst (v := (0 : Int64)) C dX6_bitsOf_5 rfl ?_
      refine j_lcmp C dX6_bitsOf_6 ?_
      refine j_if_eq (tgt := 22) C dX6_bitsOf_7 (by decide) ?_ ?_
      · refine j_iload_n C dX6_bitsOf_22 rfl rfl ?_
        exact j_iret C dX6_bitsOf_23
      · refine j_iinc (i := 2) (v := (x2 + (1 : Int32))) (lv' := [none, none, some (.int (x2 + (1 : Int32))), some (.long x3), none]) C dX6_bitsOf_10 rfl rfl (hn 2 (by decide)) rfl ?_
        refine j_lload_n C dX6_bitsOf_13 rfl rfl ?_
        refine j_lload_n C dX6_bitsOf_14 rfl rfl ?_
        refine j_lconst (v := (1 : Int64)) C dX6_bitsOf_15 rfl ?_
        refine j_lsub C dX6_bitsOf_16 ?_
        refine j_land C dX6_bitsOf_17 ?_
        refine j_lstore_n (i := 3) (lv' := [none, none, some (.int (x2 + (1 : Int32))), some (.long (x3 &&& (x3 - (1 : Int64)))), none]) C dX6_bitsOf_18 rfl (hn 4 (by decide)) rfl ?_
        refine j_pc (pc2 := 19) rfl ?_
        refine j_goto (tgt := 4) C dX6_bitsOf_19 (by decide) ?_
        exact ih ((x2 + (1 : Int32))) ((x3 &&& (x3 - (1 : Int64))))
  unfold F_X6_bitsOf
  refine j_iconst (v := (0 : Int32)) C dX6_bitsOf_0 rfl ?_
  refine j_istore_n (i := 2) (lv' := [some (.long x0), none, some (.int (0 : Int32)), none, none]) C dX6_bitsOf_1 rfl (hn 2 (by decide)) rfl ?_
  refine j_lload_n C dX6_bitsOf_2 rfl rfl ?_
  refine j_lstore_n (i := 3) (lv' := [some (.long x0), none, some (.int (0 : Int32)), some (.long x0), none]) C dX6_bitsOf_3 rfl (hn 4 (by decide)) rfl ?_
  refine j_mask [false, false, true, true, false] (lv' := [none, none, some (.int (0 : Int32)), some (.long x0), none]) rfl ?_
  exact k4 FU ((0 : Int32)) x0
set_option maxRecDepth 100000 in
set_option maxHeartbeats 4000000 in
theorem ct_X6_isOf (γ : Gm) (E : Ev) (M : Mi) (L : Ml)  (x1 : Int32) (x2 : Int32) (h0 : MAt E) : Ct γ yX6_isOf cX6_isOf 3 (some .boolean) ⟨2, 0, 0, 46⟩ [.ref (E.2.1 0), .int x1, .int x2] E M L (Q_i γ E M L) 0 0 (F_X6_isOf M L x1 x2) := by
  refine ct_of (own := RX6) (lv := [some (.ref (E.2.1 0)), some (.int x1), some (.int x2)]) (by decide +kernel) rfl rfl (Nat.le_of_ble_eq_true rfl) (fun κ C hγ hN => ?_)
  subst hγ
  have hn : ∀ i, i < 3 → i < knL κ := fun i h => by rw [hN]; exact h
  have k33 : JF κ (PQ κ (Q_i (kγ κ) E M L) 0 0) 33 [none, none, none] [] E M L 0 0 (F_X6_isOf_k33 M L) := by
    unfold F_X6_isOf_k33
    refine j_iconst (v := (1 : Int32)) C dX6_isOf_33 rfl ?_
    refine j_goto (tgt := 38) C dX6_isOf_34 (by decide) ?_
    exact j_zret C dX6_isOf_38
  have k15 : ∀ (x2 : Int32), JF κ (PQ κ (Q_i (kγ κ) E M L) 0 0) 15 [none, none, some (.int x2)] [] E M L 0 0 (F_X6_isOf_k15 M L x2) := by
    intro x2
    unfold F_X6_isOf_k15
    refine j_iload_n C dX6_isOf_15 rfl rfl ?_
    refine j_callS_i (st := []) C dX6_isOf_16 (ct_X6_isTile (kγ κ) E M L x2) mi_X6_isTile tw_940 rfl rfl (Nat.le_of_ble_eq_true rfl) ⟨⟨rfl, rfl⟩, ⟨Nat.le_of_ble_eq_true rfl, Nat.le_of_ble_eq_true rfl⟩, ⟨Nat.zero_le _, Nat.zero_le _⟩⟩ (fun v16 => ?_)
    refine j_if_eq (tgt := 37) C dX6_isOf_19 (by decide) ?_ ?_
    · refine j_iconst (v := (0 : Int32)) C dX6_isOf_37 rfl ?_
      exact j_zret C dX6_isOf_38
    · refine j_goto (tgt := 33) C dX6_isOf_22 (by decide) ?_
      refine j_mask [false, false, false] (lv' := [none, none, none]) rfl ?_
      exact k33 
  unfold F_X6_isOf
  refine j_iload_n C dX6_isOf_0 rfl rfl ?_
  refine j_if_eq (tgt := 33) C dX6_isOf_1 (by decide) ?_ ?_
  · refine j_mask [false, false, false] (lv' := [none, none, none]) rfl ?_
    exact k33 
  · refine j_iload_n C dX6_isOf_4 rfl rfl ?_
    refine j_iconst (v := (3 : Int32)) C dX6_isOf_5 rfl ?_
    refine j_icmp_lt (tgt := 15) C dX6_isOf_6 (by decide) ?_ ?_
    · refine j_mask [false, false, true] (lv' := [none, none, some (.int x2)]) rfl ?_
      exact k15 x2
    · refine j_iload_n C dX6_isOf_9 rfl rfl ?_
      refine j_bipush (v := (11 : Int32)) C dX6_isOf_10 (by decide) ?_
      refine j_icmp_ne (tgt := 25) C dX6_isOf_12 (by decide) ?_ ?_
      · refine j_aload_n C dX6_isOf_25 rfl rfl ?_
        refine j_iload_n C dX6_isOf_26 rfl rfl ?_
        refine j_callV_i (st := []) C dX6_isOf_27 (ct_X6_isOne (kγ κ) E M L x2 h0) mi_X6_isOne tw_944 FC6 (MAt.S h0) rfl rfl (Nat.le_of_ble_eq_true rfl) ⟨⟨rfl, rfl⟩, ⟨Nat.le_of_ble_eq_true rfl, Nat.le_of_ble_eq_true rfl⟩, ⟨Nat.zero_le _, Nat.zero_le _⟩⟩ (fun v27 => ?_)
        refine j_if_eq (tgt := 37) C dX6_isOf_30 (by decide) ?_ ?_
        · refine j_iconst (v := (0 : Int32)) C dX6_isOf_37 rfl ?_
          exact j_zret C dX6_isOf_38
        · refine j_mask [false, false, false] (lv' := [none, none, none]) rfl ?_
          exact k33 
      · refine j_mask [false, false, true] (lv' := [none, none, some (.int x2)]) rfl ?_
        exact k15 x2
set_option maxRecDepth 100000 in
set_option maxHeartbeats 4000000 in
theorem ct_X6_mostOf (γ : Gm) (E : Ev) (M : Mi) (L : Ml)  (x0 : Int32)  : Ct γ yX6_mostOf cX6_mostOf 1 (some .int) ⟨0, 0, 0, 0⟩ [.int x0] E M L (Q_i γ E M L) 0 0 (F_X6_mostOf x0) := by
  refine ct_of (own := RX6) (lv := [some (.int x0)]) (by decide +kernel) rfl rfl (Nat.le_of_ble_eq_true rfl) (fun κ C hγ hN => ?_)
  subst hγ
  have hn : ∀ i, i < 1 → i < knL κ := fun i h => by rw [hN]; exact h
  unfold F_X6_mostOf
  refine j_iload_n C dX6_mostOf_0 rfl rfl ?_
  refine j_if_ne (tgt := 10) C dX6_mostOf_1 (by decide) ?_ ?_
  · refine j_iload_n C dX6_mostOf_10 rfl rfl ?_
    refine j_iconst (v := (3 : Int32)) C dX6_mostOf_11 rfl ?_
    refine j_icmp_ge (tgt := 19) C dX6_mostOf_12 (by decide) ?_ ?_
    · refine j_iload_n C dX6_mostOf_19 rfl rfl ?_
      refine j_iconst (v := (3 : Int32)) C dX6_mostOf_20 rfl ?_
      refine j_icmp_ne (tgt := 29) C dX6_mostOf_21 (by decide) ?_ ?_
      · refine j_iload_n C dX6_mostOf_29 rfl rfl ?_
        refine j_iconst (v := (4 : Int32)) C dX6_mostOf_30 rfl ?_
        refine j_icmp_ne (tgt := 39) C dX6_mostOf_31 (by decide) ?_ ?_
        · refine j_bipush (v := (99 : Int32)) C dX6_mostOf_39 (by decide) ?_
          exact j_iret C dX6_mostOf_41
        · refine j_bipush (v := (63 : Int32)) C dX6_mostOf_34 (by decide) ?_
          refine j_goto (tgt := 41) C dX6_mostOf_36 (by decide) ?_
          exact j_iret C dX6_mostOf_41
      · refine j_bipush (v := (9 : Int32)) C dX6_mostOf_24 (by decide) ?_
        refine j_goto (tgt := 41) C dX6_mostOf_26 (by decide) ?_
        exact j_iret C dX6_mostOf_41
    · refine j_iconst (v := (1 : Int32)) C dX6_mostOf_15 rfl ?_
      refine j_goto (tgt := 41) C dX6_mostOf_16 (by decide) ?_
      exact j_iret C dX6_mostOf_41
  · refine j_sipush (v := (999 : Int32)) C dX6_mostOf_4 (by decide) ?_
    refine j_goto (tgt := 41) C dX6_mostOf_7 (by decide) ?_
    exact j_iret C dX6_mostOf_41
set_option maxRecDepth 100000 in
set_option maxHeartbeats 4000000 in
theorem ct_X6_lays (γ : Gm) (E : Ev) (M : Mi) (L : Ml)  (x1 : Int32) (x2 : Int32) (x3 : Int32) (h0 : MAt E) : Ct γ yX6_lays cX6_lays 4 none ⟨0, 0, 0, 0⟩ [.ref (E.2.1 0), .int x1, .int x2, .int x3] E M L (Q_vw γ E) 0 0 (F_X6_lays M L x1 x2 x3) := by
  refine ct_of (own := RX6) (lv := [some (.ref (E.2.1 0)), some (.int x1), some (.int x2), some (.int x3)]) (by decide +kernel) rfl rfl (Nat.le_of_ble_eq_true rfl) (fun κ C hγ hN => ?_)
  subst hγ
  have hn : ∀ i, i < 4 → i < knL κ := fun i h => by rw [hN]; exact h
  unfold F_X6_lays
  refine j_iload_n C dX6_lays_0 rfl rfl ?_
  refine j_if_ne (tgt := 12) C dX6_lays_1 (by decide) ?_ ?_
  · refine j_iload_n C dX6_lays_12 rfl rfl ?_
    refine j_iconst (v := (1 : Int32)) C dX6_lays_13 rfl ?_
    refine j_icmp_ne (tgt := 41) C dX6_lays_14 (by decide) ?_ ?_
    · refine j_iload_n C dX6_lays_41 rfl rfl ?_
      refine j_iconst (v := (2 : Int32)) C dX6_lays_42 rfl ?_
      refine j_icmp_ne (tgt := 70) C dX6_lays_43 (by decide) ?_ ?_
      · refine j_iload_n C dX6_lays_70 rfl rfl ?_
        refine j_bipush (v := (7 : Int32)) C dX6_lays_71 (by decide) ?_
        refine j_icmp_ge (tgt := 92) C dX6_lays_73 (by decide) ?_ ?_
        · refine j_aload_n C dX6_lays_92 rfl rfl ?_
          refine j_iload_n C dX6_lays_93 rfl rfl ?_
          refine j_putI (j := 4) C dX6_lays_94 FC6 (MAt.S h0) (by decide) rfl rfl rfl rfl tw_807 ?_
          exact j_vretw C dX6_lays_97
        · refine j_aload_n C dX6_lays_76 rfl rfl ?_
          refine j_getR (j := 10) C dX6_lays_77 FC6 (MAt.S h0) (by decide) rfl (MAt.R_rows h0) tw_813 ?_
          refine j_iconst (v := (4 : Int32)) C dX6_lays_80 rfl ?_
          refine j_iload_n C dX6_lays_81 rfl rfl ?_
          refine j_imul C dX6_lays_82 ?_
          refine j_iload_n C dX6_lays_83 rfl rfl ?_
          refine j_iadd C dX6_lays_84 ?_
          refine j_pc (pc2 := 85) rfl ?_
          refine j_iconst (v := (3 : Int32)) C dX6_lays_85 rfl ?_
          refine j_isub C dX6_lays_86 ?_
          refine j_iload_n C dX6_lays_87 rfl rfl ?_
          refine j_iast C dX6_lays_88 (MAt.P_rows h0) ?_
          refine j_goto (tgt := 97) C dX6_lays_89 (by decide) ?_
          exact j_vretw C dX6_lays_97
      · refine j_aload_n C dX6_lays_46 rfl rfl ?_
        refine j_aload_n C dX6_lays_47 rfl rfl ?_
        refine j_getL (j := 9) C dX6_lays_48 FC6 (MAt.S h0) (by decide) rfl tw_812 ?_
        refine j_lconst (v := (1 : Int64)) C dX6_lays_51 rfl ?_
        refine j_iload_n C dX6_lays_52 rfl rfl ?_
        refine j_lshl C dX6_lays_53 ?_
        refine j_ldc2 (v := (-1 : Int64)) C dX6_lays_54 tw_1191 ?_
        refine j_pc (pc2 := 57) rfl ?_
        refine j_lxor C dX6_lays_57 ?_
        refine j_land C dX6_lays_58 ?_
        refine j_iload_n C dX6_lays_59 rfl rfl ?_
        refine j_i2l C dX6_lays_60 ?_
        refine j_iload_n C dX6_lays_61 rfl rfl ?_
        refine j_lshl C dX6_lays_62 ?_
        refine j_lor C dX6_lays_63 ?_
        refine j_putL (j := 9) C dX6_lays_64 FC6 (MAt.S h0) (by decide) rfl rfl rfl rfl tw_812 ?_
        refine j_pc (pc2 := 67) rfl ?_
        refine j_goto (tgt := 97) C dX6_lays_67 (by decide) ?_
        exact j_vretw C dX6_lays_97
    · refine j_aload_n C dX6_lays_17 rfl rfl ?_
      refine j_aload_n C dX6_lays_18 rfl rfl ?_
      refine j_getL (j := 8) C dX6_lays_19 FC6 (MAt.S h0) (by decide) rfl tw_811 ?_
      refine j_lconst (v := (1 : Int64)) C dX6_lays_22 rfl ?_
      refine j_iload_n C dX6_lays_23 rfl rfl ?_
      refine j_lshl C dX6_lays_24 ?_
      refine j_ldc2 (v := (-1 : Int64)) C dX6_lays_25 tw_1191 ?_
      refine j_pc (pc2 := 28) rfl ?_
      refine j_lxor C dX6_lays_28 ?_
      refine j_land C dX6_lays_29 ?_
      refine j_iload_n C dX6_lays_30 rfl rfl ?_
      refine j_i2l C dX6_lays_31 ?_
      refine j_iload_n C dX6_lays_32 rfl rfl ?_
      refine j_lshl C dX6_lays_33 ?_
      refine j_lor C dX6_lays_34 ?_
      refine j_putL (j := 8) C dX6_lays_35 FC6 (MAt.S h0) (by decide) rfl rfl rfl rfl tw_811 ?_
      refine j_pc (pc2 := 38) rfl ?_
      refine j_goto (tgt := 97) C dX6_lays_38 (by decide) ?_
      exact j_vretw C dX6_lays_97
  · refine j_aload_n C dX6_lays_4 rfl rfl ?_
    refine j_iload_n C dX6_lays_5 rfl rfl ?_
    refine j_putI (j := 7) C dX6_lays_6 FC6 (MAt.S h0) (by decide) rfl rfl rfl rfl tw_810 ?_
    refine j_goto (tgt := 97) C dX6_lays_9 (by decide) ?_
    exact j_vretw C dX6_lays_97
set_option maxRecDepth 100000 in
set_option maxHeartbeats 4000000 in
theorem ct_X6_isBlack (γ : Gm) (E : Ev) (M : Mi) (L : Ml)  (x0 : Int32)  : Ct γ yX6_isBlack cX6_isBlack 1 (some .boolean) ⟨0, 0, 0, 0⟩ [.int x0] E M L (Q_i γ E M L) 0 0 (F_X6_isBlack x0) := by
  refine ct_of (own := RX6) (lv := [some (.int x0)]) (by decide +kernel) rfl rfl (Nat.le_of_ble_eq_true rfl) (fun κ C hγ hN => ?_)
  subst hγ
  have hn : ∀ i, i < 1 → i < knL κ := fun i h => by rw [hN]; exact h
  unfold F_X6_isBlack
  refine j_iload_n C dX6_isBlack_0 rfl rfl ?_
  refine j_bipush (v := (8 : Int32)) C dX6_isBlack_1 (by decide) ?_
  refine j_iremc C dX6_isBlack_3 (by decide) ?_
  refine j_iload_n C dX6_isBlack_4 rfl rfl ?_
  refine j_bipush (v := (8 : Int32)) C dX6_isBlack_5 (by decide) ?_
  refine j_idivc C dX6_isBlack_7 (by decide) ?_
  refine j_iadd C dX6_isBlack_8 ?_
  refine j_pc (pc2 := 9) rfl ?_
  refine j_iconst (v := (2 : Int32)) C dX6_isBlack_9 rfl ?_
  refine j_iremc C dX6_isBlack_10 (by decide) ?_
  refine j_iconst (v := (1 : Int32)) C dX6_isBlack_11 rfl ?_
  refine j_icmp_ne (tgt := 19) C dX6_isBlack_12 (by decide) ?_ ?_
  · refine j_iconst (v := (0 : Int32)) C dX6_isBlack_19 rfl ?_
    exact j_zret C dX6_isBlack_20
  · refine j_iconst (v := (1 : Int32)) C dX6_isBlack_15 rfl ?_
    refine j_goto (tgt := 20) C dX6_isBlack_16 (by decide) ?_
    exact j_zret C dX6_isBlack_20
set_option maxRecDepth 100000 in
set_option maxHeartbeats 4000000 in
theorem ct_X6_onOf (γ : Gm) (E : Ev) (M : Mi) (L : Ml)  (x1 : Int32) (h0 : MAt E) : Ct γ yX6_onOf cX6_onOf 2 (some .int) ⟨0, 0, 0, 0⟩ [.ref (E.2.1 0), .int x1] E M L (Q_i γ E M L) 0 0 (F_X6_onOf M L x1) := by
  refine ct_of (own := RX6) (lv := [some (.ref (E.2.1 0)), some (.int x1)]) (by decide +kernel) rfl rfl (Nat.le_of_ble_eq_true rfl) (fun κ C hγ hN => ?_)
  subst hγ
  have hn : ∀ i, i < 2 → i < knL κ := fun i h => by rw [hN]; exact h
  unfold F_X6_onOf
  refine j_aload_n C dX6_onOf_0 rfl rfl ?_
  refine j_getR (j := 10) C dX6_onOf_1 FC6 (MAt.S h0) (by decide) rfl (MAt.R_rows h0) tw_813 ?_
  refine j_iconst (v := (4 : Int32)) C dX6_onOf_4 rfl ?_
  refine j_iload_n C dX6_onOf_5 rfl rfl ?_
  refine j_imul C dX6_onOf_6 ?_
  refine j_iconst (v := (1 : Int32)) C dX6_onOf_7 rfl ?_
  refine j_iadd C dX6_onOf_8 ?_
  refine j_pc (pc2 := 9) rfl ?_
  refine j_iald C dX6_onOf_9 (MAt.P_rows h0) ?_
  exact j_iret C dX6_onOf_10
set_option maxRecDepth 100000 in
set_option maxHeartbeats 4000000 in
theorem ct_X6_foundOf (γ : Gm) (E : Ev) (M : Mi) (L : Ml)  (x1 : Int32) (h0 : MAt E) : Ct γ yX6_foundOf cX6_foundOf 6 (some .int) ⟨1, 0, 0, 22⟩ [.ref (E.2.1 0), .int x1] E M L (Q_i γ E M L) 0 0 (F_X6_foundOf M L x1) := by
  refine ct_of (own := RX6) (lv := [some (.ref (E.2.1 0)), some (.int x1), none, none, none, none]) (by decide +kernel) rfl rfl (Nat.le_of_ble_eq_true rfl) (fun κ C hγ hN => ?_)
  subst hγ
  have hn : ∀ i, i < 6 → i < knL κ := fun i h => by rw [hN]; exact h
  have k96 : JF κ (PQ κ (Q_i (kγ κ) E M L) 0 0) 96 [none, none, none, none, none, none] [] E M L 0 0 (F_X6_foundOf_k96 M L) := by
    unfold F_X6_foundOf_k96
    refine j_iconst (v := (1 : Int32)) C dX6_foundOf_96 rfl ?_
    refine j_goto (tgt := 101) C dX6_foundOf_97 (by decide) ?_
    exact j_iret C dX6_foundOf_101
  have k82 : ∀ (x3 : Int32) (s0 : Int32), JF κ (PQ κ (Q_i (kγ κ) E M L) 0 0) 82 [none, none, none, some (.int x3), none, none] [.int s0] E M L 0 0 (F_X6_foundOf_k82 M L x3 s0) := by
    intro x3 s0
    unfold F_X6_foundOf_k82
    refine j_istore (i := 5) (lv' := [none, none, none, some (.int x3), none, some (.int s0)]) C dX6_foundOf_82 (hn 5 (by decide)) rfl ?_
    refine j_iload C dX6_foundOf_84 rfl ?_
    refine j_if_ne (tgt := 96) C dX6_foundOf_86 (by decide) ?_ ?_
    · refine j_mask [false, false, false, false, false, false] (lv' := [none, none, none, none, none, none]) rfl ?_
      exact k96 
    · refine j_iload_n C dX6_foundOf_89 rfl rfl ?_
      refine j_callS_i (st := []) C dX6_foundOf_90 (ct_X6_isBlack (kγ κ) E M L x3) mi_X6_isBlack tw_1184 rfl rfl (Nat.le_of_ble_eq_true rfl) ⟨⟨rfl, rfl⟩, ⟨Nat.le_of_ble_eq_true rfl, Nat.le_of_ble_eq_true rfl⟩, ⟨Nat.zero_le _, Nat.zero_le _⟩⟩ (fun v90 => ?_)
      refine j_if_eq (tgt := 100) C dX6_foundOf_93 (by decide) ?_ ?_
      · refine j_iconst (v := (0 : Int32)) C dX6_foundOf_100 rfl ?_
        exact j_iret C dX6_foundOf_101
      · refine j_mask [false, false, false, false, false, false] (lv' := [none, none, none, none, none, none]) rfl ?_
        exact k96 
  have k81 : ∀ (x3 : Int32), JF κ (PQ κ (Q_i (kγ κ) E M L) 0 0) 81 [none, none, none, some (.int x3), none, none] [] E M L 0 0 (F_X6_foundOf_k81 M L x3) := by
    intro x3
    unfold F_X6_foundOf_k81
    refine j_iconst (v := (0 : Int32)) C dX6_foundOf_81 rfl ?_
    exact k82 x3 ((0 : Int32))
  have k71 : ∀ (x3 : Int32) (x4 : Int32), JF κ (PQ κ (Q_i (kγ κ) E M L) 0 0) 71 [none, none, none, some (.int x3), some (.int x4), none] [] E M L 0 0 (F_X6_foundOf_k71 M L x3 x4) := by
    intro x3 x4
    unfold F_X6_foundOf_k71
    refine j_iload C dX6_foundOf_71 rfl ?_
    refine j_iconst (v := (5 : Int32)) C dX6_foundOf_73 rfl ?_
    refine j_icmp_ge (tgt := 81) C dX6_foundOf_74 (by decide) ?_ ?_
    · refine j_mask [false, false, false, true, false, false] (lv' := [none, none, none, some (.int x3), none, none]) rfl ?_
      exact k81 x3
    · refine j_iconst (v := (1 : Int32)) C dX6_foundOf_77 rfl ?_
      refine j_goto (tgt := 82) C dX6_foundOf_78 (by decide) ?_
      refine j_mask [false, false, false, true, false, false] (lv' := [none, none, none, some (.int x3), none, none]) rfl ?_
      exact k82 x3 ((1 : Int32))
  have k54 : ∀ (x2 : Int32) (x3 : Int32) (x4 : Int32), JF κ (PQ κ (Q_i (kγ κ) E M L) 0 0) 54 [none, none, some (.int x2), some (.int x3), some (.int x4), none] [] E M L 0 0 (F_X6_foundOf_k54 M L x2 x3 x4) := by
    intro x2 x3 x4
    unfold F_X6_foundOf_k54
    refine j_iload_n C dX6_foundOf_54 rfl rfl ?_
    refine j_iconst (v := (4 : Int32)) C dX6_foundOf_55 rfl ?_
    refine j_icmp_ne (tgt := 61) C dX6_foundOf_56 (by decide) ?_ ?_
    · refine j_iload_n C dX6_foundOf_61 rfl rfl ?_
      refine j_iconst (v := (1 : Int32)) C dX6_foundOf_62 rfl ?_
      refine j_icmp_eq (tgt := 71) C dX6_foundOf_63 (by decide) ?_ ?_
      · refine j_mask [false, false, false, true, true, false] (lv' := [none, none, none, some (.int x3), some (.int x4), none]) rfl ?_
        exact k71 x3 x4
      · refine j_iload_n C dX6_foundOf_66 rfl rfl ?_
        refine j_iconst (v := (3 : Int32)) C dX6_foundOf_67 rfl ?_
        refine j_icmp_ne (tgt := 81) C dX6_foundOf_68 (by decide) ?_ ?_
        · refine j_mask [false, false, false, true, false, false] (lv' := [none, none, none, some (.int x3), none, none]) rfl ?_
          exact k81 x3
        · refine j_mask [false, false, false, true, true, false] (lv' := [none, none, none, some (.int x3), some (.int x4), none]) rfl ?_
          exact k71 x3 x4
    · refine j_iconst (v := (0 : Int32)) C dX6_foundOf_59 rfl ?_
      exact j_iret C dX6_foundOf_60
  unfold F_X6_foundOf
  refine j_aload_n C dX6_foundOf_0 rfl rfl ?_
  refine j_getR (j := 10) C dX6_foundOf_1 FC6 (MAt.S h0) (by decide) rfl (MAt.R_rows h0) tw_813 ?_
  refine j_iconst (v := (4 : Int32)) C dX6_foundOf_4 rfl ?_
  refine j_iload_n C dX6_foundOf_5 rfl rfl ?_
  refine j_imul C dX6_foundOf_6 ?_
  refine j_iconst (v := (3 : Int32)) C dX6_foundOf_7 rfl ?_
  refine j_iadd C dX6_foundOf_8 ?_
  refine j_pc (pc2 := 9) rfl ?_
  refine j_iald C dX6_foundOf_9 (MAt.P_rows h0) ?_
  refine j_nmi (fun z10 => ?_)
  refine j_istore_n (i := 2) (lv' := [some (.ref (E.2.1 0)), some (.int x1), some (.int z10), none, none, none]) C dX6_foundOf_10 rfl (hn 2 (by decide)) rfl ?_
  refine j_aload_n C dX6_foundOf_11 rfl rfl ?_
  refine j_iload_n C dX6_foundOf_12 rfl rfl ?_
  refine j_callV_i (st := []) C dX6_foundOf_13 (ct_X6_onOf (kγ κ) E M L x1 h0) mi_X6_onOf tw_955 FC6 (MAt.S h0) rfl rfl (Nat.le_of_ble_eq_true rfl) ⟨⟨rfl, rfl⟩, ⟨Nat.le_of_ble_eq_true rfl, Nat.le_of_ble_eq_true rfl⟩, ⟨Nat.zero_le _, Nat.zero_le _⟩⟩ (fun v13 => ?_)
  refine j_istore_n (i := 3) (lv' := [some (.ref (E.2.1 0)), some (.int x1), some (.int z10), some (.int v13), none, none]) C dX6_foundOf_16 rfl (hn 3 (by decide)) rfl ?_
  refine j_aload_n C dX6_foundOf_17 rfl rfl ?_
  refine j_getR (j := 10) C dX6_foundOf_18 FC6 (MAt.S h0) (by decide) rfl (MAt.R_rows h0) tw_813 ?_
  refine j_pc (pc2 := 21) rfl ?_
  refine j_iconst (v := (4 : Int32)) C dX6_foundOf_21 rfl ?_
  refine j_iload_n C dX6_foundOf_22 rfl rfl ?_
  refine j_imul C dX6_foundOf_23 ?_
  refine j_iconst (v := (2 : Int32)) C dX6_foundOf_24 rfl ?_
  refine j_iadd C dX6_foundOf_25 ?_
  refine j_iald C dX6_foundOf_26 (MAt.P_rows h0) ?_
  refine j_nmi (fun z27 => ?_)
  refine j_istore (i := 4) (lv' := [some (.ref (E.2.1 0)), some (.int x1), some (.int z10), some (.int v13), some (.int z27), none]) C dX6_foundOf_27 (hn 4 (by decide)) rfl ?_
  refine j_aload_n C dX6_foundOf_29 rfl rfl ?_
  refine j_pc (pc2 := 30) rfl ?_
  refine j_getL (j := 8) C dX6_foundOf_30 FC6 (MAt.S h0) (by decide) rfl tw_811 ?_
  refine j_iload_n C dX6_foundOf_33 rfl rfl ?_
  refine j_callS_i (st := []) C dX6_foundOf_34 (ct_X6_has (kγ κ) E M L (L 0 8) v13) mi_X6_has tw_959 rfl rfl (Nat.le_of_ble_eq_true rfl) ⟨⟨rfl, rfl⟩, ⟨Nat.le_of_ble_eq_true rfl, Nat.le_of_ble_eq_true rfl⟩, ⟨Nat.zero_le _, Nat.zero_le _⟩⟩ (fun v34 => ?_)
  refine j_if_ne (tgt := 52) C dX6_foundOf_37 (by decide) ?_ ?_
  · refine j_iconst (v := (2 : Int32)) C dX6_foundOf_52 rfl ?_
    exact j_iret C dX6_foundOf_53
  · refine j_iload_n C dX6_foundOf_40 rfl rfl ?_
    refine j_iconst (v := (5 : Int32)) C dX6_foundOf_41 rfl ?_
    refine j_icmp_ne (tgt := 54) C dX6_foundOf_42 (by decide) ?_ ?_
    · refine j_mask [false, false, true, true, true, false] (lv' := [none, none, some (.int z10), some (.int v13), some (.int z27), none]) rfl ?_
      exact k54 z10 v13 z27
    · refine j_iload C dX6_foundOf_45 rfl ?_
      refine j_bipush (v := (49 : Int32)) C dX6_foundOf_47 (by decide) ?_
      refine j_icmp_le (tgt := 54) C dX6_foundOf_49 (by decide) ?_ ?_
      · refine j_mask [false, false, true, true, true, false] (lv' := [none, none, some (.int z10), some (.int v13), some (.int z27), none]) rfl ?_
        exact k54 z10 v13 z27
      · refine j_iconst (v := (2 : Int32)) C dX6_foundOf_52 rfl ?_
        exact j_iret C dX6_foundOf_53
set_option maxRecDepth 100000 in
set_option maxHeartbeats 4000000 in
theorem ct_X6_fail (γ : Gm) (E : Ev) (M : Mi) (L : Ml)   (h0 : MAt E) : Ct γ yX6_fail cX6_fail 1 none ⟨0, 0, 0, 0⟩ [.ref (E.2.1 0)] E M L (Q_vw γ E) 0 0 (F_X6_fail M L) := by
  refine ct_of (own := RX6) (lv := [some (.ref (E.2.1 0))]) (by decide +kernel) rfl rfl (Nat.le_of_ble_eq_true rfl) (fun κ C hγ hN => ?_)
  subst hγ
  have hn : ∀ i, i < 1 → i < knL κ := fun i h => by rw [hN]; exact h
  unfold F_X6_fail
  refine j_aload_n C dX6_fail_0 rfl rfl ?_
  refine j_getI (j := 26) C dX6_fail_1 FC6 (MAt.S h0) (by decide) rfl tw_829 ?_
  refine j_if_ne (tgt := 20) C dX6_fail_4 (by decide) ?_ ?_
  · exact j_vretw C dX6_fail_20
  · refine j_aload_n C dX6_fail_7 rfl rfl ?_
    refine j_iconst (v := (1 : Int32)) C dX6_fail_8 rfl ?_
    refine j_putI (j := 26) C dX6_fail_9 FC6 (MAt.S h0) (by decide) rfl rfl rfl rfl tw_829 ?_
    refine j_aload_n C dX6_fail_12 rfl rfl ?_
    refine j_aload_n C dX6_fail_13 rfl rfl ?_
    refine j_getI (j := 23) C dX6_fail_14 FC6 (MAt.S h0) (by decide) rfl tw_826 ?_
    refine j_putI (j := 27) C dX6_fail_17 FC6 (MAt.S h0) (by decide) rfl rfl rfl rfl tw_830 ?_
    refine j_pc (pc2 := 20) rfl ?_
    exact j_vretw C dX6_fail_20
set_option maxRecDepth 100000 in
set_option maxHeartbeats 4000000 in
theorem ct_X6_byteAt (γ : Gm) (E : Ev) (M : Mi) (L : Ml)  (x1 : Int32) (h0 : MAt E) : Ct γ yX6_byteAt cX6_byteAt 2 (some .int) ⟨0, 0, 0, 0⟩ [.ref (E.2.1 0), .int x1] E M L (Q_i γ E M L) 0 0 (F_X6_byteAt M L x1) := by
  refine ct_of (own := RX6) (lv := [some (.ref (E.2.1 0)), some (.int x1)]) (by decide +kernel) rfl rfl (Nat.le_of_ble_eq_true rfl) (fun κ C hγ hN => ?_)
  subst hγ
  have hn : ∀ i, i < 2 → i < knL κ := fun i h => by rw [hN]; exact h
  unfold F_X6_byteAt
  refine j_iload_n C dX6_byteAt_0 rfl rfl ?_
  refine j_aload_n C dX6_byteAt_1 rfl rfl ?_
  refine j_getI (j := 20) C dX6_byteAt_2 FC6 (MAt.S h0) (by decide) rfl tw_823 ?_
  refine j_icmp_ge (tgt := 22) C dX6_byteAt_5 (by decide) ?_ ?_
  · refine j_iconst (v := (-1 : Int32)) C dX6_byteAt_22 rfl ?_
    exact j_iret C dX6_byteAt_23
  · refine j_aload_n C dX6_byteAt_8 rfl rfl ?_
    refine j_getR (j := 1) C dX6_byteAt_9 FC6 (MAt.S h0) (by decide) rfl (MAt.R_texts h0) tw_804 ?_
    refine j_aload_n C dX6_byteAt_12 rfl rfl ?_
    refine j_getI (j := 19) C dX6_byteAt_13 FC6 (MAt.S h0) (by decide) rfl tw_822 ?_
    refine j_iload_n C dX6_byteAt_16 rfl rfl ?_
    refine j_iadd C dX6_byteAt_17 ?_
    refine j_iald C dX6_byteAt_18 (MAt.P_texts h0) ?_
    refine j_pc (pc2 := 19) rfl ?_
    refine j_goto (tgt := 23) C dX6_byteAt_19 (by decide) ?_
    exact j_iret C dX6_byteAt_23
set_option maxRecDepth 100000 in
set_option maxHeartbeats 4000000 in
theorem ct_X6_isLetter (γ : Gm) (E : Ev) (M : Mi) (L : Ml)  (x1 : Int32) (x2 : Int32) (h0 : MAt E) : Ct γ yX6_isLetter cX6_isLetter 3 (some .boolean) ⟨1, 0, 0, 21⟩ [.ref (E.2.1 0), .int x1, .int x2] E M L (Q_i γ E M L) 0 0 (F_X6_isLetter M L x1 x2) := by
  refine ct_of (own := RX6) (lv := [some (.ref (E.2.1 0)), some (.int x1), some (.int x2)]) (by decide +kernel) rfl rfl (Nat.le_of_ble_eq_true rfl) (fun κ C hγ hN => ?_)
  subst hγ
  have hn : ∀ i, i < 3 → i < knL κ := fun i h => by rw [hN]; exact h
  unfold F_X6_isLetter
  refine j_aload_n C dX6_isLetter_0 rfl rfl ?_
  refine j_getI (j := 23) C dX6_isLetter_1 FC6 (MAt.S h0) (by decide) rfl tw_826 ?_
  refine j_iload_n C dX6_isLetter_4 rfl rfl ?_
  refine j_iadd C dX6_isLetter_5 ?_
  refine j_aload_n C dX6_isLetter_6 rfl rfl ?_
  refine j_getI (j := 21) C dX6_isLetter_7 FC6 (MAt.S h0) (by decide) rfl tw_824 ?_
  refine j_icmp_ge (tgt := 35) C dX6_isLetter_10 (by decide) ?_ ?_
  · refine j_iload_n C dX6_isLetter_35 rfl rfl ?_
    refine j_if_ne (tgt := 43) C dX6_isLetter_36 (by decide) ?_ ?_
    · refine j_iconst (v := (0 : Int32)) C dX6_isLetter_43 rfl ?_
      exact j_zret C dX6_isLetter_44
    · refine j_iconst (v := (1 : Int32)) C dX6_isLetter_39 rfl ?_
      refine j_goto (tgt := 44) C dX6_isLetter_40 (by decide) ?_
      exact j_zret C dX6_isLetter_44
  · refine j_aload_n C dX6_isLetter_13 rfl rfl ?_
    refine j_aload_n C dX6_isLetter_14 rfl rfl ?_
    refine j_getI (j := 23) C dX6_isLetter_15 FC6 (MAt.S h0) (by decide) rfl tw_826 ?_
    refine j_iload_n C dX6_isLetter_18 rfl rfl ?_
    refine j_iadd C dX6_isLetter_19 ?_
    refine j_callV_i (st := []) C dX6_isLetter_20 (ct_X6_byteAt (kγ κ) E M L ((M 0 23) + x1) h0) mi_X6_byteAt tw_986 FC6 (MAt.S h0) rfl rfl (Nat.le_of_ble_eq_true rfl) ⟨⟨rfl, rfl⟩, ⟨Nat.le_of_ble_eq_true rfl, Nat.le_of_ble_eq_true rfl⟩, ⟨Nat.zero_le _, Nat.zero_le _⟩⟩ (fun v20 => ?_)
    refine j_iload_n C dX6_isLetter_23 rfl rfl ?_
    refine j_pc (pc2 := 24) rfl ?_
    refine j_icmp_ne (tgt := 31) C dX6_isLetter_24 (by decide) ?_ ?_
    · refine j_iconst (v := (0 : Int32)) C dX6_isLetter_31 rfl ?_
      refine j_goto (tgt := 44) C dX6_isLetter_32 (by decide) ?_
      exact j_zret C dX6_isLetter_44
    · refine j_iconst (v := (1 : Int32)) C dX6_isLetter_27 rfl ?_
      refine j_goto (tgt := 44) C dX6_isLetter_28 (by decide) ?_
      exact j_zret C dX6_isLetter_44
set_option maxRecDepth 100000 in
set_option maxHeartbeats 4000000 in
theorem ct_X6_isWord (γ : Gm) (E : Ev) (M : Mi) (L : Ml)  (x1 : Int32) (x2 : Int32) (x3 : Int32) (x4 : Int32) (x5 : Int32) (x6 : Int32) (x7 : Int32) (x8 : Int32) (h0 : MAt E) : Ct γ yX6_isWord cX6_isWord 9 (some .boolean) ⟨2, 0, 0, 43⟩ [.ref (E.2.1 0), .int x1, .int x2, .int x3, .int x4, .int x5, .int x6, .int x7, .int x8] E M L (Q_i γ E M L) 0 0 (F_X6_isWord M L x1 x2 x3 x4 x5 x6 x7 x8) := by
  refine ct_of (own := RX6) (lv := [some (.ref (E.2.1 0)), some (.int x1), some (.int x2), some (.int x3), some (.int x4), some (.int x5), some (.int x6), some (.int x7), some (.int x8)]) (by decide +kernel) rfl rfl (Nat.le_of_ble_eq_true rfl) (fun κ C hγ hN => ?_)
  subst hγ
  have hn : ∀ i, i < 9 → i < knL κ := fun i h => by rw [hN]; exact h
  unfold F_X6_isWord
  refine j_aload_n C dX6_isWord_0 rfl rfl ?_
  refine j_getI (j := 26) C dX6_isWord_1 FC6 (MAt.S h0) (by decide) rfl tw_829 ?_
  refine j_if_ne (tgt := 112) C dX6_isWord_4 (by decide) ?_ ?_
  · refine j_iconst (v := (0 : Int32)) C dX6_isWord_112 rfl ?_
    exact j_zret C dX6_isWord_113
  · refine j_aload_n C dX6_isWord_7 rfl rfl ?_
    refine j_getI (j := 22) C dX6_isWord_8 FC6 (MAt.S h0) (by decide) rfl tw_825 ?_
    refine j_iconst (v := (1 : Int32)) C dX6_isWord_11 rfl ?_
    refine j_icmp_ne (tgt := 112) C dX6_isWord_12 (by decide) ?_ ?_
    · refine j_iconst (v := (0 : Int32)) C dX6_isWord_112 rfl ?_
      exact j_zret C dX6_isWord_113
    · refine j_aload_n C dX6_isWord_15 rfl rfl ?_
      refine j_getI (j := 21) C dX6_isWord_16 FC6 (MAt.S h0) (by decide) rfl tw_824 ?_
      refine j_aload_n C dX6_isWord_19 rfl rfl ?_
      refine j_getI (j := 23) C dX6_isWord_20 FC6 (MAt.S h0) (by decide) rfl tw_826 ?_
      refine j_bipush (v := (8 : Int32)) C dX6_isWord_23 (by decide) ?_
      refine j_iadd C dX6_isWord_25 ?_
      refine j_icmp_gt (tgt := 112) C dX6_isWord_26 (by decide) ?_ ?_
      · refine j_iconst (v := (0 : Int32)) C dX6_isWord_112 rfl ?_
        exact j_zret C dX6_isWord_113
      · refine j_aload_n C dX6_isWord_29 rfl rfl ?_
        refine j_iconst (v := (0 : Int32)) C dX6_isWord_30 rfl ?_
        refine j_iload_n C dX6_isWord_31 rfl rfl ?_
        refine j_callV_i (st := []) C dX6_isWord_32 (ct_X6_isLetter (kγ κ) E M L (0 : Int32) x1 h0) mi_X6_isLetter tw_999 FC6 (MAt.S h0) rfl rfl (Nat.le_of_ble_eq_true rfl) ⟨⟨rfl, rfl⟩, ⟨Nat.le_of_ble_eq_true rfl, Nat.le_of_ble_eq_true rfl⟩, ⟨Nat.zero_le _, Nat.zero_le _⟩⟩ (fun v32 => ?_)
        refine j_if_eq (tgt := 112) C dX6_isWord_35 (by decide) ?_ ?_
        · refine j_iconst (v := (0 : Int32)) C dX6_isWord_112 rfl ?_
          exact j_zret C dX6_isWord_113
        · refine j_aload_n C dX6_isWord_38 rfl rfl ?_
          refine j_iconst (v := (1 : Int32)) C dX6_isWord_39 rfl ?_
          refine j_iload_n C dX6_isWord_40 rfl rfl ?_
          refine j_callV_i (st := []) C dX6_isWord_41 (ct_X6_isLetter (kγ κ) E M L (1 : Int32) x2 h0) mi_X6_isLetter tw_999 FC6 (MAt.S h0) rfl rfl (Nat.le_of_ble_eq_true rfl) ⟨⟨rfl, rfl⟩, ⟨Nat.le_of_ble_eq_true rfl, Nat.le_of_ble_eq_true rfl⟩, ⟨Nat.zero_le _, Nat.zero_le _⟩⟩ (fun v41 => ?_)
          refine j_if_eq (tgt := 112) C dX6_isWord_44 (by decide) ?_ ?_
          · refine j_iconst (v := (0 : Int32)) C dX6_isWord_112 rfl ?_
            exact j_zret C dX6_isWord_113
          · refine j_aload_n C dX6_isWord_47 rfl rfl ?_
            refine j_iconst (v := (2 : Int32)) C dX6_isWord_48 rfl ?_
            refine j_iload_n C dX6_isWord_49 rfl rfl ?_
            refine j_callV_i (st := []) C dX6_isWord_50 (ct_X6_isLetter (kγ κ) E M L (2 : Int32) x3 h0) mi_X6_isLetter tw_999 FC6 (MAt.S h0) rfl rfl (Nat.le_of_ble_eq_true rfl) ⟨⟨rfl, rfl⟩, ⟨Nat.le_of_ble_eq_true rfl, Nat.le_of_ble_eq_true rfl⟩, ⟨Nat.zero_le _, Nat.zero_le _⟩⟩ (fun v50 => ?_)
            refine j_if_eq (tgt := 112) C dX6_isWord_53 (by decide) ?_ ?_
            · refine j_iconst (v := (0 : Int32)) C dX6_isWord_112 rfl ?_
              exact j_zret C dX6_isWord_113
            · refine j_aload_n C dX6_isWord_56 rfl rfl ?_
              refine j_iconst (v := (3 : Int32)) C dX6_isWord_57 rfl ?_
              refine j_iload C dX6_isWord_58 rfl ?_
              refine j_callV_i (st := []) C dX6_isWord_60 (ct_X6_isLetter (kγ κ) E M L (3 : Int32) x4 h0) mi_X6_isLetter tw_999 FC6 (MAt.S h0) rfl rfl (Nat.le_of_ble_eq_true rfl) ⟨⟨rfl, rfl⟩, ⟨Nat.le_of_ble_eq_true rfl, Nat.le_of_ble_eq_true rfl⟩, ⟨Nat.zero_le _, Nat.zero_le _⟩⟩ (fun v60 => ?_)
              refine j_if_eq (tgt := 112) C dX6_isWord_63 (by decide) ?_ ?_
              · refine j_iconst (v := (0 : Int32)) C dX6_isWord_112 rfl ?_
                exact j_zret C dX6_isWord_113
              · refine j_aload_n C dX6_isWord_66 rfl rfl ?_
                refine j_iconst (v := (4 : Int32)) C dX6_isWord_67 rfl ?_
                refine j_iload C dX6_isWord_68 rfl ?_
                refine j_callV_i (st := []) C dX6_isWord_70 (ct_X6_isLetter (kγ κ) E M L (4 : Int32) x5 h0) mi_X6_isLetter tw_999 FC6 (MAt.S h0) rfl rfl (Nat.le_of_ble_eq_true rfl) ⟨⟨rfl, rfl⟩, ⟨Nat.le_of_ble_eq_true rfl, Nat.le_of_ble_eq_true rfl⟩, ⟨Nat.zero_le _, Nat.zero_le _⟩⟩ (fun v70 => ?_)
                refine j_if_eq (tgt := 112) C dX6_isWord_73 (by decide) ?_ ?_
                · refine j_iconst (v := (0 : Int32)) C dX6_isWord_112 rfl ?_
                  exact j_zret C dX6_isWord_113
                · refine j_aload_n C dX6_isWord_76 rfl rfl ?_
                  refine j_iconst (v := (5 : Int32)) C dX6_isWord_77 rfl ?_
                  refine j_iload C dX6_isWord_78 rfl ?_
                  refine j_callV_i (st := []) C dX6_isWord_80 (ct_X6_isLetter (kγ κ) E M L (5 : Int32) x6 h0) mi_X6_isLetter tw_999 FC6 (MAt.S h0) rfl rfl (Nat.le_of_ble_eq_true rfl) ⟨⟨rfl, rfl⟩, ⟨Nat.le_of_ble_eq_true rfl, Nat.le_of_ble_eq_true rfl⟩, ⟨Nat.zero_le _, Nat.zero_le _⟩⟩ (fun v80 => ?_)
                  refine j_if_eq (tgt := 112) C dX6_isWord_83 (by decide) ?_ ?_
                  · refine j_iconst (v := (0 : Int32)) C dX6_isWord_112 rfl ?_
                    exact j_zret C dX6_isWord_113
                  · refine j_aload_n C dX6_isWord_86 rfl rfl ?_
                    refine j_bipush (v := (6 : Int32)) C dX6_isWord_87 (by decide) ?_
                    refine j_iload C dX6_isWord_89 rfl ?_
                    refine j_callV_i (st := []) C dX6_isWord_91 (ct_X6_isLetter (kγ κ) E M L (6 : Int32) x7 h0) mi_X6_isLetter tw_999 FC6 (MAt.S h0) rfl rfl (Nat.le_of_ble_eq_true rfl) ⟨⟨rfl, rfl⟩, ⟨Nat.le_of_ble_eq_true rfl, Nat.le_of_ble_eq_true rfl⟩, ⟨Nat.zero_le _, Nat.zero_le _⟩⟩ (fun v91 => ?_)
                    refine j_if_eq (tgt := 112) C dX6_isWord_94 (by decide) ?_ ?_
                    · refine j_iconst (v := (0 : Int32)) C dX6_isWord_112 rfl ?_
                      exact j_zret C dX6_isWord_113
                    · refine j_aload_n C dX6_isWord_97 rfl rfl ?_
                      refine j_bipush (v := (7 : Int32)) C dX6_isWord_98 (by decide) ?_
                      refine j_iload C dX6_isWord_100 rfl ?_
                      refine j_callV_i (st := []) C dX6_isWord_102 (ct_X6_isLetter (kγ κ) E M L (7 : Int32) x8 h0) mi_X6_isLetter tw_999 FC6 (MAt.S h0) rfl rfl (Nat.le_of_ble_eq_true rfl) ⟨⟨rfl, rfl⟩, ⟨Nat.le_of_ble_eq_true rfl, Nat.le_of_ble_eq_true rfl⟩, ⟨Nat.zero_le _, Nat.zero_le _⟩⟩ (fun v102 => ?_)
                      refine j_if_eq (tgt := 112) C dX6_isWord_105 (by decide) ?_ ?_
                      · refine j_iconst (v := (0 : Int32)) C dX6_isWord_112 rfl ?_
                        exact j_zret C dX6_isWord_113
                      · refine j_iconst (v := (1 : Int32)) C dX6_isWord_108 rfl ?_
                        refine j_goto (tgt := 113) C dX6_isWord_109 (by decide) ?_
                        exact j_zret C dX6_isWord_113
set_option maxRecDepth 100000 in
set_option maxHeartbeats 4000000 in
theorem ct_X6_next (γ : Gm) (E : Ev) (M : Mi) (L : Ml)   (h0 : MAt E) : Ct γ yX6_next cX6_next 3 none ⟨1, 0, 0, 25⟩ [.ref (E.2.1 0)] E M L (Q_vw γ E) 0 0 (F_X6_next M L) := by
  refine ct_of (own := RX6) (lv := [some (.ref (E.2.1 0)), none, none]) (by decide +kernel) rfl rfl (Nat.le_of_ble_eq_true rfl) (fun κ C hγ hN => ?_)
  subst hγ
  have hn : ∀ i, i < 3 → i < knL κ := fun i h => by rw [hN]; exact h
  have k26 : ∀ (kf0 : Mi → Ml → Option (Mi × Ml)), (∀ (M : Mi) (L : Ml), JF κ (PQ κ (Q_vw (kγ κ) E) 0 0) 0 [some (.ref (E.2.1 0)), none, none] [] E M L 0 0 (kf0 M L)) → ∀ (M : Mi) (L : Ml), JF κ (PQ κ (Q_vw (kγ κ) E) 0 0) 26 [some (.ref (E.2.1 0)), none, none] [] E M L 0 0 (F_X6_next_k26 kf0 M L) := by
    intro kf0 hkf0 M L
    unfold F_X6_next_k26
    refine j_aload_n C dX6_next_26 rfl rfl ?_
    refine j_dup C dX6_next_27 rfl ?_
    refine j_getI (j := 21) C dX6_next_28 FC6 (MAt.S h0) (by decide) rfl tw_824 ?_
    refine j_iconst (v := (1 : Int32)) C dX6_next_31 rfl ?_
    refine j_iadd C dX6_next_32 ?_
    refine j_putI (j := 21) C dX6_next_33 FC6 (MAt.S h0) (by decide) rfl rfl rfl rfl tw_824 ?_
    refine j_goto (tgt := 0) C dX6_next_36 (by decide) ?_
    exact hkf0 ((up2 M 0 21 ((M 0 21) + (1 : Int32)))) L
  have k300 : ∀ (M : Mi) (L : Ml) (x1 : Int32), JF κ (PQ κ (Q_vw (kγ κ) E) 0 0) 300 [some (.ref (E.2.1 0)), some (.int x1), none] [] E M L 0 0 (F_X6_next_k300  M L x1) := by
    intro M L x1
    unfold F_X6_next_k300
    refine j_aload_n C dX6_next_300 rfl rfl ?_
    refine j_iconst (v := (3 : Int32)) C dX6_next_301 rfl ?_
    refine j_putI (j := 22) C dX6_next_302 FC6 (MAt.S h0) (by decide) rfl rfl rfl rfl tw_825 ?_
    refine j_aload_n C dX6_next_305 rfl rfl ?_
    refine j_iload_n C dX6_next_306 rfl rfl ?_
    refine j_i2l C dX6_next_307 ?_
    refine j_putL (j := 24) C dX6_next_308 FC6 (MAt.S h0) (by decide) rfl rfl rfl rfl tw_827 ?_
    refine j_pc (pc2 := 311) rfl ?_
    refine j_aload_n C dX6_next_311 rfl rfl ?_
    refine j_dup C dX6_next_312 rfl ?_
    refine j_getI (j := 21) C dX6_next_313 FC6 (MAt.S h0) (by decide) rfl tw_824 ?_
    refine j_iconst (v := (1 : Int32)) C dX6_next_316 rfl ?_
    refine j_iadd C dX6_next_317 ?_
    refine j_putI (j := 21) C dX6_next_318 FC6 (MAt.S h0) (by decide) rfl rfl rfl rfl tw_824 ?_
    exact j_vretw C dX6_next_321
  have k246 : ∀ (M : Mi) (L : Ml) (s1 : Int32), JF κ (PQ κ (Q_vw (kγ κ) E) 0 0) 246 [none, none, none] [.int s1, .ref (E.2.1 0)] E M L 0 0 (F_X6_next_k246  M L s1) := by
    intro M L s1
    unfold F_X6_next_k246
    refine j_putI (j := 22) C dX6_next_246 FC6 (MAt.S h0) (by decide) rfl rfl rfl rfl tw_825 ?_
    refine j_goto (tgt := 321) C dX6_next_249 (by decide) ?_
    exact j_vretw C dX6_next_321
  have k216 : ∀ (kf160 : Mi → Ml → Int32 → Option (Mi × Ml)), (∀ (M : Mi) (L : Ml) (x2 : Int32), JF κ (PQ κ (Q_vw (kγ κ) E) 0 0) 160 [some (.ref (E.2.1 0)), none, some (.int x2)] [] E M L 0 0 (kf160 M L x2)) → ∀ (M : Mi) (L : Ml) (x2 : Int32) (s1 : Int64), JF κ (PQ κ (Q_vw (kγ κ) E) 0 0) 216 [some (.ref (E.2.1 0)), none, some (.int x2)] [.long s1, .ref (E.2.1 0)] E M L 0 0 (F_X6_next_k216 kf160 M L x2 s1) := by
    intro kf160 hkf160 M L x2 s1
    unfold F_X6_next_k216
    refine j_putL (j := 24) C dX6_next_216 FC6 (MAt.S h0) (by decide) rfl rfl rfl rfl tw_827 ?_
    refine j_iinc (i := 2) (v := (x2 + (1 : Int32))) (lv' := [some (.ref (E.2.1 0)), none, some (.int (x2 + (1 : Int32)))]) C dX6_next_219 rfl rfl (hn 2 (by decide)) rfl ?_
    refine j_aload_n C dX6_next_222 rfl rfl ?_
    refine j_dup C dX6_next_223 rfl ?_
    refine j_getI (j := 21) C dX6_next_224 FC6 (MAt.S h0) (by decide) rfl tw_824 ?_
    refine j_iconst (v := (1 : Int32)) C dX6_next_227 rfl ?_
    refine j_iadd C dX6_next_228 ?_
    refine j_pc (pc2 := 229) rfl ?_
    refine j_putI (j := 21) C dX6_next_229 FC6 (MAt.S h0) (by decide) rfl rfl rfl rfl tw_824 ?_
    refine j_goto (tgt := 160) C dX6_next_232 (by decide) ?_
    exact hkf160 ((up2 M 0 21 ((M 0 21) + (1 : Int32)))) ((up2 L 0 24 s1)) ((x2 + (1 : Int32)))
  have k160 : ∀ (n : Nat) (M : Mi) (L : Ml) (x2 : Int32), JF κ (PQ κ (Q_vw (kγ κ) E) 0 0) 160 [some (.ref (E.2.1 0)), none, some (.int x2)] [] E M L 0 0 (F_X6_next_k160  n M L x2) := by
    intro n
    induction n with
    | zero => intros; exact jf_none
    | succ n ih =>
      intro M L x2
      unfold F_X6_next_k160
      refine j_aload_n C dX6_next_160 rfl rfl ?_
      refine j_aload_n C dX6_next_161 rfl rfl ?_
      refine j_getI (j := 21) C dX6_next_162 FC6 (MAt.S h0) (by decide) rfl tw_824 ?_
      refine j_callV_i (st := []) C dX6_next_165 (ct_X6_byteAt (kγ κ) E M L (M 0 21) h0) mi_X6_byteAt tw_986 FC6 (MAt.S h0) rfl rfl (Nat.le_of_ble_eq_true rfl) ⟨⟨rfl, rfl⟩, ⟨Nat.le_of_ble_eq_true rfl, Nat.le_of_ble_eq_true rfl⟩, ⟨Nat.zero_le _, Nat.zero_le _⟩⟩ (fun v165 => ?_)
      refine j_i2l C dX6_next_168 ?_
      refine j_ldc2 (v := (48 : Int64)) C dX6_next_169 tw_992 ?_
      refine j_ldc2 (v := (57 : Int64)) C dX6_next_172 tw_993 ?_
      refine j_pc (pc2 := 175) rfl ?_
      refine j_callS_i (st := []) C dX6_next_175 (ct_X6_in (kγ κ) E M L (Int32.toInt64 v165) (48 : Int64) (57 : Int64)) mi_X6_in tw_933 rfl rfl (Nat.le_of_ble_eq_true rfl) ⟨⟨rfl, rfl⟩, ⟨Nat.le_of_ble_eq_true rfl, Nat.le_of_ble_eq_true rfl⟩, ⟨Nat.zero_le _, Nat.zero_le _⟩⟩ (fun v175 => ?_)
      refine j_if_eq (tgt := 235) C dX6_next_178 (by decide) ?_ ?_
      · refine j_aload_n C dX6_next_235 rfl rfl ?_
        refine j_iload_n C dX6_next_236 rfl rfl ?_
        refine j_iconst (v := (4 : Int32)) C dX6_next_237 rfl ?_
        refine j_icmp_le (tgt := 245) C dX6_next_238 (by decide) ?_ ?_
        · refine j_iconst (v := (2 : Int32)) C dX6_next_245 rfl ?_
          refine j_mask [false, false, false] (lv' := [none, none, none]) rfl ?_
          exact k246 M L ((2 : Int32))
        · refine j_iconst (v := (4 : Int32)) C dX6_next_241 rfl ?_
          refine j_goto (tgt := 246) C dX6_next_242 (by decide) ?_
          refine j_mask [false, false, false] (lv' := [none, none, none]) rfl ?_
          exact k246 M L ((4 : Int32))
      · refine j_aload_n C dX6_next_181 rfl rfl ?_
        refine j_iload_n C dX6_next_182 rfl rfl ?_
        refine j_iconst (v := (4 : Int32)) C dX6_next_183 rfl ?_
        refine j_icmp_ge (tgt := 212) C dX6_next_184 (by decide) ?_ ?_
        · refine j_aload_n C dX6_next_212 rfl rfl ?_
          refine j_getL (j := 24) C dX6_next_213 FC6 (MAt.S h0) (by decide) rfl tw_827 ?_
          exact k216 (F_X6_next_k160  n) ih M L x2 ((L 0 24))
        · refine j_ldc2 (v := (10 : Int64)) C dX6_next_187 tw_994 ?_
          refine j_aload_n C dX6_next_190 rfl rfl ?_
          refine j_getL (j := 24) C dX6_next_191 FC6 (MAt.S h0) (by decide) rfl tw_827 ?_
          refine j_lmul C dX6_next_194 ?_
          refine j_aload_n C dX6_next_195 rfl rfl ?_
          refine j_aload_n C dX6_next_196 rfl rfl ?_
          refine j_getI (j := 21) C dX6_next_197 FC6 (MAt.S h0) (by decide) rfl tw_824 ?_
          refine j_pc (pc2 := 200) rfl ?_
          refine j_callV_i (st := [.long ((10 : Int64) * (L 0 24)), .ref (E.2.1 0)]) C dX6_next_200 (ct_X6_byteAt (kγ κ) E M L (M 0 21) h0) mi_X6_byteAt tw_986 FC6 (MAt.S h0) rfl rfl (Nat.le_of_ble_eq_true rfl) ⟨⟨rfl, rfl⟩, ⟨Nat.le_of_ble_eq_true rfl, Nat.le_of_ble_eq_true rfl⟩, ⟨Nat.zero_le _, Nat.zero_le _⟩⟩ (fun v200 => ?_)
          refine j_i2l C dX6_next_203 ?_
          refine j_ladd C dX6_next_204 ?_
          refine j_ldc2 (v := (48 : Int64)) C dX6_next_205 tw_992 ?_
          refine j_lsub C dX6_next_208 ?_
          refine j_goto (tgt := 216) C dX6_next_209 (by decide) ?_
          exact k216 (F_X6_next_k160  n) ih M L x2 (((((10 : Int64) * (L 0 24)) + (Int32.toInt64 v200)) - (48 : Int64)))
  have k100 : ∀ (n : Nat) (M : Mi) (L : Ml), JF κ (PQ κ (Q_vw (kγ κ) E) 0 0) 100 [some (.ref (E.2.1 0)), none, none] [] E M L 0 0 (F_X6_next_k100  n M L) := by
    intro n
    induction n with
    | zero => intros; exact jf_none
    | succ n ih =>
      intro M L
      unfold F_X6_next_k100
      refine j_aload_n C dX6_next_100 rfl rfl ?_
      refine j_aload_n C dX6_next_101 rfl rfl ?_
      refine j_getI (j := 21) C dX6_next_102 FC6 (MAt.S h0) (by decide) rfl tw_824 ?_
      refine j_callV_i (st := []) C dX6_next_105 (ct_X6_byteAt (kγ κ) E M L (M 0 21) h0) mi_X6_byteAt tw_986 FC6 (MAt.S h0) rfl rfl (Nat.le_of_ble_eq_true rfl) ⟨⟨rfl, rfl⟩, ⟨Nat.le_of_ble_eq_true rfl, Nat.le_of_ble_eq_true rfl⟩, ⟨Nat.zero_le _, Nat.zero_le _⟩⟩ (fun v105 => ?_)
      refine j_i2l C dX6_next_108 ?_
      refine j_ldc2 (v := (97 : Int64)) C dX6_next_109 tw_990 ?_
      refine j_ldc2 (v := (122 : Int64)) C dX6_next_112 tw_991 ?_
      refine j_pc (pc2 := 115) rfl ?_
      refine j_callS_i (st := []) C dX6_next_115 (ct_X6_in (kγ κ) E M L (Int32.toInt64 v105) (97 : Int64) (122 : Int64)) mi_X6_in tw_933 rfl rfl (Nat.le_of_ble_eq_true rfl) ⟨⟨rfl, rfl⟩, ⟨Nat.le_of_ble_eq_true rfl, Nat.le_of_ble_eq_true rfl⟩, ⟨Nat.zero_le _, Nat.zero_le _⟩⟩ (fun v115 => ?_)
      refine j_if_eq (tgt := 321) C dX6_next_118 (by decide) ?_ ?_
      · exact j_vretw C dX6_next_321
      · refine j_aload_n C dX6_next_121 rfl rfl ?_
        refine j_dup C dX6_next_122 rfl ?_
        refine j_getI (j := 21) C dX6_next_123 FC6 (MAt.S h0) (by decide) rfl tw_824 ?_
        refine j_iconst (v := (1 : Int32)) C dX6_next_126 rfl ?_
        refine j_iadd C dX6_next_127 ?_
        refine j_putI (j := 21) C dX6_next_128 FC6 (MAt.S h0) (by decide) rfl rfl rfl rfl tw_824 ?_
        refine j_goto (tgt := 100) C dX6_next_131 (by decide) ?_
        exact ih ((up2 M 0 21 ((M 0 21) + (1 : Int32)))) L
  have k0 : ∀ (n : Nat) (M : Mi) (L : Ml), JF κ (PQ κ (Q_vw (kγ κ) E) 0 0) 0 [some (.ref (E.2.1 0)), none, none] [] E M L 0 0 (F_X6_next_k0  n M L) := by
    intro n
    induction n with
    | zero => intros; exact jf_none
    | succ n ih =>
      intro M L
      unfold F_X6_next_k0
      refine j_aload_n C dX6_next_0 rfl rfl ?_
      refine j_aload_n C dX6_next_1 rfl rfl ?_
      refine j_getI (j := 21) C dX6_next_2 FC6 (MAt.S h0) (by decide) rfl tw_824 ?_
      refine j_callV_i (st := []) C dX6_next_5 (ct_X6_byteAt (kγ κ) E M L (M 0 21) h0) mi_X6_byteAt tw_986 FC6 (MAt.S h0) rfl rfl (Nat.le_of_ble_eq_true rfl) ⟨⟨rfl, rfl⟩, ⟨Nat.le_of_ble_eq_true rfl, Nat.le_of_ble_eq_true rfl⟩, ⟨Nat.zero_le _, Nat.zero_le _⟩⟩ (fun v5 => ?_)
      refine j_bipush (v := (32 : Int32)) C dX6_next_8 (by decide) ?_
      refine j_icmp_eq (tgt := 26) C dX6_next_10 (by decide) ?_ ?_
      · exact k26 (F_X6_next_k0  n) ih M L
      · refine j_aload_n C dX6_next_13 rfl rfl ?_
        refine j_aload_n C dX6_next_14 rfl rfl ?_
        refine j_getI (j := 21) C dX6_next_15 FC6 (MAt.S h0) (by decide) rfl tw_824 ?_
        refine j_callV_i (st := []) C dX6_next_18 (ct_X6_byteAt (kγ κ) E M L (M 0 21) h0) mi_X6_byteAt tw_986 FC6 (MAt.S h0) rfl rfl (Nat.le_of_ble_eq_true rfl) ⟨⟨rfl, rfl⟩, ⟨Nat.le_of_ble_eq_true rfl, Nat.le_of_ble_eq_true rfl⟩, ⟨Nat.zero_le _, Nat.zero_le _⟩⟩ (fun v18 => ?_)
        refine j_bipush (v := (10 : Int32)) C dX6_next_21 (by decide) ?_
        refine j_icmp_ne (tgt := 39) C dX6_next_23 (by decide) ?_ ?_
        · refine j_aload_n C dX6_next_39 rfl rfl ?_
          refine j_aload_n C dX6_next_40 rfl rfl ?_
          refine j_getI (j := 21) C dX6_next_41 FC6 (MAt.S h0) (by decide) rfl tw_824 ?_
          refine j_putI (j := 23) C dX6_next_44 FC6 (MAt.S h0) (by decide) rfl rfl rfl rfl tw_826 ?_
          refine j_aload_n C dX6_next_47 rfl rfl ?_
          refine j_aload_n C dX6_next_48 rfl rfl ?_
          refine j_getI (j := 21) C dX6_next_49 FC6 (MAt.S h0) (by decide) rfl tw_824 ?_
          refine j_pc (pc2 := 52) rfl ?_
          refine j_callV_i (st := []) C dX6_next_52 (ct_X6_byteAt (kγ κ) E (up2 M 0 23 (M 0 21)) L ((up2 M 0 23 (M 0 21)) 0 21) h0) mi_X6_byteAt tw_986 FC6 (MAt.S h0) rfl rfl (Nat.le_of_ble_eq_true rfl) ⟨⟨rfl, rfl⟩, ⟨Nat.le_of_ble_eq_true rfl, Nat.le_of_ble_eq_true rfl⟩, ⟨Nat.zero_le _, Nat.zero_le _⟩⟩ (fun v52 => ?_)
          refine j_istore_n (i := 1) (lv' := [some (.ref (E.2.1 0)), some (.int v52), none]) C dX6_next_55 rfl (hn 1 (by decide)) rfl ?_
          refine j_aload_n C dX6_next_56 rfl rfl ?_
          refine j_iconst (v := (4 : Int32)) C dX6_next_57 rfl ?_
          refine j_putI (j := 22) C dX6_next_58 FC6 (MAt.S h0) (by decide) rfl rfl rfl rfl tw_825 ?_
          refine j_iload_n C dX6_next_61 rfl rfl ?_
          refine j_if_ge (tgt := 81) C dX6_next_62 (by decide) ?_ ?_
          · refine j_iload_n C dX6_next_81 rfl rfl ?_
            refine j_i2l C dX6_next_82 ?_
            refine j_ldc2 (v := (97 : Int64)) C dX6_next_83 tw_990 ?_
            refine j_ldc2 (v := (122 : Int64)) C dX6_next_86 tw_991 ?_
            refine j_callS_i (st := []) C dX6_next_89 (ct_X6_in (kγ κ) E (up2 (up2 M 0 23 (M 0 21)) 0 22 (4 : Int32)) L (Int32.toInt64 v52) (97 : Int64) (122 : Int64)) mi_X6_in tw_933 rfl rfl (Nat.le_of_ble_eq_true rfl) ⟨⟨rfl, rfl⟩, ⟨Nat.le_of_ble_eq_true rfl, Nat.le_of_ble_eq_true rfl⟩, ⟨Nat.zero_le _, Nat.zero_le _⟩⟩ (fun v89 => ?_)
            refine j_if_eq (tgt := 134) C dX6_next_92 (by decide) ?_ ?_
            · refine j_iload_n C dX6_next_134 rfl rfl ?_
              refine j_i2l C dX6_next_135 ?_
              refine j_ldc2 (v := (48 : Int64)) C dX6_next_136 tw_992 ?_
              refine j_ldc2 (v := (57 : Int64)) C dX6_next_139 tw_993 ?_
              refine j_callS_i (st := []) C dX6_next_142 (ct_X6_in (kγ κ) E (up2 (up2 M 0 23 (M 0 21)) 0 22 (4 : Int32)) L (Int32.toInt64 v52) (48 : Int64) (57 : Int64)) mi_X6_in tw_933 rfl rfl (Nat.le_of_ble_eq_true rfl) ⟨⟨rfl, rfl⟩, ⟨Nat.le_of_ble_eq_true rfl, Nat.le_of_ble_eq_true rfl⟩, ⟨Nat.zero_le _, Nat.zero_le _⟩⟩ (fun v142 => ?_)
              refine j_if_eq (tgt := 252) C dX6_next_145 (by decide) ?_ ?_
              · refine j_iload_n C dX6_next_252 rfl rfl ?_
                refine j_bipush (v := (40 : Int32)) C dX6_next_253 (by decide) ?_
                refine j_icmp_eq (tgt := 300) C dX6_next_255 (by decide) ?_ ?_
                · exact k300 ((up2 (up2 M 0 23 (M 0 21)) 0 22 (4 : Int32))) L v52
                · refine j_iload_n C dX6_next_258 rfl rfl ?_
                  refine j_bipush (v := (41 : Int32)) C dX6_next_259 (by decide) ?_
                  refine j_icmp_eq (tgt := 300) C dX6_next_261 (by decide) ?_ ?_
                  · exact k300 ((up2 (up2 M 0 23 (M 0 21)) 0 22 (4 : Int32))) L v52
                  · refine j_iload_n C dX6_next_264 rfl rfl ?_
                    refine j_bipush (v := (59 : Int32)) C dX6_next_265 (by decide) ?_
                    refine j_icmp_eq (tgt := 300) C dX6_next_267 (by decide) ?_ ?_
                    · exact k300 ((up2 (up2 M 0 23 (M 0 21)) 0 22 (4 : Int32))) L v52
                    · refine j_iload_n C dX6_next_270 rfl rfl ?_
                      refine j_bipush (v := (43 : Int32)) C dX6_next_271 (by decide) ?_
                      refine j_icmp_eq (tgt := 300) C dX6_next_273 (by decide) ?_ ?_
                      · exact k300 ((up2 (up2 M 0 23 (M 0 21)) 0 22 (4 : Int32))) L v52
                      · refine j_iload_n C dX6_next_276 rfl rfl ?_
                        refine j_bipush (v := (45 : Int32)) C dX6_next_277 (by decide) ?_
                        refine j_icmp_eq (tgt := 300) C dX6_next_279 (by decide) ?_ ?_
                        · exact k300 ((up2 (up2 M 0 23 (M 0 21)) 0 22 (4 : Int32))) L v52
                        · refine j_iload_n C dX6_next_282 rfl rfl ?_
                          refine j_bipush (v := (42 : Int32)) C dX6_next_283 (by decide) ?_
                          refine j_icmp_eq (tgt := 300) C dX6_next_285 (by decide) ?_ ?_
                          · exact k300 ((up2 (up2 M 0 23 (M 0 21)) 0 22 (4 : Int32))) L v52
                          · refine j_iload_n C dX6_next_288 rfl rfl ?_
                            refine j_bipush (v := (60 : Int32)) C dX6_next_289 (by decide) ?_
                            refine j_icmp_eq (tgt := 300) C dX6_next_291 (by decide) ?_ ?_
                            · exact k300 ((up2 (up2 M 0 23 (M 0 21)) 0 22 (4 : Int32))) L v52
                            · refine j_iload_n C dX6_next_294 rfl rfl ?_
                              refine j_bipush (v := (61 : Int32)) C dX6_next_295 (by decide) ?_
                              refine j_icmp_ne (tgt := 321) C dX6_next_297 (by decide) ?_ ?_
                              · exact j_vretw C dX6_next_321
                              · exact k300 ((up2 (up2 M 0 23 (M 0 21)) 0 22 (4 : Int32))) L v52
              · refine j_aload_n C dX6_next_148 rfl rfl ?_
                refine j_iconst (v := (2 : Int32)) C dX6_next_149 rfl ?_
                refine j_putI (j := 22) C dX6_next_150 FC6 (MAt.S h0) (by decide) rfl rfl rfl rfl tw_825 ?_
                refine j_aload_n C dX6_next_153 rfl rfl ?_
                refine j_lconst (v := (0 : Int64)) C dX6_next_154 rfl ?_
                refine j_putL (j := 24) C dX6_next_155 FC6 (MAt.S h0) (by decide) rfl rfl rfl rfl tw_827 ?_
                refine j_iconst (v := (0 : Int32)) C dX6_next_158 rfl ?_
                refine j_pc (pc2 := 159) rfl ?_
                refine j_istore_n (i := 2) (lv' := [some (.ref (E.2.1 0)), some (.int v52), some (.int (0 : Int32))]) C dX6_next_159 rfl (hn 2 (by decide)) rfl ?_
                refine j_mask [true, false, true] (lv' := [some (.ref (E.2.1 0)), none, some (.int (0 : Int32))]) rfl ?_
                exact k160 FU ((up2 (up2 (up2 M 0 23 (M 0 21)) 0 22 (4 : Int32)) 0 22 (2 : Int32))) ((up2 L 0 24 (0 : Int64))) ((0 : Int32))
            · refine j_aload_n C dX6_next_95 rfl rfl ?_
              refine j_iconst (v := (1 : Int32)) C dX6_next_96 rfl ?_
              refine j_putI (j := 22) C dX6_next_97 FC6 (MAt.S h0) (by decide) rfl rfl rfl rfl tw_825 ?_
              refine j_mask [true, false, false] (lv' := [some (.ref (E.2.1 0)), none, none]) rfl ?_
              exact k100 FU ((up2 (up2 (up2 M 0 23 (M 0 21)) 0 22 (4 : Int32)) 0 22 (1 : Int32))) L
          · refine j_aload_n C dX6_next_65 rfl rfl ?_
            refine j_iconst (v := (0 : Int32)) C dX6_next_66 rfl ?_
            refine j_putI (j := 22) C dX6_next_67 FC6 (MAt.S h0) (by decide) rfl rfl rfl rfl tw_825 ?_
            refine j_aload_n C dX6_next_70 rfl rfl ?_
            refine j_aload_n C dX6_next_71 rfl rfl ?_
            refine j_getI (j := 20) C dX6_next_72 FC6 (MAt.S h0) (by decide) rfl tw_823 ?_
            refine j_putI (j := 23) C dX6_next_75 FC6 (MAt.S h0) (by decide) rfl rfl rfl rfl tw_826 ?_
            refine j_pc (pc2 := 78) rfl ?_
            refine j_goto (tgt := 321) C dX6_next_78 (by decide) ?_
            exact j_vretw C dX6_next_321
        · exact k26 (F_X6_next_k0  n) ih M L
  unfold F_X6_next
  exact k0 FU M L
set_option maxRecDepth 100000 in
set_option maxHeartbeats 4000000 in
theorem ct_X6_isSign (γ : Gm) (E : Ev) (M : Mi) (L : Ml)  (x1 : Int32) (h0 : MAt E) : Ct γ yX6_isSign cX6_isSign 2 (some .boolean) ⟨0, 0, 0, 0⟩ [.ref (E.2.1 0), .int x1] E M L (Q_i γ E M L) 0 0 (F_X6_isSign M L x1) := by
  refine ct_of (own := RX6) (lv := [some (.ref (E.2.1 0)), some (.int x1)]) (by decide +kernel) rfl rfl (Nat.le_of_ble_eq_true rfl) (fun κ C hγ hN => ?_)
  subst hγ
  have hn : ∀ i, i < 2 → i < knL κ := fun i h => by rw [hN]; exact h
  unfold F_X6_isSign
  refine j_aload_n C dX6_isSign_0 rfl rfl ?_
  refine j_getI (j := 26) C dX6_isSign_1 FC6 (MAt.S h0) (by decide) rfl tw_829 ?_
  refine j_if_ne (tgt := 29) C dX6_isSign_4 (by decide) ?_ ?_
  · refine j_iconst (v := (0 : Int32)) C dX6_isSign_29 rfl ?_
    exact j_zret C dX6_isSign_30
  · refine j_aload_n C dX6_isSign_7 rfl rfl ?_
    refine j_getI (j := 22) C dX6_isSign_8 FC6 (MAt.S h0) (by decide) rfl tw_825 ?_
    refine j_iconst (v := (3 : Int32)) C dX6_isSign_11 rfl ?_
    refine j_icmp_ne (tgt := 29) C dX6_isSign_12 (by decide) ?_ ?_
    · refine j_iconst (v := (0 : Int32)) C dX6_isSign_29 rfl ?_
      exact j_zret C dX6_isSign_30
    · refine j_aload_n C dX6_isSign_15 rfl rfl ?_
      refine j_getL (j := 24) C dX6_isSign_16 FC6 (MAt.S h0) (by decide) rfl tw_827 ?_
      refine j_iload_n C dX6_isSign_19 rfl rfl ?_
      refine j_i2l C dX6_isSign_20 ?_
      refine j_lcmp C dX6_isSign_21 ?_
      refine j_if_ne (tgt := 29) C dX6_isSign_22 (by decide) ?_ ?_
      · refine j_iconst (v := (0 : Int32)) C dX6_isSign_29 rfl ?_
        exact j_zret C dX6_isSign_30
      · refine j_iconst (v := (1 : Int32)) C dX6_isSign_25 rfl ?_
        refine j_goto (tgt := 30) C dX6_isSign_26 (by decide) ?_
        exact j_zret C dX6_isSign_30
set_option maxRecDepth 100000 in
set_option maxHeartbeats 4000000 in
theorem ct_X6_name (γ : Gm) (E : Ev) (M : Mi) (L : Ml)   (h0 : MAt E) : Ct γ yX6_name cX6_name 1 (some .int) ⟨3, 0, 0, 71⟩ [.ref (E.2.1 0)] E M L (Q_iw γ E) 0 0 (F_X6_name M L) := by
  refine ct_of (own := RX6) (lv := [some (.ref (E.2.1 0))]) (by decide +kernel) rfl rfl (Nat.le_of_ble_eq_true rfl) (fun κ C hγ hN => ?_)
  subst hγ
  have hn : ∀ i, i < 1 → i < knL κ := fun i h => by rw [hN]; exact h
  unfold F_X6_name
  refine j_aload_n C dX6_name_0 rfl rfl ?_
  refine j_bipush (v := (119 : Int32)) C dX6_name_1 (by decide) ?_
  refine j_bipush (v := (101 : Int32)) C dX6_name_3 (by decide) ?_
  refine j_bipush (v := (97 : Int32)) C dX6_name_5 (by decide) ?_
  refine j_bipush (v := (114 : Int32)) C dX6_name_7 (by decide) ?_
  refine j_bipush (v := (121 : Int32)) C dX6_name_9 (by decide) ?_
  refine j_iconst (v := (0 : Int32)) C dX6_name_11 rfl ?_
  refine j_pc (pc2 := 12) rfl ?_
  refine j_iconst (v := (0 : Int32)) C dX6_name_12 rfl ?_
  refine j_iconst (v := (0 : Int32)) C dX6_name_13 rfl ?_
  refine j_callV_i (st := []) C dX6_name_14 (ct_X6_isWord (kγ κ) E M L (119 : Int32) (101 : Int32) (97 : Int32) (114 : Int32) (121 : Int32) (0 : Int32) (0 : Int32) (0 : Int32) h0) mi_X6_isWord tw_995 FC6 (MAt.S h0) rfl rfl (Nat.le_of_ble_eq_true rfl) ⟨⟨rfl, rfl⟩, ⟨Nat.le_of_ble_eq_true rfl, Nat.le_of_ble_eq_true rfl⟩, ⟨Nat.zero_le _, Nat.zero_le _⟩⟩ (fun v14 => ?_)
  refine j_if_eq (tgt := 25) C dX6_name_17 (by decide) ?_ ?_
  · refine j_aload_n C dX6_name_25 rfl rfl ?_
    refine j_bipush (v := (99 : Int32)) C dX6_name_26 (by decide) ?_
    refine j_bipush (v := (111 : Int32)) C dX6_name_28 (by decide) ?_
    refine j_bipush (v := (108 : Int32)) C dX6_name_30 (by decide) ?_
    refine j_bipush (v := (117 : Int32)) C dX6_name_32 (by decide) ?_
    refine j_bipush (v := (109 : Int32)) C dX6_name_34 (by decide) ?_
    refine j_bipush (v := (110 : Int32)) C dX6_name_36 (by decide) ?_
    refine j_pc (pc2 := 38) rfl ?_
    refine j_iconst (v := (0 : Int32)) C dX6_name_38 rfl ?_
    refine j_iconst (v := (0 : Int32)) C dX6_name_39 rfl ?_
    refine j_callV_i (st := []) C dX6_name_40 (ct_X6_isWord (kγ κ) E M L (99 : Int32) (111 : Int32) (108 : Int32) (117 : Int32) (109 : Int32) (110 : Int32) (0 : Int32) (0 : Int32) h0) mi_X6_isWord tw_995 FC6 (MAt.S h0) rfl rfl (Nat.le_of_ble_eq_true rfl) ⟨⟨rfl, rfl⟩, ⟨Nat.le_of_ble_eq_true rfl, Nat.le_of_ble_eq_true rfl⟩, ⟨Nat.zero_le _, Nat.zero_le _⟩⟩ (fun v40 => ?_)
    refine j_if_eq (tgt := 51) C dX6_name_43 (by decide) ?_ ?_
    · refine j_aload_n C dX6_name_51 rfl rfl ?_
      refine j_bipush (v := (114 : Int32)) C dX6_name_52 (by decide) ?_
      refine j_bipush (v := (111 : Int32)) C dX6_name_54 (by decide) ?_
      refine j_bipush (v := (119 : Int32)) C dX6_name_56 (by decide) ?_
      refine j_iconst (v := (0 : Int32)) C dX6_name_58 rfl ?_
      refine j_iconst (v := (0 : Int32)) C dX6_name_59 rfl ?_
      refine j_iconst (v := (0 : Int32)) C dX6_name_60 rfl ?_
      refine j_pc (pc2 := 61) rfl ?_
      refine j_iconst (v := (0 : Int32)) C dX6_name_61 rfl ?_
      refine j_iconst (v := (0 : Int32)) C dX6_name_62 rfl ?_
      refine j_callV_i (st := []) C dX6_name_63 (ct_X6_isWord (kγ κ) E M L (114 : Int32) (111 : Int32) (119 : Int32) (0 : Int32) (0 : Int32) (0 : Int32) (0 : Int32) (0 : Int32) h0) mi_X6_isWord tw_995 FC6 (MAt.S h0) rfl rfl (Nat.le_of_ble_eq_true rfl) ⟨⟨rfl, rfl⟩, ⟨Nat.le_of_ble_eq_true rfl, Nat.le_of_ble_eq_true rfl⟩, ⟨Nat.zero_le _, Nat.zero_le _⟩⟩ (fun v63 => ?_)
      refine j_if_eq (tgt := 74) C dX6_name_66 (by decide) ?_ ?_
      · refine j_aload_n C dX6_name_74 rfl rfl ?_
        refine j_bipush (v := (110 : Int32)) C dX6_name_75 (by decide) ?_
        refine j_bipush (v := (117 : Int32)) C dX6_name_77 (by decide) ?_
        refine j_bipush (v := (109 : Int32)) C dX6_name_79 (by decide) ?_
        refine j_bipush (v := (98 : Int32)) C dX6_name_81 (by decide) ?_
        refine j_bipush (v := (101 : Int32)) C dX6_name_83 (by decide) ?_
        refine j_bipush (v := (114 : Int32)) C dX6_name_85 (by decide) ?_
        refine j_pc (pc2 := 87) rfl ?_
        refine j_iconst (v := (0 : Int32)) C dX6_name_87 rfl ?_
        refine j_iconst (v := (0 : Int32)) C dX6_name_88 rfl ?_
        refine j_callV_i (st := []) C dX6_name_89 (ct_X6_isWord (kγ κ) E M L (110 : Int32) (117 : Int32) (109 : Int32) (98 : Int32) (101 : Int32) (114 : Int32) (0 : Int32) (0 : Int32) h0) mi_X6_isWord tw_995 FC6 (MAt.S h0) rfl rfl (Nat.le_of_ble_eq_true rfl) ⟨⟨rfl, rfl⟩, ⟨Nat.le_of_ble_eq_true rfl, Nat.le_of_ble_eq_true rfl⟩, ⟨Nat.zero_le _, Nat.zero_le _⟩⟩ (fun v89 => ?_)
        refine j_if_eq (tgt := 100) C dX6_name_92 (by decide) ?_ ?_
        · refine j_aload_n C dX6_name_100 rfl rfl ?_
          refine j_bipush (v := (109 : Int32)) C dX6_name_101 (by decide) ?_
          refine j_bipush (v := (105 : Int32)) C dX6_name_103 (by decide) ?_
          refine j_bipush (v := (110 : Int32)) C dX6_name_105 (by decide) ?_
          refine j_bipush (v := (117 : Int32)) C dX6_name_107 (by decide) ?_
          refine j_bipush (v := (116 : Int32)) C dX6_name_109 (by decide) ?_
          refine j_bipush (v := (101 : Int32)) C dX6_name_111 (by decide) ?_
          refine j_pc (pc2 := 113) rfl ?_
          refine j_iconst (v := (0 : Int32)) C dX6_name_113 rfl ?_
          refine j_iconst (v := (0 : Int32)) C dX6_name_114 rfl ?_
          refine j_callV_i (st := []) C dX6_name_115 (ct_X6_isWord (kγ κ) E M L (109 : Int32) (105 : Int32) (110 : Int32) (117 : Int32) (116 : Int32) (101 : Int32) (0 : Int32) (0 : Int32) h0) mi_X6_isWord tw_995 FC6 (MAt.S h0) rfl rfl (Nat.le_of_ble_eq_true rfl) ⟨⟨rfl, rfl⟩, ⟨Nat.le_of_ble_eq_true rfl, Nat.le_of_ble_eq_true rfl⟩, ⟨Nat.zero_le _, Nat.zero_le _⟩⟩ (fun v115 => ?_)
          refine j_if_eq (tgt := 126) C dX6_name_118 (by decide) ?_ ?_
          · refine j_aload_n C dX6_name_126 rfl rfl ?_
            refine j_bipush (v := (119 : Int32)) C dX6_name_127 (by decide) ?_
            refine j_bipush (v := (111 : Int32)) C dX6_name_129 (by decide) ?_
            refine j_bipush (v := (114 : Int32)) C dX6_name_131 (by decide) ?_
            refine j_bipush (v := (110 : Int32)) C dX6_name_133 (by decide) ?_
            refine j_iconst (v := (0 : Int32)) C dX6_name_135 rfl ?_
            refine j_iconst (v := (0 : Int32)) C dX6_name_136 rfl ?_
            refine j_pc (pc2 := 137) rfl ?_
            refine j_iconst (v := (0 : Int32)) C dX6_name_137 rfl ?_
            refine j_iconst (v := (0 : Int32)) C dX6_name_138 rfl ?_
            refine j_callV_i (st := []) C dX6_name_139 (ct_X6_isWord (kγ κ) E M L (119 : Int32) (111 : Int32) (114 : Int32) (110 : Int32) (0 : Int32) (0 : Int32) (0 : Int32) (0 : Int32) h0) mi_X6_isWord tw_995 FC6 (MAt.S h0) rfl rfl (Nat.le_of_ble_eq_true rfl) ⟨⟨rfl, rfl⟩, ⟨Nat.le_of_ble_eq_true rfl, Nat.le_of_ble_eq_true rfl⟩, ⟨Nat.zero_le _, Nat.zero_le _⟩⟩ (fun v139 => ?_)
            refine j_if_eq (tgt := 150) C dX6_name_142 (by decide) ?_ ?_
            · refine j_aload_n C dX6_name_150 rfl rfl ?_
              refine j_callV_vw (st := []) C dX6_name_151 (ct_X6_fail (kγ κ) E M L h0) mi_X6_fail tw_1007 FC6 (MAt.S h0) rfl rfl (Nat.le_of_ble_eq_true rfl) ⟨⟨rfl, rfl⟩, ⟨Nat.le_of_ble_eq_true rfl, Nat.le_of_ble_eq_true rfl⟩, ⟨Nat.zero_le _, Nat.zero_le _⟩⟩ (fun r151 => ?_)
              refine j_iconst (v := (0 : Int32)) C dX6_name_154 rfl ?_
              exact j_iretw C dX6_name_155
            · refine j_aload_n C dX6_name_145 rfl rfl ?_
              refine j_getI (j := 18) C dX6_name_146 FC6 (MAt.S h0) (by decide) rfl tw_821 ?_
              exact j_iretw C dX6_name_149
          · refine j_aload_n C dX6_name_121 rfl rfl ?_
            refine j_getI (j := 17) C dX6_name_122 FC6 (MAt.S h0) (by decide) rfl tw_820 ?_
            exact j_iretw C dX6_name_125
        · refine j_aload_n C dX6_name_95 rfl rfl ?_
          refine j_getI (j := 16) C dX6_name_96 FC6 (MAt.S h0) (by decide) rfl tw_819 ?_
          exact j_iretw C dX6_name_99
      · refine j_aload_n C dX6_name_69 rfl rfl ?_
        refine j_getI (j := 15) C dX6_name_70 FC6 (MAt.S h0) (by decide) rfl tw_818 ?_
        exact j_iretw C dX6_name_73
    · refine j_aload_n C dX6_name_46 rfl rfl ?_
      refine j_getI (j := 14) C dX6_name_47 FC6 (MAt.S h0) (by decide) rfl tw_817 ?_
      exact j_iretw C dX6_name_50
  · refine j_aload_n C dX6_name_20 rfl rfl ?_
    refine j_getI (j := 13) C dX6_name_21 FC6 (MAt.S h0) (by decide) rfl tw_816 ?_
    exact j_iretw C dX6_name_24
set_option maxRecDepth 100000 in
set_option maxHeartbeats 4000000 in
theorem ct_X6_opens (γ : Gm) (E : Ev) (M : Mi) (L : Ml)   (h0 : MAt E) : Ct γ yX6_opens cX6_opens 1 (some .boolean) ⟨2, 0, 0, 47⟩ [.ref (E.2.1 0)] E M L (Q_iw γ E) 0 0 (F_X6_opens M L) := by
  refine ct_of (own := RX6) (lv := [some (.ref (E.2.1 0))]) (by decide +kernel) rfl rfl (Nat.le_of_ble_eq_true rfl) (fun κ C hγ hN => ?_)
  subst hγ
  have hn : ∀ i, i < 1 → i < knL κ := fun i h => by rw [hN]; exact h
  unfold F_X6_opens
  refine j_aload_n C dX6_opens_0 rfl rfl ?_
  refine j_getI (j := 25) C dX6_opens_1 FC6 (MAt.S h0) (by decide) rfl tw_828 ?_
  refine j_iconst (v := (5 : Int32)) C dX6_opens_4 rfl ?_
  refine j_icmp_ne (tgt := 14) C dX6_opens_5 (by decide) ?_ ?_
  · refine j_aload_n C dX6_opens_14 rfl rfl ?_
    refine j_dup C dX6_opens_15 rfl ?_
    refine j_getI (j := 25) C dX6_opens_16 FC6 (MAt.S h0) (by decide) rfl tw_828 ?_
    refine j_iconst (v := (1 : Int32)) C dX6_opens_19 rfl ?_
    refine j_iadd C dX6_opens_20 ?_
    refine j_putI (j := 25) C dX6_opens_21 FC6 (MAt.S h0) (by decide) rfl rfl rfl rfl tw_828 ?_
    refine j_aload_n C dX6_opens_24 rfl rfl ?_
    refine j_pc (pc2 := 25) rfl ?_
    refine j_callV_vw (st := []) C dX6_opens_25 (ct_X6_next (kγ κ) E (up2 M 0 25 ((M 0 25) + (1 : Int32))) L h0) mi_X6_next tw_982 FC6 (MAt.S h0) rfl rfl (Nat.le_of_ble_eq_true rfl) ⟨⟨rfl, rfl⟩, ⟨Nat.le_of_ble_eq_true rfl, Nat.le_of_ble_eq_true rfl⟩, ⟨Nat.zero_le _, Nat.zero_le _⟩⟩ (fun r25 => ?_)
    refine j_iconst (v := (1 : Int32)) C dX6_opens_28 rfl ?_
    exact j_zretw C dX6_opens_29
  · refine j_aload_n C dX6_opens_8 rfl rfl ?_
    refine j_callV_vw (st := []) C dX6_opens_9 (ct_X6_fail (kγ κ) E M L h0) mi_X6_fail tw_1007 FC6 (MAt.S h0) rfl rfl (Nat.le_of_ble_eq_true rfl) ⟨⟨rfl, rfl⟩, ⟨Nat.le_of_ble_eq_true rfl, Nat.le_of_ble_eq_true rfl⟩, ⟨Nat.zero_le _, Nat.zero_le _⟩⟩ (fun r9 => ?_)
    refine j_iconst (v := (0 : Int32)) C dX6_opens_12 rfl ?_
    exact j_zretw C dX6_opens_13
set_option maxRecDepth 100000 in
set_option maxHeartbeats 4000000 in
theorem ct_X6_atom5 (γ : Gm) (E : Ev) (M : Mi) (L : Ml)   (h0 : MAt E) : Ct γ yX6_atom5 cX6_atom5 2 (some .int) ⟨4, 0, 0, 91⟩ [.ref (E.2.1 0)] E M L (Q_iw γ E) 0 0 (F_X6_atom5 M L) := by
  refine ct_of (own := RX6) (lv := [some (.ref (E.2.1 0)), none]) (by decide +kernel) rfl rfl (Nat.le_of_ble_eq_true rfl) (fun κ C hγ hN => ?_)
  subst hγ
  have hn : ∀ i, i < 2 → i < knL κ := fun i h => by rw [hN]; exact h
  have k98 : ∀ (M : Mi) (L : Ml) (x1 : Int32), JF κ (PQ κ (Q_iw (kγ κ) E) 0 0) 98 [some (.ref (E.2.1 0)), some (.int x1)] [] E M L 0 0 (F_X6_atom5_k98  M L x1) := by
    intro M L x1
    unfold F_X6_atom5_k98
    refine j_aload_n C dX6_atom5_98 rfl rfl ?_
    refine j_callV_vw (st := []) C dX6_atom5_99 (ct_X6_fail (kγ κ) E M L h0) mi_X6_fail tw_1007 FC6 (MAt.S h0) rfl rfl (Nat.le_of_ble_eq_true rfl) ⟨⟨rfl, rfl⟩, ⟨Nat.le_of_ble_eq_true rfl, Nat.le_of_ble_eq_true rfl⟩, ⟨Nat.zero_le _, Nat.zero_le _⟩⟩ (fun r99 => ?_)
    refine j_iload_n C dX6_atom5_102 rfl rfl ?_
    exact j_iretw C dX6_atom5_103
  have k64 : ∀ (M : Mi) (L : Ml) (x1 : Int32), JF κ (PQ κ (Q_iw (kγ κ) E) 0 0) 64 [some (.ref (E.2.1 0)), some (.int x1)] [] E M L 0 0 (F_X6_atom5_k64  M L x1) := by
    intro M L x1
    unfold F_X6_atom5_k64
    refine j_aload_n C dX6_atom5_64 rfl rfl ?_
    refine j_getI (j := 26) C dX6_atom5_65 FC6 (MAt.S h0) (by decide) rfl tw_829 ?_
    refine j_if_ne (tgt := 98) C dX6_atom5_68 (by decide) ?_ ?_
    · exact k98 M L x1
    · refine j_aload_n C dX6_atom5_71 rfl rfl ?_
      refine j_getI (j := 22) C dX6_atom5_72 FC6 (MAt.S h0) (by decide) rfl tw_825 ?_
      refine j_iconst (v := (1 : Int32)) C dX6_atom5_75 rfl ?_
      refine j_icmp_ne (tgt := 98) C dX6_atom5_76 (by decide) ?_ ?_
      · exact k98 M L x1
      · refine j_aload_n C dX6_atom5_79 rfl rfl ?_
        refine j_callV_iw (st := []) C dX6_atom5_80 (ct_X6_name (kγ κ) E M L h0) mi_X6_name tw_1063 FC6 (MAt.S h0) rfl rfl (Nat.le_of_ble_eq_true rfl) ⟨⟨rfl, rfl⟩, ⟨Nat.le_of_ble_eq_true rfl, Nat.le_of_ble_eq_true rfl⟩, ⟨Nat.zero_le _, Nat.zero_le _⟩⟩ (fun r80 => ?_)
        refine j_istore_n (i := 1) (lv' := [some (.ref (E.2.1 0)), some (.int r80.1)]) C dX6_atom5_83 rfl (hn 1 (by decide)) rfl ?_
        refine j_aload_n C dX6_atom5_84 rfl rfl ?_
        refine j_getI (j := 26) C dX6_atom5_85 FC6 (MAt.S h0) (by decide) rfl tw_829 ?_
        refine j_if_ne (tgt := 102) C dX6_atom5_88 (by decide) ?_ ?_
        · refine j_iload_n C dX6_atom5_102 rfl rfl ?_
          exact j_iretw C dX6_atom5_103
        · refine j_aload_n C dX6_atom5_91 rfl rfl ?_
          refine j_callV_vw (st := []) C dX6_atom5_92 (ct_X6_next (kγ κ) E r80.2.1 r80.2.2 h0) mi_X6_next tw_982 FC6 (MAt.S h0) rfl rfl (Nat.le_of_ble_eq_true rfl) ⟨⟨rfl, rfl⟩, ⟨Nat.le_of_ble_eq_true rfl, Nat.le_of_ble_eq_true rfl⟩, ⟨Nat.zero_le _, Nat.zero_le _⟩⟩ (fun r92 => ?_)
          refine j_goto (tgt := 102) C dX6_atom5_95 (by decide) ?_
          refine j_iload_n C dX6_atom5_102 rfl rfl ?_
          exact j_iretw C dX6_atom5_103
  unfold F_X6_atom5
  refine j_iconst (v := (0 : Int32)) C dX6_atom5_0 rfl ?_
  refine j_istore_n (i := 1) (lv' := [some (.ref (E.2.1 0)), some (.int (0 : Int32))]) C dX6_atom5_1 rfl (hn 1 (by decide)) rfl ?_
  refine j_aload_n C dX6_atom5_2 rfl rfl ?_
  refine j_bipush (v := (45 : Int32)) C dX6_atom5_3 (by decide) ?_
  refine j_callV_i (st := []) C dX6_atom5_5 (ct_X6_isSign (kγ κ) E M L (45 : Int32) h0) mi_X6_isSign tw_1059 FC6 (MAt.S h0) rfl rfl (Nat.le_of_ble_eq_true rfl) ⟨⟨rfl, rfl⟩, ⟨Nat.le_of_ble_eq_true rfl, Nat.le_of_ble_eq_true rfl⟩, ⟨Nat.zero_le _, Nat.zero_le _⟩⟩ (fun v5 => ?_)
  refine j_if_eq (tgt := 19) C dX6_atom5_8 (by decide) ?_ ?_
  · refine j_aload_n C dX6_atom5_19 rfl rfl ?_
    refine j_bipush (v := (40 : Int32)) C dX6_atom5_20 (by decide) ?_
    refine j_callV_i (st := []) C dX6_atom5_22 (ct_X6_isSign (kγ κ) E M L (40 : Int32) h0) mi_X6_isSign tw_1059 FC6 (MAt.S h0) rfl rfl (Nat.le_of_ble_eq_true rfl) ⟨⟨rfl, rfl⟩, ⟨Nat.le_of_ble_eq_true rfl, Nat.le_of_ble_eq_true rfl⟩, ⟨Nat.zero_le _, Nat.zero_le _⟩⟩ (fun v22 => ?_)
    refine j_if_eq (tgt := 36) C dX6_atom5_25 (by decide) ?_ ?_
    · refine j_aload_n C dX6_atom5_36 rfl rfl ?_
      refine j_getI (j := 26) C dX6_atom5_37 FC6 (MAt.S h0) (by decide) rfl tw_829 ?_
      refine j_if_ne (tgt := 64) C dX6_atom5_40 (by decide) ?_ ?_
      · exact k64 M L ((0 : Int32))
      · refine j_aload_n C dX6_atom5_43 rfl rfl ?_
        refine j_getI (j := 22) C dX6_atom5_44 FC6 (MAt.S h0) (by decide) rfl tw_825 ?_
        refine j_iconst (v := (2 : Int32)) C dX6_atom5_47 rfl ?_
        refine j_icmp_ne (tgt := 64) C dX6_atom5_48 (by decide) ?_ ?_
        · exact k64 M L ((0 : Int32))
        · refine j_aload_n C dX6_atom5_51 rfl rfl ?_
          refine j_getL (j := 24) C dX6_atom5_52 FC6 (MAt.S h0) (by decide) rfl tw_827 ?_
          refine j_l2i C dX6_atom5_55 ?_
          refine j_istore_n (i := 1) (lv' := [some (.ref (E.2.1 0)), some (.int (Int64.toInt32 (L 0 24)))]) C dX6_atom5_56 rfl (hn 1 (by decide)) rfl ?_
          refine j_aload_n C dX6_atom5_57 rfl rfl ?_
          refine j_callV_vw (st := []) C dX6_atom5_58 (ct_X6_next (kγ κ) E M L h0) mi_X6_next tw_982 FC6 (MAt.S h0) rfl rfl (Nat.le_of_ble_eq_true rfl) ⟨⟨rfl, rfl⟩, ⟨Nat.le_of_ble_eq_true rfl, Nat.le_of_ble_eq_true rfl⟩, ⟨Nat.zero_le _, Nat.zero_le _⟩⟩ (fun r58 => ?_)
          refine j_goto (tgt := 102) C dX6_atom5_61 (by decide) ?_
          refine j_iload_n C dX6_atom5_102 rfl rfl ?_
          exact j_iretw C dX6_atom5_103
    · refine j_aload_n C dX6_atom5_28 rfl rfl ?_
      refine j_callV_iw (st := []) C dX6_atom5_29 (ct_X6_opens (kγ κ) E M L h0) mi_X6_opens tw_1023 FC6 (MAt.S h0) rfl rfl (Nat.le_of_ble_eq_true rfl) ⟨⟨rfl, rfl⟩, ⟨Nat.le_of_ble_eq_true rfl, Nat.le_of_ble_eq_true rfl⟩, ⟨Nat.zero_le _, Nat.zero_le _⟩⟩ (fun r29 => ?_)
      refine j_pop C dX6_atom5_32 rfl ?_
      refine j_goto (tgt := 102) C dX6_atom5_33 (by decide) ?_
      refine j_iload_n C dX6_atom5_102 rfl rfl ?_
      exact j_iretw C dX6_atom5_103
  · refine j_aload_n C dX6_atom5_11 rfl rfl ?_
    refine j_callV_iw (st := []) C dX6_atom5_12 (ct_X6_opens (kγ κ) E M L h0) mi_X6_opens tw_1023 FC6 (MAt.S h0) rfl rfl (Nat.le_of_ble_eq_true rfl) ⟨⟨rfl, rfl⟩, ⟨Nat.le_of_ble_eq_true rfl, Nat.le_of_ble_eq_true rfl⟩, ⟨Nat.zero_le _, Nat.zero_le _⟩⟩ (fun r12 => ?_)
    refine j_pop C dX6_atom5_15 rfl ?_
    refine j_goto (tgt := 102) C dX6_atom5_16 (by decide) ?_
    refine j_iload_n C dX6_atom5_102 rfl rfl ?_
    exact j_iretw C dX6_atom5_103
set_option maxRecDepth 100000 in
set_option maxHeartbeats 4000000 in
theorem ct_X6_term5 (γ : Gm) (E : Ev) (M : Mi) (L : Ml)   (h0 : MAt E) : Ct γ yX6_term5 cX6_term5 2 (some .int) ⟨5, 0, 0, 112⟩ [.ref (E.2.1 0)] E M L (Q_iw γ E) 0 0 (F_X6_term5 M L) := by
  refine ct_of (own := RX6) (lv := [some (.ref (E.2.1 0)), none]) (by decide +kernel) rfl rfl (Nat.le_of_ble_eq_true rfl) (fun κ C hγ hN => ?_)
  subst hγ
  have hn : ∀ i, i < 2 → i < knL κ := fun i h => by rw [hN]; exact h
  have k5 : ∀ (n : Nat) (M : Mi) (L : Ml) (x1 : Int32), JF κ (PQ κ (Q_iw (kγ κ) E) 0 0) 5 [some (.ref (E.2.1 0)), some (.int x1)] [] E M L 0 0 (F_X6_term5_k5  n M L x1) := by
    intro n
    induction n with
    | zero => intros; exact jf_none
    | succ n ih =>
      intro M L x1
      unfold F_X6_term5_k5
      refine j_aload_n C dX6_term5_5 rfl rfl ?_
      refine j_bipush (v := (42 : Int32)) C dX6_term5_6 (by decide) ?_
      refine j_callV_i (st := []) C dX6_term5_8 (ct_X6_isSign (kγ κ) E M L (42 : Int32) h0) mi_X6_isSign tw_1059 FC6 (MAt.S h0) rfl rfl (Nat.le_of_ble_eq_true rfl) ⟨⟨rfl, rfl⟩, ⟨Nat.le_of_ble_eq_true rfl, Nat.le_of_ble_eq_true rfl⟩, ⟨Nat.zero_le _, Nat.zero_le _⟩⟩ (fun v8 => ?_)
      refine j_if_eq (tgt := 28) C dX6_term5_11 (by decide) ?_ ?_
      · refine j_iload_n C dX6_term5_28 rfl rfl ?_
        exact j_iretw C dX6_term5_29
      · refine j_aload_n C dX6_term5_14 rfl rfl ?_
        refine j_callV_vw (st := []) C dX6_term5_15 (ct_X6_next (kγ κ) E M L h0) mi_X6_next tw_982 FC6 (MAt.S h0) rfl rfl (Nat.le_of_ble_eq_true rfl) ⟨⟨rfl, rfl⟩, ⟨Nat.le_of_ble_eq_true rfl, Nat.le_of_ble_eq_true rfl⟩, ⟨Nat.zero_le _, Nat.zero_le _⟩⟩ (fun r15 => ?_)
        refine j_iload_n C dX6_term5_18 rfl rfl ?_
        refine j_aload_n C dX6_term5_19 rfl rfl ?_
        refine j_callV_iw (st := [.int x1]) C dX6_term5_20 (ct_X6_atom5 (kγ κ) E r15.1 r15.2 h0) mi_X6_atom5 tw_1055 FC6 (MAt.S h0) rfl rfl (Nat.le_of_ble_eq_true rfl) ⟨⟨rfl, rfl⟩, ⟨Nat.le_of_ble_eq_true rfl, Nat.le_of_ble_eq_true rfl⟩, ⟨Nat.zero_le _, Nat.zero_le _⟩⟩ (fun r20 => ?_)
        refine j_imul C dX6_term5_23 ?_
        refine j_istore_n (i := 1) (lv' := [some (.ref (E.2.1 0)), some (.int (x1 * r20.1))]) C dX6_term5_24 rfl (hn 1 (by decide)) rfl ?_
        refine j_pc (pc2 := 25) rfl ?_
        refine j_goto (tgt := 5) C dX6_term5_25 (by decide) ?_
        exact ih r20.2.1 r20.2.2 ((x1 * r20.1))
  unfold F_X6_term5
  refine j_aload_n C dX6_term5_0 rfl rfl ?_
  refine j_callV_iw (st := []) C dX6_term5_1 (ct_X6_atom5 (kγ κ) E M L h0) mi_X6_atom5 tw_1055 FC6 (MAt.S h0) rfl rfl (Nat.le_of_ble_eq_true rfl) ⟨⟨rfl, rfl⟩, ⟨Nat.le_of_ble_eq_true rfl, Nat.le_of_ble_eq_true rfl⟩, ⟨Nat.zero_le _, Nat.zero_le _⟩⟩ (fun r1 => ?_)
  refine j_istore_n (i := 1) (lv' := [some (.ref (E.2.1 0)), some (.int r1.1)]) C dX6_term5_4 rfl (hn 1 (by decide)) rfl ?_
  exact k5 FU r1.2.1 r1.2.2 r1.1
set_option maxRecDepth 100000 in
set_option maxHeartbeats 4000000 in
theorem ct_X6_added5 (γ : Gm) (E : Ev) (M : Mi) (L : Ml)   (h0 : MAt E) : Ct γ yX6_added5 cX6_added5 4 (some .int) ⟨6, 0, 0, 133⟩ [.ref (E.2.1 0)] E M L (Q_iw γ E) 0 0 (F_X6_added5 M L) := by
  refine ct_of (own := RX6) (lv := [some (.ref (E.2.1 0)), none, none, none]) (by decide +kernel) rfl rfl (Nat.le_of_ble_eq_true rfl) (fun κ C hγ hN => ?_)
  subst hγ
  have hn : ∀ i, i < 4 → i < knL κ := fun i h => by rw [hN]; exact h
  have k62 : ∀ (kf5 : Mi → Ml → Int32 → Option (Int32 × Mi × Ml)), (∀ (M : Mi) (L : Ml) (x1 : Int32), JF κ (PQ κ (Q_iw (kγ κ) E) 0 0) 5 [some (.ref (E.2.1 0)), some (.int x1), none, none] [] E M L 0 0 (kf5 M L x1)) → ∀ (M : Mi) (L : Ml) (s0 : Int32), JF κ (PQ κ (Q_iw (kγ κ) E) 0 0) 62 [some (.ref (E.2.1 0)), none, none, none] [.int s0] E M L 0 0 (F_X6_added5_k62 kf5 M L s0) := by
    intro kf5 hkf5 M L s0
    unfold F_X6_added5_k62
    refine j_istore_n (i := 1) (lv' := [some (.ref (E.2.1 0)), some (.int s0), none, none]) C dX6_added5_62 rfl (hn 1 (by decide)) rfl ?_
    refine j_goto (tgt := 5) C dX6_added5_63 (by decide) ?_
    exact hkf5 M L s0
  have k39 : ∀ (kf5 : Mi → Ml → Int32 → Option (Int32 × Mi × Ml)), (∀ (M : Mi) (L : Ml) (x1 : Int32), JF κ (PQ κ (Q_iw (kγ κ) E) 0 0) 5 [some (.ref (E.2.1 0)), some (.int x1), none, none] [] E M L 0 0 (kf5 M L x1)) → ∀ (M : Mi) (L : Ml) (x1 : Int32) (s0 : Int32), JF κ (PQ κ (Q_iw (kγ κ) E) 0 0) 39 [some (.ref (E.2.1 0)), some (.int x1), none, none] [.int s0] E M L 0 0 (F_X6_added5_k39 kf5 M L x1 s0) := by
    intro kf5 hkf5 M L x1 s0
    unfold F_X6_added5_k39
    refine j_istore_n (i := 2) (lv' := [some (.ref (E.2.1 0)), some (.int x1), some (.int s0), none]) C dX6_added5_39 rfl (hn 2 (by decide)) rfl ?_
    refine j_aload_n C dX6_added5_40 rfl rfl ?_
    refine j_callV_vw (st := []) C dX6_added5_41 (ct_X6_next (kγ κ) E M L h0) mi_X6_next tw_982 FC6 (MAt.S h0) rfl rfl (Nat.le_of_ble_eq_true rfl) ⟨⟨rfl, rfl⟩, ⟨Nat.le_of_ble_eq_true rfl, Nat.le_of_ble_eq_true rfl⟩, ⟨Nat.zero_le _, Nat.zero_le _⟩⟩ (fun r41 => ?_)
    refine j_aload_n C dX6_added5_44 rfl rfl ?_
    refine j_callV_iw (st := []) C dX6_added5_45 (ct_X6_term5 (kγ κ) E r41.1 r41.2 h0) mi_X6_term5 tw_1051 FC6 (MAt.S h0) rfl rfl (Nat.le_of_ble_eq_true rfl) ⟨⟨rfl, rfl⟩, ⟨Nat.le_of_ble_eq_true rfl, Nat.le_of_ble_eq_true rfl⟩, ⟨Nat.zero_le _, Nat.zero_le _⟩⟩ (fun r45 => ?_)
    refine j_istore_n (i := 3) (lv' := [some (.ref (E.2.1 0)), some (.int x1), some (.int s0), some (.int r45.1)]) C dX6_added5_48 rfl (hn 3 (by decide)) rfl ?_
    refine j_iload_n C dX6_added5_49 rfl rfl ?_
    refine j_pc (pc2 := 50) rfl ?_
    refine j_if_eq (tgt := 59) C dX6_added5_50 (by decide) ?_ ?_
    · refine j_iload_n C dX6_added5_59 rfl rfl ?_
      refine j_iload_n C dX6_added5_60 rfl rfl ?_
      refine j_isub C dX6_added5_61 ?_
      refine j_mask [true, false, false, false] (lv' := [some (.ref (E.2.1 0)), none, none, none]) rfl ?_
      exact k62 kf5 hkf5 r45.2.1 r45.2.2 ((x1 - r45.1))
    · refine j_iload_n C dX6_added5_53 rfl rfl ?_
      refine j_iload_n C dX6_added5_54 rfl rfl ?_
      refine j_iadd C dX6_added5_55 ?_
      refine j_goto (tgt := 62) C dX6_added5_56 (by decide) ?_
      refine j_mask [true, false, false, false] (lv' := [some (.ref (E.2.1 0)), none, none, none]) rfl ?_
      exact k62 kf5 hkf5 r45.2.1 r45.2.2 ((x1 + r45.1))
  have k23 : ∀ (kf5 : Mi → Ml → Int32 → Option (Int32 × Mi × Ml)), (∀ (M : Mi) (L : Ml) (x1 : Int32), JF κ (PQ κ (Q_iw (kγ κ) E) 0 0) 5 [some (.ref (E.2.1 0)), some (.int x1), none, none] [] E M L 0 0 (kf5 M L x1)) → ∀ (M : Mi) (L : Ml) (x1 : Int32), JF κ (PQ κ (Q_iw (kγ κ) E) 0 0) 23 [some (.ref (E.2.1 0)), some (.int x1), none, none] [] E M L 0 0 (F_X6_added5_k23 kf5 M L x1) := by
    intro kf5 hkf5 M L x1
    unfold F_X6_added5_k23
    refine j_aload_n C dX6_added5_23 rfl rfl ?_
    refine j_getL (j := 24) C dX6_added5_24 FC6 (MAt.S h0) (by decide) rfl tw_827 ?_
    refine j_ldc2 (v := (43 : Int64)) C dX6_added5_27 tw_1067 ?_
    refine j_lcmp C dX6_added5_30 ?_
    refine j_if_ne (tgt := 38) C dX6_added5_31 (by decide) ?_ ?_
    · refine j_iconst (v := (0 : Int32)) C dX6_added5_38 rfl ?_
      exact k39 kf5 hkf5 M L x1 ((0 : Int32))
    · refine j_iconst (v := (1 : Int32)) C dX6_added5_34 rfl ?_
      refine j_goto (tgt := 39) C dX6_added5_35 (by decide) ?_
      exact k39 kf5 hkf5 M L x1 ((1 : Int32))
  have k5 : ∀ (n : Nat) (M : Mi) (L : Ml) (x1 : Int32), JF κ (PQ κ (Q_iw (kγ κ) E) 0 0) 5 [some (.ref (E.2.1 0)), some (.int x1), none, none] [] E M L 0 0 (F_X6_added5_k5  n M L x1) := by
    intro n
    induction n with
    | zero => intros; exact jf_none
    | succ n ih =>
      intro M L x1
      unfold F_X6_added5_k5
      refine j_aload_n C dX6_added5_5 rfl rfl ?_
      refine j_bipush (v := (43 : Int32)) C dX6_added5_6 (by decide) ?_
      refine j_callV_i (st := []) C dX6_added5_8 (ct_X6_isSign (kγ κ) E M L (43 : Int32) h0) mi_X6_isSign tw_1059 FC6 (MAt.S h0) rfl rfl (Nat.le_of_ble_eq_true rfl) ⟨⟨rfl, rfl⟩, ⟨Nat.le_of_ble_eq_true rfl, Nat.le_of_ble_eq_true rfl⟩, ⟨Nat.zero_le _, Nat.zero_le _⟩⟩ (fun v8 => ?_)
      refine j_if_ne (tgt := 23) C dX6_added5_11 (by decide) ?_ ?_
      · exact k23 (F_X6_added5_k5  n) ih M L x1
      · refine j_aload_n C dX6_added5_14 rfl rfl ?_
        refine j_bipush (v := (45 : Int32)) C dX6_added5_15 (by decide) ?_
        refine j_callV_i (st := []) C dX6_added5_17 (ct_X6_isSign (kγ κ) E M L (45 : Int32) h0) mi_X6_isSign tw_1059 FC6 (MAt.S h0) rfl rfl (Nat.le_of_ble_eq_true rfl) ⟨⟨rfl, rfl⟩, ⟨Nat.le_of_ble_eq_true rfl, Nat.le_of_ble_eq_true rfl⟩, ⟨Nat.zero_le _, Nat.zero_le _⟩⟩ (fun v17 => ?_)
        refine j_if_eq (tgt := 66) C dX6_added5_20 (by decide) ?_ ?_
        · refine j_iload_n C dX6_added5_66 rfl rfl ?_
          exact j_iretw C dX6_added5_67
        · exact k23 (F_X6_added5_k5  n) ih M L x1
  unfold F_X6_added5
  refine j_aload_n C dX6_added5_0 rfl rfl ?_
  refine j_callV_iw (st := []) C dX6_added5_1 (ct_X6_term5 (kγ κ) E M L h0) mi_X6_term5 tw_1051 FC6 (MAt.S h0) rfl rfl (Nat.le_of_ble_eq_true rfl) ⟨⟨rfl, rfl⟩, ⟨Nat.le_of_ble_eq_true rfl, Nat.le_of_ble_eq_true rfl⟩, ⟨Nat.zero_le _, Nat.zero_le _⟩⟩ (fun r1 => ?_)
  refine j_istore_n (i := 1) (lv' := [some (.ref (E.2.1 0)), some (.int r1.1), none, none]) C dX6_added5_4 rfl (hn 1 (by decide)) rfl ?_
  exact k5 FU r1.2.1 r1.2.2 r1.1
set_option maxRecDepth 100000 in
set_option maxHeartbeats 4000000 in
theorem ct_X6_not5 (γ : Gm) (E : Ev) (M : Mi) (L : Ml)   (h0 : MAt E) : Ct γ yX6_not5 cX6_not5 4 (some .int) ⟨7, 0, 0, 156⟩ [.ref (E.2.1 0)] E M L (Q_iw γ E) 0 0 (F_X6_not5 M L) := by
  refine ct_of (own := RX6) (lv := [some (.ref (E.2.1 0)), none, none, none]) (by decide +kernel) rfl rfl (Nat.le_of_ble_eq_true rfl) (fun κ C hγ hN => ?_)
  subst hγ
  have hn : ∀ i, i < 4 → i < knL κ := fun i h => by rw [hN]; exact h
  have k93 : ∀ (M : Mi) (L : Ml), JF κ (PQ κ (Q_iw (kγ κ) E) 0 0) 93 [none, none, none, none] [] E M L 0 0 (F_X6_not5_k93  M L) := by
    intro M L
    unfold F_X6_not5_k93
    refine j_iconst (v := (1 : Int32)) C dX6_not5_93 rfl ?_
    refine j_goto (tgt := 98) C dX6_not5_94 (by decide) ?_
    exact j_iretw C dX6_not5_98
  have k66 : ∀ (M : Mi) (L : Ml) (x1 : Int32) (s0 : Int32), JF κ (PQ κ (Q_iw (kγ κ) E) 0 0) 66 [some (.ref (E.2.1 0)), some (.int x1), none, none] [.int s0] E M L 0 0 (F_X6_not5_k66  M L x1 s0) := by
    intro M L x1 s0
    unfold F_X6_not5_k66
    refine j_istore_n (i := 2) (lv' := [some (.ref (E.2.1 0)), some (.int x1), some (.int s0), none]) C dX6_not5_66 rfl (hn 2 (by decide)) rfl ?_
    refine j_aload_n C dX6_not5_67 rfl rfl ?_
    refine j_callV_vw (st := []) C dX6_not5_68 (ct_X6_next (kγ κ) E M L h0) mi_X6_next tw_982 FC6 (MAt.S h0) rfl rfl (Nat.le_of_ble_eq_true rfl) ⟨⟨rfl, rfl⟩, ⟨Nat.le_of_ble_eq_true rfl, Nat.le_of_ble_eq_true rfl⟩, ⟨Nat.zero_le _, Nat.zero_le _⟩⟩ (fun r68 => ?_)
    refine j_aload_n C dX6_not5_71 rfl rfl ?_
    refine j_callV_iw (st := []) C dX6_not5_72 (ct_X6_added5 (kγ κ) E r68.1 r68.2 h0) mi_X6_added5 tw_1047 FC6 (MAt.S h0) rfl rfl (Nat.le_of_ble_eq_true rfl) ⟨⟨rfl, rfl⟩, ⟨Nat.le_of_ble_eq_true rfl, Nat.le_of_ble_eq_true rfl⟩, ⟨Nat.zero_le _, Nat.zero_le _⟩⟩ (fun r72 => ?_)
    refine j_istore_n (i := 3) (lv' := [some (.ref (E.2.1 0)), some (.int x1), some (.int s0), some (.int r72.1)]) C dX6_not5_75 rfl (hn 3 (by decide)) rfl ?_
    refine j_iload_n C dX6_not5_76 rfl rfl ?_
    refine j_pc (pc2 := 77) rfl ?_
    refine j_if_eq (tgt := 88) C dX6_not5_77 (by decide) ?_ ?_
    · refine j_iload_n C dX6_not5_88 rfl rfl ?_
      refine j_iload_n C dX6_not5_89 rfl rfl ?_
      refine j_icmp_ne (tgt := 97) C dX6_not5_90 (by decide) ?_ ?_
      · refine j_iconst (v := (0 : Int32)) C dX6_not5_97 rfl ?_
        exact j_iretw C dX6_not5_98
      · refine j_mask [false, false, false, false] (lv' := [none, none, none, none]) rfl ?_
        exact k93 r72.2.1 r72.2.2
    · refine j_iload_n C dX6_not5_80 rfl rfl ?_
      refine j_iload_n C dX6_not5_81 rfl rfl ?_
      refine j_icmp_ge (tgt := 97) C dX6_not5_82 (by decide) ?_ ?_
      · refine j_iconst (v := (0 : Int32)) C dX6_not5_97 rfl ?_
        exact j_iretw C dX6_not5_98
      · refine j_goto (tgt := 93) C dX6_not5_85 (by decide) ?_
        refine j_mask [false, false, false, false] (lv' := [none, none, none, none]) rfl ?_
        exact k93 r72.2.1 r72.2.2
  have k50 : ∀ (M : Mi) (L : Ml) (x1 : Int32), JF κ (PQ κ (Q_iw (kγ κ) E) 0 0) 50 [some (.ref (E.2.1 0)), some (.int x1), none, none] [] E M L 0 0 (F_X6_not5_k50  M L x1) := by
    intro M L x1
    unfold F_X6_not5_k50
    refine j_aload_n C dX6_not5_50 rfl rfl ?_
    refine j_getL (j := 24) C dX6_not5_51 FC6 (MAt.S h0) (by decide) rfl tw_827 ?_
    refine j_ldc2 (v := (60 : Int64)) C dX6_not5_54 tw_1068 ?_
    refine j_lcmp C dX6_not5_57 ?_
    refine j_if_ne (tgt := 65) C dX6_not5_58 (by decide) ?_ ?_
    · refine j_iconst (v := (0 : Int32)) C dX6_not5_65 rfl ?_
      exact k66 M L x1 ((0 : Int32))
    · refine j_iconst (v := (1 : Int32)) C dX6_not5_61 rfl ?_
      refine j_goto (tgt := 66) C dX6_not5_62 (by decide) ?_
      exact k66 M L x1 ((1 : Int32))
  unfold F_X6_not5
  refine j_aload_n C dX6_not5_0 rfl rfl ?_
  refine j_bipush (v := (110 : Int32)) C dX6_not5_1 (by decide) ?_
  refine j_bipush (v := (111 : Int32)) C dX6_not5_3 (by decide) ?_
  refine j_bipush (v := (116 : Int32)) C dX6_not5_5 (by decide) ?_
  refine j_iconst (v := (0 : Int32)) C dX6_not5_7 rfl ?_
  refine j_iconst (v := (0 : Int32)) C dX6_not5_8 rfl ?_
  refine j_iconst (v := (0 : Int32)) C dX6_not5_9 rfl ?_
  refine j_pc (pc2 := 10) rfl ?_
  refine j_iconst (v := (0 : Int32)) C dX6_not5_10 rfl ?_
  refine j_iconst (v := (0 : Int32)) C dX6_not5_11 rfl ?_
  refine j_callV_i (st := []) C dX6_not5_12 (ct_X6_isWord (kγ κ) E M L (110 : Int32) (111 : Int32) (116 : Int32) (0 : Int32) (0 : Int32) (0 : Int32) (0 : Int32) (0 : Int32) h0) mi_X6_isWord tw_995 FC6 (MAt.S h0) rfl rfl (Nat.le_of_ble_eq_true rfl) ⟨⟨rfl, rfl⟩, ⟨Nat.le_of_ble_eq_true rfl, Nat.le_of_ble_eq_true rfl⟩, ⟨Nat.zero_le _, Nat.zero_le _⟩⟩ (fun v12 => ?_)
  refine j_if_eq (tgt := 25) C dX6_not5_15 (by decide) ?_ ?_
  · refine j_aload_n C dX6_not5_25 rfl rfl ?_
    refine j_callV_iw (st := []) C dX6_not5_26 (ct_X6_added5 (kγ κ) E M L h0) mi_X6_added5 tw_1047 FC6 (MAt.S h0) rfl rfl (Nat.le_of_ble_eq_true rfl) ⟨⟨rfl, rfl⟩, ⟨Nat.le_of_ble_eq_true rfl, Nat.le_of_ble_eq_true rfl⟩, ⟨Nat.zero_le _, Nat.zero_le _⟩⟩ (fun r26 => ?_)
    refine j_istore_n (i := 1) (lv' := [some (.ref (E.2.1 0)), some (.int r26.1), none, none]) C dX6_not5_29 rfl (hn 1 (by decide)) rfl ?_
    refine j_aload_n C dX6_not5_30 rfl rfl ?_
    refine j_bipush (v := (60 : Int32)) C dX6_not5_31 (by decide) ?_
    refine j_callV_i (st := []) C dX6_not5_33 (ct_X6_isSign (kγ κ) E r26.2.1 r26.2.2 (60 : Int32) h0) mi_X6_isSign tw_1059 FC6 (MAt.S h0) rfl rfl (Nat.le_of_ble_eq_true rfl) ⟨⟨rfl, rfl⟩, ⟨Nat.le_of_ble_eq_true rfl, Nat.le_of_ble_eq_true rfl⟩, ⟨Nat.zero_le _, Nat.zero_le _⟩⟩ (fun v33 => ?_)
    refine j_if_ne (tgt := 50) C dX6_not5_36 (by decide) ?_ ?_
    · exact k50 r26.2.1 r26.2.2 r26.1
    · refine j_aload_n C dX6_not5_39 rfl rfl ?_
      refine j_bipush (v := (61 : Int32)) C dX6_not5_40 (by decide) ?_
      refine j_callV_i (st := []) C dX6_not5_42 (ct_X6_isSign (kγ κ) E r26.2.1 r26.2.2 (61 : Int32) h0) mi_X6_isSign tw_1059 FC6 (MAt.S h0) rfl rfl (Nat.le_of_ble_eq_true rfl) ⟨⟨rfl, rfl⟩, ⟨Nat.le_of_ble_eq_true rfl, Nat.le_of_ble_eq_true rfl⟩, ⟨Nat.zero_le _, Nat.zero_le _⟩⟩ (fun v42 => ?_)
      refine j_if_ne (tgt := 50) C dX6_not5_45 (by decide) ?_ ?_
      · exact k50 r26.2.1 r26.2.2 r26.1
      · refine j_iload_n C dX6_not5_48 rfl rfl ?_
        exact j_iretw C dX6_not5_49
  · refine j_aload_n C dX6_not5_18 rfl rfl ?_
    refine j_callV_iw (st := []) C dX6_not5_19 (ct_X6_opens (kγ κ) E M L h0) mi_X6_opens tw_1023 FC6 (MAt.S h0) rfl rfl (Nat.le_of_ble_eq_true rfl) ⟨⟨rfl, rfl⟩, ⟨Nat.le_of_ble_eq_true rfl, Nat.le_of_ble_eq_true rfl⟩, ⟨Nat.zero_le _, Nat.zero_le _⟩⟩ (fun r19 => ?_)
    refine j_pop C dX6_not5_22 rfl ?_
    refine j_iconst (v := (0 : Int32)) C dX6_not5_23 rfl ?_
    exact j_iretw C dX6_not5_24
set_option maxRecDepth 100000 in
set_option maxHeartbeats 4000000 in
theorem ct_X6_both5 (γ : Gm) (E : Ev) (M : Mi) (L : Ml)   (h0 : MAt E) : Ct γ yX6_both5 cX6_both5 3 (some .int) ⟨8, 0, 0, 179⟩ [.ref (E.2.1 0)] E M L (Q_iw γ E) 0 0 (F_X6_both5 M L) := by
  refine ct_of (own := RX6) (lv := [some (.ref (E.2.1 0)), none, none]) (by decide +kernel) rfl rfl (Nat.le_of_ble_eq_true rfl) (fun κ C hγ hN => ?_)
  subst hγ
  have hn : ∀ i, i < 3 → i < knL κ := fun i h => by rw [hN]; exact h
  have k45 : ∀ (kf5 : Mi → Ml → Int32 → Option (Int32 × Mi × Ml)), (∀ (M : Mi) (L : Ml) (x1 : Int32), JF κ (PQ κ (Q_iw (kγ κ) E) 0 0) 5 [some (.ref (E.2.1 0)), some (.int x1), none] [] E M L 0 0 (kf5 M L x1)) → ∀ (M : Mi) (L : Ml) (s0 : Int32), JF κ (PQ κ (Q_iw (kγ κ) E) 0 0) 45 [some (.ref (E.2.1 0)), none, none] [.int s0] E M L 0 0 (F_X6_both5_k45 kf5 M L s0) := by
    intro kf5 hkf5 M L s0
    unfold F_X6_both5_k45
    refine j_istore_n (i := 1) (lv' := [some (.ref (E.2.1 0)), some (.int s0), none]) C dX6_both5_45 rfl (hn 1 (by decide)) rfl ?_
    refine j_goto (tgt := 5) C dX6_both5_46 (by decide) ?_
    exact hkf5 M L s0
  have k44 : ∀ (kf5 : Mi → Ml → Int32 → Option (Int32 × Mi × Ml)), (∀ (M : Mi) (L : Ml) (x1 : Int32), JF κ (PQ κ (Q_iw (kγ κ) E) 0 0) 5 [some (.ref (E.2.1 0)), some (.int x1), none] [] E M L 0 0 (kf5 M L x1)) → ∀ (M : Mi) (L : Ml), JF κ (PQ κ (Q_iw (kγ κ) E) 0 0) 44 [some (.ref (E.2.1 0)), none, none] [] E M L 0 0 (F_X6_both5_k44 kf5 M L) := by
    intro kf5 hkf5 M L
    unfold F_X6_both5_k44
    refine j_iconst (v := (0 : Int32)) C dX6_both5_44 rfl ?_
    exact k45 kf5 hkf5 M L ((0 : Int32))
  have k5 : ∀ (n : Nat) (M : Mi) (L : Ml) (x1 : Int32), JF κ (PQ κ (Q_iw (kγ κ) E) 0 0) 5 [some (.ref (E.2.1 0)), some (.int x1), none] [] E M L 0 0 (F_X6_both5_k5  n M L x1) := by
    intro n
    induction n with
    | zero => intros; exact jf_none
    | succ n ih =>
      intro M L x1
      unfold F_X6_both5_k5
      refine j_aload_n C dX6_both5_5 rfl rfl ?_
      refine j_bipush (v := (97 : Int32)) C dX6_both5_6 (by decide) ?_
      refine j_bipush (v := (110 : Int32)) C dX6_both5_8 (by decide) ?_
      refine j_bipush (v := (100 : Int32)) C dX6_both5_10 (by decide) ?_
      refine j_iconst (v := (0 : Int32)) C dX6_both5_12 rfl ?_
      refine j_iconst (v := (0 : Int32)) C dX6_both5_13 rfl ?_
      refine j_iconst (v := (0 : Int32)) C dX6_both5_14 rfl ?_
      refine j_pc (pc2 := 15) rfl ?_
      refine j_iconst (v := (0 : Int32)) C dX6_both5_15 rfl ?_
      refine j_iconst (v := (0 : Int32)) C dX6_both5_16 rfl ?_
      refine j_callV_i (st := []) C dX6_both5_17 (ct_X6_isWord (kγ κ) E M L (97 : Int32) (110 : Int32) (100 : Int32) (0 : Int32) (0 : Int32) (0 : Int32) (0 : Int32) (0 : Int32) h0) mi_X6_isWord tw_995 FC6 (MAt.S h0) rfl rfl (Nat.le_of_ble_eq_true rfl) ⟨⟨rfl, rfl⟩, ⟨Nat.le_of_ble_eq_true rfl, Nat.le_of_ble_eq_true rfl⟩, ⟨Nat.zero_le _, Nat.zero_le _⟩⟩ (fun v17 => ?_)
      refine j_if_eq (tgt := 49) C dX6_both5_20 (by decide) ?_ ?_
      · refine j_iload_n C dX6_both5_49 rfl rfl ?_
        exact j_iretw C dX6_both5_50
      · refine j_aload_n C dX6_both5_23 rfl rfl ?_
        refine j_callV_vw (st := []) C dX6_both5_24 (ct_X6_next (kγ κ) E M L h0) mi_X6_next tw_982 FC6 (MAt.S h0) rfl rfl (Nat.le_of_ble_eq_true rfl) ⟨⟨rfl, rfl⟩, ⟨Nat.le_of_ble_eq_true rfl, Nat.le_of_ble_eq_true rfl⟩, ⟨Nat.zero_le _, Nat.zero_le _⟩⟩ (fun r24 => ?_)
        refine j_aload_n C dX6_both5_27 rfl rfl ?_
        refine j_callV_iw (st := []) C dX6_both5_28 (ct_X6_not5 (kγ κ) E r24.1 r24.2 h0) mi_X6_not5 tw_1043 FC6 (MAt.S h0) rfl rfl (Nat.le_of_ble_eq_true rfl) ⟨⟨rfl, rfl⟩, ⟨Nat.le_of_ble_eq_true rfl, Nat.le_of_ble_eq_true rfl⟩, ⟨Nat.zero_le _, Nat.zero_le _⟩⟩ (fun r28 => ?_)
        refine j_istore_n (i := 2) (lv' := [some (.ref (E.2.1 0)), some (.int x1), some (.int r28.1)]) C dX6_both5_31 rfl (hn 2 (by decide)) rfl ?_
        refine j_iload_n C dX6_both5_32 rfl rfl ?_
        refine j_if_eq (tgt := 44) C dX6_both5_33 (by decide) ?_ ?_
        · refine j_mask [true, false, false] (lv' := [some (.ref (E.2.1 0)), none, none]) rfl ?_
          exact k44 (F_X6_both5_k5  n) ih r28.2.1 r28.2.2
        · refine j_iload_n C dX6_both5_36 rfl rfl ?_
          refine j_if_eq (tgt := 44) C dX6_both5_37 (by decide) ?_ ?_
          · refine j_mask [true, false, false] (lv' := [some (.ref (E.2.1 0)), none, none]) rfl ?_
            exact k44 (F_X6_both5_k5  n) ih r28.2.1 r28.2.2
          · refine j_iconst (v := (1 : Int32)) C dX6_both5_40 rfl ?_
            refine j_goto (tgt := 45) C dX6_both5_41 (by decide) ?_
            refine j_mask [true, false, false] (lv' := [some (.ref (E.2.1 0)), none, none]) rfl ?_
            exact k45 (F_X6_both5_k5  n) ih r28.2.1 r28.2.2 ((1 : Int32))
  unfold F_X6_both5
  refine j_aload_n C dX6_both5_0 rfl rfl ?_
  refine j_callV_iw (st := []) C dX6_both5_1 (ct_X6_not5 (kγ κ) E M L h0) mi_X6_not5 tw_1043 FC6 (MAt.S h0) rfl rfl (Nat.le_of_ble_eq_true rfl) ⟨⟨rfl, rfl⟩, ⟨Nat.le_of_ble_eq_true rfl, Nat.le_of_ble_eq_true rfl⟩, ⟨Nat.zero_le _, Nat.zero_le _⟩⟩ (fun r1 => ?_)
  refine j_istore_n (i := 1) (lv' := [some (.ref (E.2.1 0)), some (.int r1.1), none]) C dX6_both5_4 rfl (hn 1 (by decide)) rfl ?_
  exact k5 FU r1.2.1 r1.2.2 r1.1
set_option maxRecDepth 100000 in
set_option maxHeartbeats 4000000 in
theorem ct_X6_either5 (γ : Gm) (E : Ev) (M : Mi) (L : Ml)   (h0 : MAt E) : Ct γ yX6_either5 cX6_either5 3 (some .int) ⟨9, 0, 0, 201⟩ [.ref (E.2.1 0)] E M L (Q_iw γ E) 0 0 (F_X6_either5 M L) := by
  refine ct_of (own := RX6) (lv := [some (.ref (E.2.1 0)), none, none]) (by decide +kernel) rfl rfl (Nat.le_of_ble_eq_true rfl) (fun κ C hγ hN => ?_)
  subst hγ
  have hn : ∀ i, i < 3 → i < knL κ := fun i h => by rw [hN]; exact h
  have k44 : ∀ (kf5 : Mi → Ml → Int32 → Option (Int32 × Mi × Ml)), (∀ (M : Mi) (L : Ml) (x1 : Int32), JF κ (PQ κ (Q_iw (kγ κ) E) 0 0) 5 [some (.ref (E.2.1 0)), some (.int x1), none] [] E M L 0 0 (kf5 M L x1)) → ∀ (M : Mi) (L : Ml) (s0 : Int32), JF κ (PQ κ (Q_iw (kγ κ) E) 0 0) 44 [some (.ref (E.2.1 0)), none, none] [.int s0] E M L 0 0 (F_X6_either5_k44 kf5 M L s0) := by
    intro kf5 hkf5 M L s0
    unfold F_X6_either5_k44
    refine j_istore_n (i := 1) (lv' := [some (.ref (E.2.1 0)), some (.int s0), none]) C dX6_either5_44 rfl (hn 1 (by decide)) rfl ?_
    refine j_goto (tgt := 5) C dX6_either5_45 (by decide) ?_
    exact hkf5 M L s0
  have k39 : ∀ (kf5 : Mi → Ml → Int32 → Option (Int32 × Mi × Ml)), (∀ (M : Mi) (L : Ml) (x1 : Int32), JF κ (PQ κ (Q_iw (kγ κ) E) 0 0) 5 [some (.ref (E.2.1 0)), some (.int x1), none] [] E M L 0 0 (kf5 M L x1)) → ∀ (M : Mi) (L : Ml), JF κ (PQ κ (Q_iw (kγ κ) E) 0 0) 39 [some (.ref (E.2.1 0)), none, none] [] E M L 0 0 (F_X6_either5_k39 kf5 M L) := by
    intro kf5 hkf5 M L
    unfold F_X6_either5_k39
    refine j_iconst (v := (1 : Int32)) C dX6_either5_39 rfl ?_
    refine j_goto (tgt := 44) C dX6_either5_40 (by decide) ?_
    exact k44 kf5 hkf5 M L ((1 : Int32))
  have k5 : ∀ (n : Nat) (M : Mi) (L : Ml) (x1 : Int32), JF κ (PQ κ (Q_iw (kγ κ) E) 0 0) 5 [some (.ref (E.2.1 0)), some (.int x1), none] [] E M L 0 0 (F_X6_either5_k5  n M L x1) := by
    intro n
    induction n with
    | zero => intros; exact jf_none
    | succ n ih =>
      intro M L x1
      unfold F_X6_either5_k5
      refine j_aload_n C dX6_either5_5 rfl rfl ?_
      refine j_bipush (v := (111 : Int32)) C dX6_either5_6 (by decide) ?_
      refine j_bipush (v := (114 : Int32)) C dX6_either5_8 (by decide) ?_
      refine j_iconst (v := (0 : Int32)) C dX6_either5_10 rfl ?_
      refine j_iconst (v := (0 : Int32)) C dX6_either5_11 rfl ?_
      refine j_iconst (v := (0 : Int32)) C dX6_either5_12 rfl ?_
      refine j_iconst (v := (0 : Int32)) C dX6_either5_13 rfl ?_
      refine j_pc (pc2 := 14) rfl ?_
      refine j_iconst (v := (0 : Int32)) C dX6_either5_14 rfl ?_
      refine j_iconst (v := (0 : Int32)) C dX6_either5_15 rfl ?_
      refine j_callV_i (st := []) C dX6_either5_16 (ct_X6_isWord (kγ κ) E M L (111 : Int32) (114 : Int32) (0 : Int32) (0 : Int32) (0 : Int32) (0 : Int32) (0 : Int32) (0 : Int32) h0) mi_X6_isWord tw_995 FC6 (MAt.S h0) rfl rfl (Nat.le_of_ble_eq_true rfl) ⟨⟨rfl, rfl⟩, ⟨Nat.le_of_ble_eq_true rfl, Nat.le_of_ble_eq_true rfl⟩, ⟨Nat.zero_le _, Nat.zero_le _⟩⟩ (fun v16 => ?_)
      refine j_if_eq (tgt := 48) C dX6_either5_19 (by decide) ?_ ?_
      · refine j_iload_n C dX6_either5_48 rfl rfl ?_
        exact j_iretw C dX6_either5_49
      · refine j_aload_n C dX6_either5_22 rfl rfl ?_
        refine j_callV_vw (st := []) C dX6_either5_23 (ct_X6_next (kγ κ) E M L h0) mi_X6_next tw_982 FC6 (MAt.S h0) rfl rfl (Nat.le_of_ble_eq_true rfl) ⟨⟨rfl, rfl⟩, ⟨Nat.le_of_ble_eq_true rfl, Nat.le_of_ble_eq_true rfl⟩, ⟨Nat.zero_le _, Nat.zero_le _⟩⟩ (fun r23 => ?_)
        refine j_aload_n C dX6_either5_26 rfl rfl ?_
        refine j_callV_iw (st := []) C dX6_either5_27 (ct_X6_both5 (kγ κ) E r23.1 r23.2 h0) mi_X6_both5 tw_1085 FC6 (MAt.S h0) rfl rfl (Nat.le_of_ble_eq_true rfl) ⟨⟨rfl, rfl⟩, ⟨Nat.le_of_ble_eq_true rfl, Nat.le_of_ble_eq_true rfl⟩, ⟨Nat.zero_le _, Nat.zero_le _⟩⟩ (fun r27 => ?_)
        refine j_istore_n (i := 2) (lv' := [some (.ref (E.2.1 0)), some (.int x1), some (.int r27.1)]) C dX6_either5_30 rfl (hn 2 (by decide)) rfl ?_
        refine j_iload_n C dX6_either5_31 rfl rfl ?_
        refine j_if_ne (tgt := 39) C dX6_either5_32 (by decide) ?_ ?_
        · refine j_mask [true, false, false] (lv' := [some (.ref (E.2.1 0)), none, none]) rfl ?_
          exact k39 (F_X6_either5_k5  n) ih r27.2.1 r27.2.2
        · refine j_iload_n C dX6_either5_35 rfl rfl ?_
          refine j_if_eq (tgt := 43) C dX6_either5_36 (by decide) ?_ ?_
          · refine j_iconst (v := (0 : Int32)) C dX6_either5_43 rfl ?_
            refine j_mask [true, false, false] (lv' := [some (.ref (E.2.1 0)), none, none]) rfl ?_
            exact k44 (F_X6_either5_k5  n) ih r27.2.1 r27.2.2 ((0 : Int32))
          · refine j_mask [true, false, false] (lv' := [some (.ref (E.2.1 0)), none, none]) rfl ?_
            exact k39 (F_X6_either5_k5  n) ih r27.2.1 r27.2.2
  unfold F_X6_either5
  refine j_aload_n C dX6_either5_0 rfl rfl ?_
  refine j_callV_iw (st := []) C dX6_either5_1 (ct_X6_both5 (kγ κ) E M L h0) mi_X6_both5 tw_1085 FC6 (MAt.S h0) rfl rfl (Nat.le_of_ble_eq_true rfl) ⟨⟨rfl, rfl⟩, ⟨Nat.le_of_ble_eq_true rfl, Nat.le_of_ble_eq_true rfl⟩, ⟨Nat.zero_le _, Nat.zero_le _⟩⟩ (fun r1 => ?_)
  refine j_istore_n (i := 1) (lv' := [some (.ref (E.2.1 0)), some (.int r1.1), none]) C dX6_either5_4 rfl (hn 1 (by decide)) rfl ?_
  exact k5 FU r1.2.1 r1.2.2 r1.1
set_option maxRecDepth 100000 in
set_option maxHeartbeats 4000000 in
theorem ct_X6_atom4 (γ : Gm) (E : Ev) (M : Mi) (L : Ml)   (h0 : MAt E) : Ct γ yX6_atom4 cX6_atom4 2 (some .int) ⟨10, 0, 0, 223⟩ [.ref (E.2.1 0)] E M L (Q_iw γ E) 0 0 (F_X6_atom4 M L) := by
  refine ct_of (own := RX6) (lv := [some (.ref (E.2.1 0)), none]) (by decide +kernel) rfl rfl (Nat.le_of_ble_eq_true rfl) (fun κ C hγ hN => ?_)
  subst hγ
  have hn : ∀ i, i < 2 → i < knL κ := fun i h => by rw [hN]; exact h
  have k157 : ∀ (M : Mi) (L : Ml) (x1 : Int32), JF κ (PQ κ (Q_iw (kγ κ) E) 0 0) 157 [some (.ref (E.2.1 0)), some (.int x1)] [] E M L 0 0 (F_X6_atom4_k157  M L x1) := by
    intro M L x1
    unfold F_X6_atom4_k157
    refine j_aload_n C dX6_atom4_157 rfl rfl ?_
    refine j_callV_vw (st := []) C dX6_atom4_158 (ct_X6_fail (kγ κ) E M L h0) mi_X6_fail tw_1007 FC6 (MAt.S h0) rfl rfl (Nat.le_of_ble_eq_true rfl) ⟨⟨rfl, rfl⟩, ⟨Nat.le_of_ble_eq_true rfl, Nat.le_of_ble_eq_true rfl⟩, ⟨Nat.zero_le _, Nat.zero_le _⟩⟩ (fun r158 => ?_)
    refine j_iload_n C dX6_atom4_161 rfl rfl ?_
    exact j_iretw C dX6_atom4_162
  have k123 : ∀ (M : Mi) (L : Ml) (x1 : Int32), JF κ (PQ κ (Q_iw (kγ κ) E) 0 0) 123 [some (.ref (E.2.1 0)), some (.int x1)] [] E M L 0 0 (F_X6_atom4_k123  M L x1) := by
    intro M L x1
    unfold F_X6_atom4_k123
    refine j_aload_n C dX6_atom4_123 rfl rfl ?_
    refine j_getI (j := 26) C dX6_atom4_124 FC6 (MAt.S h0) (by decide) rfl tw_829 ?_
    refine j_if_ne (tgt := 157) C dX6_atom4_127 (by decide) ?_ ?_
    · exact k157 M L x1
    · refine j_aload_n C dX6_atom4_130 rfl rfl ?_
      refine j_getI (j := 22) C dX6_atom4_131 FC6 (MAt.S h0) (by decide) rfl tw_825 ?_
      refine j_iconst (v := (1 : Int32)) C dX6_atom4_134 rfl ?_
      refine j_icmp_ne (tgt := 157) C dX6_atom4_135 (by decide) ?_ ?_
      · exact k157 M L x1
      · refine j_aload_n C dX6_atom4_138 rfl rfl ?_
        refine j_callV_iw (st := []) C dX6_atom4_139 (ct_X6_name (kγ κ) E M L h0) mi_X6_name tw_1063 FC6 (MAt.S h0) rfl rfl (Nat.le_of_ble_eq_true rfl) ⟨⟨rfl, rfl⟩, ⟨Nat.le_of_ble_eq_true rfl, Nat.le_of_ble_eq_true rfl⟩, ⟨Nat.zero_le _, Nat.zero_le _⟩⟩ (fun r139 => ?_)
        refine j_istore_n (i := 1) (lv' := [some (.ref (E.2.1 0)), some (.int r139.1)]) C dX6_atom4_142 rfl (hn 1 (by decide)) rfl ?_
        refine j_aload_n C dX6_atom4_143 rfl rfl ?_
        refine j_getI (j := 26) C dX6_atom4_144 FC6 (MAt.S h0) (by decide) rfl tw_829 ?_
        refine j_if_ne (tgt := 161) C dX6_atom4_147 (by decide) ?_ ?_
        · refine j_iload_n C dX6_atom4_161 rfl rfl ?_
          exact j_iretw C dX6_atom4_162
        · refine j_aload_n C dX6_atom4_150 rfl rfl ?_
          refine j_callV_vw (st := []) C dX6_atom4_151 (ct_X6_next (kγ κ) E r139.2.1 r139.2.2 h0) mi_X6_next tw_982 FC6 (MAt.S h0) rfl rfl (Nat.le_of_ble_eq_true rfl) ⟨⟨rfl, rfl⟩, ⟨Nat.le_of_ble_eq_true rfl, Nat.le_of_ble_eq_true rfl⟩, ⟨Nat.zero_le _, Nat.zero_le _⟩⟩ (fun r151 => ?_)
          refine j_goto (tgt := 161) C dX6_atom4_154 (by decide) ?_
          refine j_iload_n C dX6_atom4_161 rfl rfl ?_
          exact j_iretw C dX6_atom4_162
  have k71 : ∀ (M : Mi) (L : Ml) (x1 : Int32), JF κ (PQ κ (Q_iw (kγ κ) E) 0 0) 71 [some (.ref (E.2.1 0)), some (.int x1)] [] E M L 0 0 (F_X6_atom4_k71  M L x1) := by
    intro M L x1
    unfold F_X6_atom4_k71
    refine j_aload_n C dX6_atom4_71 rfl rfl ?_
    refine j_dup C dX6_atom4_72 rfl ?_
    refine j_getI (j := 25) C dX6_atom4_73 FC6 (MAt.S h0) (by decide) rfl tw_828 ?_
    refine j_iconst (v := (1 : Int32)) C dX6_atom4_76 rfl ?_
    refine j_isub C dX6_atom4_77 ?_
    refine j_putI (j := 25) C dX6_atom4_78 FC6 (MAt.S h0) (by decide) rfl rfl rfl rfl tw_828 ?_
    refine j_aload_n C dX6_atom4_81 rfl rfl ?_
    refine j_pc (pc2 := 82) rfl ?_
    refine j_getI (j := 26) C dX6_atom4_82 FC6 (MAt.S h0) (by decide) rfl tw_829 ?_
    refine j_if_ne (tgt := 161) C dX6_atom4_85 (by decide) ?_ ?_
    · refine j_iload_n C dX6_atom4_161 rfl rfl ?_
      exact j_iretw C dX6_atom4_162
    · refine j_aload_n C dX6_atom4_88 rfl rfl ?_
      refine j_callV_vw (st := []) C dX6_atom4_89 (ct_X6_next (kγ κ) E (up2 M 0 25 ((M 0 25) - (1 : Int32))) L h0) mi_X6_next tw_982 FC6 (MAt.S h0) rfl rfl (Nat.le_of_ble_eq_true rfl) ⟨⟨rfl, rfl⟩, ⟨Nat.le_of_ble_eq_true rfl, Nat.le_of_ble_eq_true rfl⟩, ⟨Nat.zero_le _, Nat.zero_le _⟩⟩ (fun r89 => ?_)
      refine j_goto (tgt := 161) C dX6_atom4_92 (by decide) ?_
      refine j_iload_n C dX6_atom4_161 rfl rfl ?_
      exact j_iretw C dX6_atom4_162
  unfold F_X6_atom4
  refine j_iconst (v := (0 : Int32)) C dX6_atom4_0 rfl ?_
  refine j_istore_n (i := 1) (lv' := [some (.ref (E.2.1 0)), some (.int (0 : Int32))]) C dX6_atom4_1 rfl (hn 1 (by decide)) rfl ?_
  refine j_aload_n C dX6_atom4_2 rfl rfl ?_
  refine j_bipush (v := (45 : Int32)) C dX6_atom4_3 (by decide) ?_
  refine j_callV_i (st := []) C dX6_atom4_5 (ct_X6_isSign (kγ κ) E M L (45 : Int32) h0) mi_X6_isSign tw_1059 FC6 (MAt.S h0) rfl rfl (Nat.le_of_ble_eq_true rfl) ⟨⟨rfl, rfl⟩, ⟨Nat.le_of_ble_eq_true rfl, Nat.le_of_ble_eq_true rfl⟩, ⟨Nat.zero_le _, Nat.zero_le _⟩⟩ (fun v5 => ?_)
  refine j_if_eq (tgt := 37) C dX6_atom4_8 (by decide) ?_ ?_
  · refine j_aload_n C dX6_atom4_37 rfl rfl ?_
    refine j_bipush (v := (40 : Int32)) C dX6_atom4_38 (by decide) ?_
    refine j_callV_i (st := []) C dX6_atom4_40 (ct_X6_isSign (kγ κ) E M L (40 : Int32) h0) mi_X6_isSign tw_1059 FC6 (MAt.S h0) rfl rfl (Nat.le_of_ble_eq_true rfl) ⟨⟨rfl, rfl⟩, ⟨Nat.le_of_ble_eq_true rfl, Nat.le_of_ble_eq_true rfl⟩, ⟨Nat.zero_le _, Nat.zero_le _⟩⟩ (fun v40 => ?_)
    refine j_if_eq (tgt := 95) C dX6_atom4_43 (by decide) ?_ ?_
    · refine j_aload_n C dX6_atom4_95 rfl rfl ?_
      refine j_getI (j := 26) C dX6_atom4_96 FC6 (MAt.S h0) (by decide) rfl tw_829 ?_
      refine j_if_ne (tgt := 123) C dX6_atom4_99 (by decide) ?_ ?_
      · exact k123 M L ((0 : Int32))
      · refine j_aload_n C dX6_atom4_102 rfl rfl ?_
        refine j_getI (j := 22) C dX6_atom4_103 FC6 (MAt.S h0) (by decide) rfl tw_825 ?_
        refine j_iconst (v := (2 : Int32)) C dX6_atom4_106 rfl ?_
        refine j_icmp_ne (tgt := 123) C dX6_atom4_107 (by decide) ?_ ?_
        · exact k123 M L ((0 : Int32))
        · refine j_aload_n C dX6_atom4_110 rfl rfl ?_
          refine j_getL (j := 24) C dX6_atom4_111 FC6 (MAt.S h0) (by decide) rfl tw_827 ?_
          refine j_l2i C dX6_atom4_114 ?_
          refine j_istore_n (i := 1) (lv' := [some (.ref (E.2.1 0)), some (.int (Int64.toInt32 (L 0 24)))]) C dX6_atom4_115 rfl (hn 1 (by decide)) rfl ?_
          refine j_aload_n C dX6_atom4_116 rfl rfl ?_
          refine j_callV_vw (st := []) C dX6_atom4_117 (ct_X6_next (kγ κ) E M L h0) mi_X6_next tw_982 FC6 (MAt.S h0) rfl rfl (Nat.le_of_ble_eq_true rfl) ⟨⟨rfl, rfl⟩, ⟨Nat.le_of_ble_eq_true rfl, Nat.le_of_ble_eq_true rfl⟩, ⟨Nat.zero_le _, Nat.zero_le _⟩⟩ (fun r117 => ?_)
          refine j_goto (tgt := 161) C dX6_atom4_120 (by decide) ?_
          refine j_iload_n C dX6_atom4_161 rfl rfl ?_
          exact j_iretw C dX6_atom4_162
    · refine j_aload_n C dX6_atom4_46 rfl rfl ?_
      refine j_callV_iw (st := []) C dX6_atom4_47 (ct_X6_opens (kγ κ) E M L h0) mi_X6_opens tw_1023 FC6 (MAt.S h0) rfl rfl (Nat.le_of_ble_eq_true rfl) ⟨⟨rfl, rfl⟩, ⟨Nat.le_of_ble_eq_true rfl, Nat.le_of_ble_eq_true rfl⟩, ⟨Nat.zero_le _, Nat.zero_le _⟩⟩ (fun r47 => ?_)
      refine j_if_eq (tgt := 161) C dX6_atom4_50 (by decide) ?_ ?_
      · refine j_iload_n C dX6_atom4_161 rfl rfl ?_
        exact j_iretw C dX6_atom4_162
      · refine j_aload_n C dX6_atom4_53 rfl rfl ?_
        refine j_callV_iw (st := []) C dX6_atom4_54 (ct_X6_either5 (kγ κ) E r47.2.1 r47.2.2 h0) mi_X6_either5 tw_1081 FC6 (MAt.S h0) rfl rfl (Nat.le_of_ble_eq_true rfl) ⟨⟨rfl, rfl⟩, ⟨Nat.le_of_ble_eq_true rfl, Nat.le_of_ble_eq_true rfl⟩, ⟨Nat.zero_le _, Nat.zero_le _⟩⟩ (fun r54 => ?_)
        refine j_istore_n (i := 1) (lv' := [some (.ref (E.2.1 0)), some (.int r54.1)]) C dX6_atom4_57 rfl (hn 1 (by decide)) rfl ?_
        refine j_aload_n C dX6_atom4_58 rfl rfl ?_
        refine j_bipush (v := (41 : Int32)) C dX6_atom4_59 (by decide) ?_
        refine j_callV_i (st := []) C dX6_atom4_61 (ct_X6_isSign (kγ κ) E r54.2.1 r54.2.2 (41 : Int32) h0) mi_X6_isSign tw_1059 FC6 (MAt.S h0) rfl rfl (Nat.le_of_ble_eq_true rfl) ⟨⟨rfl, rfl⟩, ⟨Nat.le_of_ble_eq_true rfl, Nat.le_of_ble_eq_true rfl⟩, ⟨Nat.zero_le _, Nat.zero_le _⟩⟩ (fun v61 => ?_)
        refine j_if_ne (tgt := 71) C dX6_atom4_64 (by decide) ?_ ?_
        · exact k71 r54.2.1 r54.2.2 r54.1
        · refine j_aload_n C dX6_atom4_67 rfl rfl ?_
          refine j_callV_vw (st := []) C dX6_atom4_68 (ct_X6_fail (kγ κ) E r54.2.1 r54.2.2 h0) mi_X6_fail tw_1007 FC6 (MAt.S h0) rfl rfl (Nat.le_of_ble_eq_true rfl) ⟨⟨rfl, rfl⟩, ⟨Nat.le_of_ble_eq_true rfl, Nat.le_of_ble_eq_true rfl⟩, ⟨Nat.zero_le _, Nat.zero_le _⟩⟩ (fun r68 => ?_)
          exact k71 r68.1 r68.2 r54.1
  · refine j_aload_n C dX6_atom4_11 rfl rfl ?_
    refine j_callV_iw (st := []) C dX6_atom4_12 (ct_X6_opens (kγ κ) E M L h0) mi_X6_opens tw_1023 FC6 (MAt.S h0) rfl rfl (Nat.le_of_ble_eq_true rfl) ⟨⟨rfl, rfl⟩, ⟨Nat.le_of_ble_eq_true rfl, Nat.le_of_ble_eq_true rfl⟩, ⟨Nat.zero_le _, Nat.zero_le _⟩⟩ (fun r12 => ?_)
    refine j_if_eq (tgt := 161) C dX6_atom4_15 (by decide) ?_ ?_
    · refine j_iload_n C dX6_atom4_161 rfl rfl ?_
      exact j_iretw C dX6_atom4_162
    · refine j_aload_n C dX6_atom4_18 rfl rfl ?_
      refine j_callV_iw (st := []) C dX6_atom4_19 (ct_X6_atom5 (kγ κ) E r12.2.1 r12.2.2 h0) mi_X6_atom5 tw_1055 FC6 (MAt.S h0) rfl rfl (Nat.le_of_ble_eq_true rfl) ⟨⟨rfl, rfl⟩, ⟨Nat.le_of_ble_eq_true rfl, Nat.le_of_ble_eq_true rfl⟩, ⟨Nat.zero_le _, Nat.zero_le _⟩⟩ (fun r19 => ?_)
      refine j_ineg C dX6_atom4_22 ?_
      refine j_istore_n (i := 1) (lv' := [some (.ref (E.2.1 0)), some (.int (-r19.1))]) C dX6_atom4_23 rfl (hn 1 (by decide)) rfl ?_
      refine j_aload_n C dX6_atom4_24 rfl rfl ?_
      refine j_dup C dX6_atom4_25 rfl ?_
      refine j_getI (j := 25) C dX6_atom4_26 FC6 (MAt.S h0) (by decide) rfl tw_828 ?_
      refine j_pc (pc2 := 29) rfl ?_
      refine j_iconst (v := (1 : Int32)) C dX6_atom4_29 rfl ?_
      refine j_isub C dX6_atom4_30 ?_
      refine j_putI (j := 25) C dX6_atom4_31 FC6 (MAt.S h0) (by decide) rfl rfl rfl rfl tw_828 ?_
      refine j_goto (tgt := 161) C dX6_atom4_34 (by decide) ?_
      refine j_iload_n C dX6_atom4_161 rfl rfl ?_
      exact j_iretw C dX6_atom4_162
set_option maxRecDepth 100000 in
set_option maxHeartbeats 4000000 in
theorem ct_X6_term4 (γ : Gm) (E : Ev) (M : Mi) (L : Ml)   (h0 : MAt E) : Ct γ yX6_term4 cX6_term4 2 (some .int) ⟨11, 0, 0, 244⟩ [.ref (E.2.1 0)] E M L (Q_iw γ E) 0 0 (F_X6_term4 M L) := by
  refine ct_of (own := RX6) (lv := [some (.ref (E.2.1 0)), none]) (by decide +kernel) rfl rfl (Nat.le_of_ble_eq_true rfl) (fun κ C hγ hN => ?_)
  subst hγ
  have hn : ∀ i, i < 2 → i < knL κ := fun i h => by rw [hN]; exact h
  have k5 : ∀ (n : Nat) (M : Mi) (L : Ml) (x1 : Int32), JF κ (PQ κ (Q_iw (kγ κ) E) 0 0) 5 [some (.ref (E.2.1 0)), some (.int x1)] [] E M L 0 0 (F_X6_term4_k5  n M L x1) := by
    intro n
    induction n with
    | zero => intros; exact jf_none
    | succ n ih =>
      intro M L x1
      unfold F_X6_term4_k5
      refine j_aload_n C dX6_term4_5 rfl rfl ?_
      refine j_bipush (v := (42 : Int32)) C dX6_term4_6 (by decide) ?_
      refine j_callV_i (st := []) C dX6_term4_8 (ct_X6_isSign (kγ κ) E M L (42 : Int32) h0) mi_X6_isSign tw_1059 FC6 (MAt.S h0) rfl rfl (Nat.le_of_ble_eq_true rfl) ⟨⟨rfl, rfl⟩, ⟨Nat.le_of_ble_eq_true rfl, Nat.le_of_ble_eq_true rfl⟩, ⟨Nat.zero_le _, Nat.zero_le _⟩⟩ (fun v8 => ?_)
      refine j_if_eq (tgt := 28) C dX6_term4_11 (by decide) ?_ ?_
      · refine j_iload_n C dX6_term4_28 rfl rfl ?_
        exact j_iretw C dX6_term4_29
      · refine j_aload_n C dX6_term4_14 rfl rfl ?_
        refine j_callV_vw (st := []) C dX6_term4_15 (ct_X6_next (kγ κ) E M L h0) mi_X6_next tw_982 FC6 (MAt.S h0) rfl rfl (Nat.le_of_ble_eq_true rfl) ⟨⟨rfl, rfl⟩, ⟨Nat.le_of_ble_eq_true rfl, Nat.le_of_ble_eq_true rfl⟩, ⟨Nat.zero_le _, Nat.zero_le _⟩⟩ (fun r15 => ?_)
        refine j_iload_n C dX6_term4_18 rfl rfl ?_
        refine j_aload_n C dX6_term4_19 rfl rfl ?_
        refine j_callV_iw (st := [.int x1]) C dX6_term4_20 (ct_X6_atom4 (kγ κ) E r15.1 r15.2 h0) mi_X6_atom4 tw_1077 FC6 (MAt.S h0) rfl rfl (Nat.le_of_ble_eq_true rfl) ⟨⟨rfl, rfl⟩, ⟨Nat.le_of_ble_eq_true rfl, Nat.le_of_ble_eq_true rfl⟩, ⟨Nat.zero_le _, Nat.zero_le _⟩⟩ (fun r20 => ?_)
        refine j_imul C dX6_term4_23 ?_
        refine j_istore_n (i := 1) (lv' := [some (.ref (E.2.1 0)), some (.int (x1 * r20.1))]) C dX6_term4_24 rfl (hn 1 (by decide)) rfl ?_
        refine j_pc (pc2 := 25) rfl ?_
        refine j_goto (tgt := 5) C dX6_term4_25 (by decide) ?_
        exact ih r20.2.1 r20.2.2 ((x1 * r20.1))
  unfold F_X6_term4
  refine j_aload_n C dX6_term4_0 rfl rfl ?_
  refine j_callV_iw (st := []) C dX6_term4_1 (ct_X6_atom4 (kγ κ) E M L h0) mi_X6_atom4 tw_1077 FC6 (MAt.S h0) rfl rfl (Nat.le_of_ble_eq_true rfl) ⟨⟨rfl, rfl⟩, ⟨Nat.le_of_ble_eq_true rfl, Nat.le_of_ble_eq_true rfl⟩, ⟨Nat.zero_le _, Nat.zero_le _⟩⟩ (fun r1 => ?_)
  refine j_istore_n (i := 1) (lv' := [some (.ref (E.2.1 0)), some (.int r1.1)]) C dX6_term4_4 rfl (hn 1 (by decide)) rfl ?_
  exact k5 FU r1.2.1 r1.2.2 r1.1
