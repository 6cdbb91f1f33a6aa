set_option maxRecDepth 100000 in
set_option maxHeartbeats 4000000 in
theorem ct_X5_meet (γ : Gm) (E : Ev) (M : Mi) (L : Ml)  (x1 : Int32) (x2 : Int32) (h0 : XAt E) : Ct γ yX5_meet cX5_meet 4 (some .int) ⟨6, 0, 0, 143⟩ [.ref (E.2.1 0), .int x1, .int x2] E M L (Q_iw γ E) 0 0 (F_X5_meet E M L x1 x2) := by
  refine ct_of (own := RX5) (lv := [some (.ref (E.2.1 0)), some (.int x1), some (.int x2), none]) (by decide +kernel) rfl rfl (Nat.le_of_ble_eq_true rfl) (fun κ C hγ hN => ?_)
  subst hγ
  have hn : ∀ i, i < 4 → i < knL κ := fun i h => by rw [hN]; exact h
  have k37 : ∀ (n : Nat) (M : Mi) (L : Ml) (x1 : Int32) (x2 : Int32) (x3 : Int32), JF κ (PQ κ (Q_iw (kγ κ) E) 0 0) 37 [some (.ref (E.2.1 0)), some (.int x1), some (.int x2), some (.int x3)] [] E M L 0 0 (F_X5_meet_k37 E n M L x1 x2 x3) := by
    intro n
    induction n with
    | zero => intros; exact jf_none
    | succ n ih =>
      intro M L x1 x2 x3
      unfold F_X5_meet_k37
      refine j_iload_n C dX5_meet_37 rfl rfl ?_
      refine j_bipush (v := (60 : Int32)) C dX5_meet_38 (by decide) ?_
      refine j_icmp_gt (tgt := 86) C dX5_meet_40 (by decide) ?_ ?_
      · refine j_iconst (v := (-1 : Int32)) C dX5_meet_86 rfl ?_
        exact j_iretw C dX5_meet_87
      · refine j_aload_n C dX5_meet_43 rfl rfl ?_
        refine j_getR (j := 1) C dX5_meet_44 FC5 (XAt.S h0) (by decide) rfl (XAt.R_thought h0) tw_427 ?_
        refine j_getR (j := 7) C dX5_meet_47 FC0 (FAt.S (XAt.P_thought h0)) (by decide) rfl (FAt.R_on (XAt.P_thought h0)) tw_148 ?_
        refine j_iload_n C dX5_meet_50 rfl rfl ?_
        refine j_iald C dX5_meet_51 (FAt.P_on (XAt.P_thought h0)) ?_
        refine j_aload_n C dX5_meet_52 rfl rfl ?_
        refine j_getR (j := 1) C dX5_meet_53 FC5 (XAt.S h0) (by decide) rfl (XAt.R_thought h0) tw_427 ?_
        refine j_pc (pc2 := 56) rfl ?_
        refine j_getR (j := 7) C dX5_meet_56 FC0 (FAt.S (XAt.P_thought h0)) (by decide) rfl (FAt.R_on (XAt.P_thought h0)) tw_148 ?_
        refine j_iload_n C dX5_meet_59 rfl rfl ?_
        refine j_iald C dX5_meet_60 (FAt.P_on (XAt.P_thought h0)) ?_
        refine j_icmp_ne (tgt := 66) C dX5_meet_61 (by decide) ?_ ?_
        · refine j_aload_n C dX5_meet_66 rfl rfl ?_
          refine j_getR (j := 4) C dX5_meet_67 FC5 (XAt.S h0) (by decide) rfl (XAt.R_law h0) tw_430 ?_
          refine j_aload_n C dX5_meet_70 rfl rfl ?_
          refine j_getR (j := 1) C dX5_meet_71 FC5 (XAt.S h0) (by decide) rfl (XAt.R_thought h0) tw_427 ?_
          refine j_iconst (v := (1 : Int32)) C dX5_meet_74 rfl ?_
          refine j_iconst (v := (-1 : Int32)) C dX5_meet_75 rfl ?_
          refine j_callV_iw (st := []) C dX5_meet_76 (ct_X1_passMinutes (kγ κ) E M L 6 (1 : Int32) (-1 : Int32) (XAt.P_law h0) (XAt.P_thought h0)) mi_X1_passMinutes tw_625 FC1 (LAt.S (XAt.P_law h0)) rfl rfl (Nat.le_of_ble_eq_true rfl) ⟨⟨rfl, rfl⟩, ⟨Nat.le_of_ble_eq_true rfl, Nat.le_of_ble_eq_true rfl⟩, ⟨Nat.zero_le _, Nat.zero_le _⟩⟩ (fun r76 => ?_)
          refine j_pc (pc2 := 79) rfl ?_
          refine j_pop C dX5_meet_79 rfl ?_
          refine j_iinc (i := 3) (v := (x3 + (1 : Int32))) (lv' := [some (.ref (E.2.1 0)), some (.int x1), some (.int x2), some (.int (x3 + (1 : Int32)))]) C dX5_meet_80 rfl rfl (hn 3 (by decide)) rfl ?_
          refine j_goto (tgt := 37) C dX5_meet_83 (by decide) ?_
          exact ih r76.2.1 r76.2.2 x1 x2 ((x3 + (1 : Int32)))
        · refine j_iload_n C dX5_meet_64 rfl rfl ?_
          exact j_iretw C dX5_meet_65
  unfold F_X5_meet
  refine j_aload_n C dX5_meet_0 rfl rfl ?_
  refine j_iload_n C dX5_meet_1 rfl rfl ?_
  refine j_callV_i (st := []) C dX5_meet_2 (ct_X5_isParty (kγ κ) E M L x1 h0) mi_X5_isParty tw_469 FC5 (XAt.S h0) rfl rfl (Nat.le_of_ble_eq_true rfl) ⟨⟨rfl, rfl⟩, ⟨Nat.le_of_ble_eq_true rfl, Nat.le_of_ble_eq_true rfl⟩, ⟨Nat.zero_le _, Nat.zero_le _⟩⟩ (fun v2 => ?_)
  refine j_if_eq (tgt := 21) C dX5_meet_5 (by decide) ?_ ?_
  · refine j_bipush (v := (-2 : Int32)) C dX5_meet_21 (by decide) ?_
    exact j_iretw C dX5_meet_23
  · refine j_aload_n C dX5_meet_8 rfl rfl ?_
    refine j_iload_n C dX5_meet_9 rfl rfl ?_
    refine j_callV_i (st := []) C dX5_meet_10 (ct_X5_isParty (kγ κ) E M L x2 h0) mi_X5_isParty tw_469 FC5 (XAt.S h0) rfl rfl (Nat.le_of_ble_eq_true rfl) ⟨⟨rfl, rfl⟩, ⟨Nat.le_of_ble_eq_true rfl, Nat.le_of_ble_eq_true rfl⟩, ⟨Nat.zero_le _, Nat.zero_le _⟩⟩ (fun v10 => ?_)
    refine j_if_eq (tgt := 21) C dX5_meet_13 (by decide) ?_ ?_
    · refine j_bipush (v := (-2 : Int32)) C dX5_meet_21 (by decide) ?_
      exact j_iretw C dX5_meet_23
    · refine j_iload_n C dX5_meet_16 rfl rfl ?_
      refine j_iload_n C dX5_meet_17 rfl rfl ?_
      refine j_icmp_ne (tgt := 24) C dX5_meet_18 (by decide) ?_ ?_
      · refine j_aload_n C dX5_meet_24 rfl rfl ?_
        refine j_getR (j := 1) C dX5_meet_25 FC5 (XAt.S h0) (by decide) rfl (XAt.R_thought h0) tw_427 ?_
        refine j_aload_n C dX5_meet_28 rfl rfl ?_
        refine j_getR (j := 0) C dX5_meet_29 FC5 (XAt.S h0) (by decide) rfl (XAt.R_now h0) tw_426 ?_
        refine j_callV_vw (st := []) C dX5_meet_32 (ct_X0_become (kγ κ) E M L 6 1 (XAt.P_thought h0) (XAt.P_now h0)) mi_X0_become tw_643 FC0 (FAt.S (XAt.P_thought h0)) rfl rfl (Nat.le_of_ble_eq_true rfl) ⟨⟨rfl, rfl⟩, ⟨Nat.le_of_ble_eq_true rfl, Nat.le_of_ble_eq_true rfl⟩, ⟨Nat.zero_le _, Nat.zero_le _⟩⟩ (fun r32 => ?_)
        refine j_iconst (v := (0 : Int32)) C dX5_meet_35 rfl ?_
        refine j_istore_n (i := 3) (lv' := [some (.ref (E.2.1 0)), some (.int x1), some (.int x2), some (.int (0 : Int32))]) C dX5_meet_36 rfl (hn 3 (by decide)) rfl ?_
        exact k37 FU r32.1 r32.2 x1 x2 ((0 : Int32))
      · refine j_bipush (v := (-2 : Int32)) C dX5_meet_21 (by decide) ?_
        exact j_iretw C dX5_meet_23
set_option maxRecDepth 100000 in
set_option maxHeartbeats 4000000 in
theorem ct_X5_reached (γ : Gm) (E : Ev) (M : Mi) (L : Ml)  (x1 : Int32) (x2 : Int32) (h0 : XAt E) : Ct γ yX5_reached cX5_reached 6 (some .long) ⟨4, 0, 0, 98⟩ [.ref (E.2.1 0), .int x1, .int x2] E M L (Q_l γ E M L) 0 0 (F_X5_reached M L x1 x2) := by
  refine ct_of (own := RX5) (lv := [some (.ref (E.2.1 0)), some (.int x1), some (.int x2), none, none, none]) (by decide +kernel) rfl rfl (Nat.le_of_ble_eq_true rfl) (fun κ C hγ hN => ?_)
  subst hγ
  have hn : ∀ i, i < 6 → i < knL κ := fun i h => by rw [hN]; exact h
  have k36 : ∀ (n : Nat) (x1 : Int32) (x2 : Int32) (x3 : Int64) (x5 : Int32), JF κ (PQ κ (Q_l (kγ κ) E M L) 0 0) 36 [some (.ref (E.2.1 0)), some (.int x1), some (.int x2), some (.long x3), none, some (.int x5)] [] E M L 0 0 (F_X5_reached_k36 M L n x1 x2 x3 x5) := by
    intro n
    induction n with
    | zero => intros; exact jf_none
    | succ n ih =>
      intro x1 x2 x3 x5
      unfold F_X5_reached_k36
      refine j_iload C dX5_reached_36 rfl ?_
      refine j_iload_n C dX5_reached_38 rfl rfl ?_
      refine j_icmp_ge (tgt := 58) C dX5_reached_39 (by decide) ?_ ?_
      · refine j_lload_n C dX5_reached_58 rfl rfl ?_
        exact j_lret C dX5_reached_59
      · refine j_aload_n C dX5_reached_42 rfl rfl ?_
        refine j_getR (j := 0) C dX5_reached_43 FC5 (XAt.S h0) (by decide) rfl (XAt.R_now h0) tw_426 ?_
        refine j_iload_n C dX5_reached_46 rfl rfl ?_
        refine j_lload_n C dX5_reached_47 rfl rfl ?_
        refine j_callV_l (st := []) C dX5_reached_48 (ct_X0_aLeapFurther (kγ κ) E M L 1 x1 x3 (XAt.P_now h0)) mi_X0_aLeapFurther tw_665 FC0 (FAt.S (XAt.P_now h0)) rfl rfl (Nat.le_of_ble_eq_true rfl) ⟨⟨rfl, rfl⟩, ⟨Nat.le_of_ble_eq_true rfl, Nat.le_of_ble_eq_true rfl⟩, ⟨Nat.zero_le _, Nat.zero_le _⟩⟩ (fun v48 => ?_)
        refine j_lstore_n (i := 3) (lv' := [some (.ref (E.2.1 0)), some (.int x1), some (.int x2), some (.long v48), none, some (.int x5)]) C dX5_reached_51 rfl (hn 4 (by decide)) rfl ?_
        refine j_iinc (i := 5) (v := (x5 + (1 : Int32))) (lv' := [some (.ref (E.2.1 0)), some (.int x1), some (.int x2), some (.long v48), none, some (.int (x5 + (1 : Int32)))]) C dX5_reached_52 rfl rfl (hn 5 (by decide)) rfl ?_
        refine j_pc (pc2 := 55) rfl ?_
        refine j_goto (tgt := 36) C dX5_reached_55 (by decide) ?_
        exact ih x1 x2 v48 ((x5 + (1 : Int32)))
  unfold F_X5_reached
  refine j_aload_n C dX5_reached_0 rfl rfl ?_
  refine j_iload_n C dX5_reached_1 rfl rfl ?_
  refine j_callV_i (st := []) C dX5_reached_2 (ct_X5_isParty (kγ κ) E M L x1 h0) mi_X5_isParty tw_469 FC5 (XAt.S h0) rfl rfl (Nat.le_of_ble_eq_true rfl) ⟨⟨rfl, rfl⟩, ⟨Nat.le_of_ble_eq_true rfl, Nat.le_of_ble_eq_true rfl⟩, ⟨Nat.zero_le _, Nat.zero_le _⟩⟩ (fun v2 => ?_)
  refine j_if_eq (tgt := 17) C dX5_reached_5 (by decide) ?_ ?_
  · refine j_ldc2 (v := (-4611686018427387904 : Int64)) C dX5_reached_17 tw_604 ?_
    exact j_lret C dX5_reached_20
  · refine j_iload_n C dX5_reached_8 rfl rfl ?_
    refine j_bipush (v := (63 : Int32)) C dX5_reached_9 (by decide) ?_
    refine j_callS_i (st := []) C dX5_reached_11 (ct_X5_isWithin (kγ κ) E M L x2 (63 : Int32)) mi_X5_isWithin tw_459 rfl rfl (Nat.le_of_ble_eq_true rfl) ⟨⟨rfl, rfl⟩, ⟨Nat.le_of_ble_eq_true rfl, Nat.le_of_ble_eq_true rfl⟩, ⟨Nat.zero_le _, Nat.zero_le _⟩⟩ (fun v11 => ?_)
    refine j_if_ne (tgt := 21) C dX5_reached_14 (by decide) ?_ ?_
    · refine j_lconst (v := (1 : Int64)) C dX5_reached_21 rfl ?_
      refine j_aload_n C dX5_reached_22 rfl rfl ?_
      refine j_getR (j := 0) C dX5_reached_23 FC5 (XAt.S h0) (by decide) rfl (XAt.R_now h0) tw_426 ?_
      refine j_getR (j := 7) C dX5_reached_26 FC0 (FAt.S (XAt.P_now h0)) (by decide) rfl (FAt.R_on (XAt.P_now h0)) tw_148 ?_
      refine j_iload_n C dX5_reached_29 rfl rfl ?_
      refine j_iald C dX5_reached_30 (FAt.P_on (XAt.P_now h0)) ?_
      refine j_lshl C dX5_reached_31 ?_
      refine j_pc (pc2 := 32) rfl ?_
      refine j_nml (fun z32 => ?_)
      refine j_lstore_n (i := 3) (lv' := [some (.ref (E.2.1 0)), some (.int x1), some (.int x2), some (.long z32), none, none]) C dX5_reached_32 rfl (hn 4 (by decide)) rfl ?_
      refine j_iconst (v := (0 : Int32)) C dX5_reached_33 rfl ?_
      refine j_istore (i := 5) (lv' := [some (.ref (E.2.1 0)), some (.int x1), some (.int x2), some (.long z32), none, some (.int (0 : Int32))]) C dX5_reached_34 (hn 5 (by decide)) rfl ?_
      exact k36 FU x1 x2 z32 ((0 : Int32))
    · refine j_ldc2 (v := (-4611686018427387904 : Int64)) C dX5_reached_17 tw_604 ?_
      exact j_lret C dX5_reached_20
set_option maxRecDepth 100000 in
set_option maxHeartbeats 4000000 in
theorem ct_X5_fewest (γ : Gm) (E : Ev) (M : Mi) (L : Ml)  (x1 : Int32) (x2 : Int32) (h0 : XAt E) : Ct γ yX5_fewest cX5_fewest 6 (some .int) ⟨4, 0, 0, 98⟩ [.ref (E.2.1 0), .int x1, .int x2] E M L (Q_i γ E M L) 0 0 (F_X5_fewest M L x1 x2) := by
  refine ct_of (own := RX5) (lv := [some (.ref (E.2.1 0)), some (.int x1), some (.int x2), none, none, none]) (by decide +kernel) rfl rfl (Nat.le_of_ble_eq_true rfl) (fun κ C hγ hN => ?_)
  subst hγ
  have hn : ∀ i, i < 6 → i < knL κ := fun i h => by rw [hN]; exact h
  have k33 : ∀ (n : Nat) (x1 : Int32) (x2 : Int32) (x3 : Int64) (x5 : Int32), JF κ (PQ κ (Q_i (kγ κ) E M L) 0 0) 33 [some (.ref (E.2.1 0)), some (.int x1), some (.int x2), some (.long x3), none, some (.int x5)] [] E M L 0 0 (F_X5_fewest_k33 M L n x1 x2 x3 x5) := by
    intro n
    induction n with
    | zero => intros; exact jf_none
    | succ n ih =>
      intro x1 x2 x3 x5
      unfold F_X5_fewest_k33
      refine j_iload C dX5_fewest_33 rfl ?_
      refine j_bipush (v := (63 : Int32)) C dX5_fewest_35 (by decide) ?_
      refine j_icmp_gt (tgt := 67) C dX5_fewest_37 (by decide) ?_ ?_
      · refine j_iconst (v := (-1 : Int32)) C dX5_fewest_67 rfl ?_
        exact j_iret C dX5_fewest_68
      · refine j_lload_n C dX5_fewest_40 rfl rfl ?_
        refine j_iload_n C dX5_fewest_41 rfl rfl ?_
        refine j_callS_i (st := []) C dX5_fewest_42 (ct_X5_isIn (kγ κ) E M L x3 x2) mi_X5_isIn tw_674 rfl rfl (Nat.le_of_ble_eq_true rfl) ⟨⟨rfl, rfl⟩, ⟨Nat.le_of_ble_eq_true rfl, Nat.le_of_ble_eq_true rfl⟩, ⟨Nat.zero_le _, Nat.zero_le _⟩⟩ (fun v42 => ?_)
        refine j_if_eq (tgt := 51) C dX5_fewest_45 (by decide) ?_ ?_
        · refine j_aload_n C dX5_fewest_51 rfl rfl ?_
          refine j_getR (j := 0) C dX5_fewest_52 FC5 (XAt.S h0) (by decide) rfl (XAt.R_now h0) tw_426 ?_
          refine j_iload_n C dX5_fewest_55 rfl rfl ?_
          refine j_lload_n C dX5_fewest_56 rfl rfl ?_
          refine j_callV_l (st := []) C dX5_fewest_57 (ct_X0_aLeapFurther (kγ κ) E M L 1 x1 x3 (XAt.P_now h0)) mi_X0_aLeapFurther tw_665 FC0 (FAt.S (XAt.P_now h0)) rfl rfl (Nat.le_of_ble_eq_true rfl) ⟨⟨rfl, rfl⟩, ⟨Nat.le_of_ble_eq_true rfl, Nat.le_of_ble_eq_true rfl⟩, ⟨Nat.zero_le _, Nat.zero_le _⟩⟩ (fun v57 => ?_)
          refine j_lstore_n (i := 3) (lv' := [some (.ref (E.2.1 0)), some (.int x1), some (.int x2), some (.long v57), none, some (.int x5)]) C dX5_fewest_60 rfl (hn 4 (by decide)) rfl ?_
          refine j_iinc (i := 5) (v := (x5 + (1 : Int32))) (lv' := [some (.ref (E.2.1 0)), some (.int x1), some (.int x2), some (.long v57), none, some (.int (x5 + (1 : Int32)))]) C dX5_fewest_61 rfl rfl (hn 5 (by decide)) rfl ?_
          refine j_pc (pc2 := 64) rfl ?_
          refine j_goto (tgt := 33) C dX5_fewest_64 (by decide) ?_
          exact ih x1 x2 v57 ((x5 + (1 : Int32)))
        · refine j_iload C dX5_fewest_48 rfl ?_
          exact j_iret C dX5_fewest_50
  unfold F_X5_fewest
  refine j_aload_n C dX5_fewest_0 rfl rfl ?_
  refine j_iload_n C dX5_fewest_1 rfl rfl ?_
  refine j_callV_i (st := []) C dX5_fewest_2 (ct_X5_isParty (kγ κ) E M L x1 h0) mi_X5_isParty tw_469 FC5 (XAt.S h0) rfl rfl (Nat.le_of_ble_eq_true rfl) ⟨⟨rfl, rfl⟩, ⟨Nat.le_of_ble_eq_true rfl, Nat.le_of_ble_eq_true rfl⟩, ⟨Nat.zero_le _, Nat.zero_le _⟩⟩ (fun v2 => ?_)
  refine j_if_eq (tgt := 15) C dX5_fewest_5 (by decide) ?_ ?_
  · refine j_bipush (v := (-2 : Int32)) C dX5_fewest_15 (by decide) ?_
    exact j_iret C dX5_fewest_17
  · refine j_iload_n C dX5_fewest_8 rfl rfl ?_
    refine j_callS_i (st := []) C dX5_fewest_9 (ct_X5_isTile (kγ κ) E M L x2) mi_X5_isTile tw_462 rfl rfl (Nat.le_of_ble_eq_true rfl) ⟨⟨rfl, rfl⟩, ⟨Nat.le_of_ble_eq_true rfl, Nat.le_of_ble_eq_true rfl⟩, ⟨Nat.zero_le _, Nat.zero_le _⟩⟩ (fun v9 => ?_)
    refine j_if_ne (tgt := 18) C dX5_fewest_12 (by decide) ?_ ?_
    · refine j_lconst (v := (1 : Int64)) C dX5_fewest_18 rfl ?_
      refine j_aload_n C dX5_fewest_19 rfl rfl ?_
      refine j_getR (j := 0) C dX5_fewest_20 FC5 (XAt.S h0) (by decide) rfl (XAt.R_now h0) tw_426 ?_
      refine j_getR (j := 7) C dX5_fewest_23 FC0 (FAt.S (XAt.P_now h0)) (by decide) rfl (FAt.R_on (XAt.P_now h0)) tw_148 ?_
      refine j_iload_n C dX5_fewest_26 rfl rfl ?_
      refine j_iald C dX5_fewest_27 (FAt.P_on (XAt.P_now h0)) ?_
      refine j_lshl C dX5_fewest_28 ?_
      refine j_pc (pc2 := 29) rfl ?_
      refine j_nml (fun z29 => ?_)
      refine j_lstore_n (i := 3) (lv' := [some (.ref (E.2.1 0)), some (.int x1), some (.int x2), some (.long z29), none, none]) C dX5_fewest_29 rfl (hn 4 (by decide)) rfl ?_
      refine j_iconst (v := (0 : Int32)) C dX5_fewest_30 rfl ?_
      refine j_istore (i := 5) (lv' := [some (.ref (E.2.1 0)), some (.int x1), some (.int x2), some (.long z29), none, some (.int (0 : Int32))]) C dX5_fewest_31 (hn 5 (by decide)) rfl ?_
      exact k33 FU x1 x2 z29 ((0 : Int32))
    · refine j_bipush (v := (-2 : Int32)) C dX5_fewest_15 (by decide) ?_
      exact j_iret C dX5_fewest_17
set_option maxRecDepth 100000 in
set_option maxHeartbeats 4000000 in
theorem ct_X5_foundWithHollow (γ : Gm) (E : Ev) (M : Mi) (L : Ml)  (x1 : Int32) (x2 : Int32) (x3 : Int32) (h0 : XAt E) : Ct γ yX5_foundWithHollow cX5_foundWithHollow 4 (some .int) ⟨6, 0, 0, 143⟩ [.ref (E.2.1 0), .int x1, .int x2, .int x3] E M L (Q_iw γ E) 0 0 (F_X5_foundWithHollow E M L x1 x2 x3) := by
  refine ct_of (own := RX5) (lv := [some (.ref (E.2.1 0)), some (.int x1), some (.int x2), some (.int x3)]) (by decide +kernel) rfl rfl (Nat.le_of_ble_eq_true rfl) (fun κ C hγ hN => ?_)
  subst hγ
  have hn : ∀ i, i < 4 → i < knL κ := fun i h => by rw [hN]; exact h
  unfold F_X5_foundWithHollow
  refine j_aload_n C dX5_foundWithHollow_0 rfl rfl ?_
  refine j_getR (j := 0) C dX5_foundWithHollow_1 FC5 (XAt.S h0) (by decide) rfl (XAt.R_now h0) tw_426 ?_
  refine j_iload_n C dX5_foundWithHollow_4 rfl rfl ?_
  refine j_callV_i (st := []) C dX5_foundWithHollow_5 (ct_X0_isHollow (kγ κ) E M L 1 x3 (XAt.P_now h0)) mi_X0_isHollow tw_473 FC0 (FAt.S (XAt.P_now h0)) rfl rfl (Nat.le_of_ble_eq_true rfl) ⟨⟨rfl, rfl⟩, ⟨Nat.le_of_ble_eq_true rfl, Nat.le_of_ble_eq_true rfl⟩, ⟨Nat.zero_le _, Nat.zero_le _⟩⟩ (fun v5 => ?_)
  refine j_if_ne (tgt := 22) C dX5_foundWithHollow_8 (by decide) ?_ ?_
  · refine j_iconst (v := (-1 : Int32)) C dX5_foundWithHollow_22 rfl ?_
    exact j_iretw C dX5_foundWithHollow_23
  · refine j_aload_n C dX5_foundWithHollow_11 rfl rfl ?_
    refine j_getR (j := 0) C dX5_foundWithHollow_12 FC5 (XAt.S h0) (by decide) rfl (XAt.R_now h0) tw_426 ?_
    refine j_iload_n C dX5_foundWithHollow_15 rfl rfl ?_
    refine j_callV_i (st := []) C dX5_foundWithHollow_16 (ct_X0_whoIsOn (kγ κ) E M L 1 x3 (XAt.P_now h0)) mi_X0_whoIsOn tw_465 FC0 (FAt.S (XAt.P_now h0)) rfl rfl (Nat.le_of_ble_eq_true rfl) ⟨⟨rfl, rfl⟩, ⟨Nat.le_of_ble_eq_true rfl, Nat.le_of_ble_eq_true rfl⟩, ⟨Nat.zero_le _, Nat.zero_le _⟩⟩ (fun v16 => ?_)
    refine j_if_eq (tgt := 24) C dX5_foundWithHollow_19 (by decide) ?_ ?_
    · refine j_aload_n C dX5_foundWithHollow_24 rfl rfl ?_
      refine j_getR (j := 1) C dX5_foundWithHollow_25 FC5 (XAt.S h0) (by decide) rfl (XAt.R_thought h0) tw_427 ?_
      refine j_aload_n C dX5_foundWithHollow_28 rfl rfl ?_
      refine j_getR (j := 0) C dX5_foundWithHollow_29 FC5 (XAt.S h0) (by decide) rfl (XAt.R_now h0) tw_426 ?_
      refine j_callV_vw (st := []) C dX5_foundWithHollow_32 (ct_X0_become (kγ κ) E M L 6 1 (XAt.P_thought h0) (XAt.P_now h0)) mi_X0_become tw_643 FC0 (FAt.S (XAt.P_thought h0)) rfl rfl (Nat.le_of_ble_eq_true rfl) ⟨⟨rfl, rfl⟩, ⟨Nat.le_of_ble_eq_true rfl, Nat.le_of_ble_eq_true rfl⟩, ⟨Nat.zero_le _, Nat.zero_le _⟩⟩ (fun r32 => ?_)
      refine j_aload_n C dX5_foundWithHollow_35 rfl rfl ?_
      refine j_getR (j := 1) C dX5_foundWithHollow_36 FC5 (XAt.S h0) (by decide) rfl (XAt.R_thought h0) tw_427 ?_
      refine j_pc (pc2 := 39) rfl ?_
      refine j_dup C dX5_foundWithHollow_39 rfl ?_
      refine j_getL (j := 1) C dX5_foundWithHollow_40 FC0 (FAt.S (XAt.P_thought h0)) (by decide) rfl tw_133 ?_
      refine j_lconst (v := (1 : Int64)) C dX5_foundWithHollow_43 rfl ?_
      refine j_iload_n C dX5_foundWithHollow_44 rfl rfl ?_
      refine j_lshl C dX5_foundWithHollow_45 ?_
      refine j_lor C dX5_foundWithHollow_46 ?_
      refine j_putL (j := 1) C dX5_foundWithHollow_47 FC0 (FAt.S (XAt.P_thought h0)) (by decide) rfl rfl rfl rfl tw_133 ?_
      refine j_aload_n C dX5_foundWithHollow_50 rfl rfl ?_
      refine j_pc (pc2 := 51) rfl ?_
      refine j_getR (j := 4) C dX5_foundWithHollow_51 FC5 (XAt.S h0) (by decide) rfl (XAt.R_law h0) tw_430 ?_
      refine j_aload_n C dX5_foundWithHollow_54 rfl rfl ?_
      refine j_getR (j := 1) C dX5_foundWithHollow_55 FC5 (XAt.S h0) (by decide) rfl (XAt.R_thought h0) tw_427 ?_
      refine j_iload_n C dX5_foundWithHollow_58 rfl rfl ?_
      refine j_iconst (v := (-1 : Int32)) C dX5_foundWithHollow_59 rfl ?_
      refine j_callV_iw (st := []) C dX5_foundWithHollow_60 (ct_X1_passMinutes (kγ κ) E r32.1 (up2 r32.2 6 1 ((r32.2 6 1) ||| (lshl (1 : Int64) x3))) 6 x2 (-1 : Int32) (XAt.P_law h0) (XAt.P_thought h0)) mi_X1_passMinutes tw_625 FC1 (LAt.S (XAt.P_law h0)) rfl rfl (Nat.le_of_ble_eq_true rfl) ⟨⟨rfl, rfl⟩, ⟨Nat.le_of_ble_eq_true rfl, Nat.le_of_ble_eq_true rfl⟩, ⟨Nat.zero_le _, Nat.zero_le _⟩⟩ (fun r60 => ?_)
      refine j_pop C dX5_foundWithHollow_63 rfl ?_
      refine j_aload_n C dX5_foundWithHollow_64 rfl rfl ?_
      refine j_pc (pc2 := 65) rfl ?_
      refine j_getR (j := 1) C dX5_foundWithHollow_65 FC5 (XAt.S h0) (by decide) rfl (XAt.R_thought h0) tw_427 ?_
      refine j_iload_n C dX5_foundWithHollow_68 rfl rfl ?_
      refine j_callV_i (st := []) C dX5_foundWithHollow_69 (ct_X0_howManyFound (kγ κ) E r60.2.1 r60.2.2 6 x1 (XAt.P_thought h0)) mi_X0_howManyFound tw_648 FC0 (FAt.S (XAt.P_thought h0)) rfl rfl (Nat.le_of_ble_eq_true rfl) ⟨⟨rfl, rfl⟩, ⟨Nat.le_of_ble_eq_true rfl, Nat.le_of_ble_eq_true rfl⟩, ⟨Nat.zero_le _, Nat.zero_le _⟩⟩ (fun v69 => ?_)
      exact j_iretw C dX5_foundWithHollow_72
    · refine j_iconst (v := (-1 : Int32)) C dX5_foundWithHollow_22 rfl ?_
      exact j_iretw C dX5_foundWithHollow_23
set_option maxRecDepth 100000 in
set_option maxHeartbeats 4000000 in
theorem ct_X5_foundWithOneStill (γ : Gm) (E : Ev) (M : Mi) (L : Ml)  (x1 : Int32) (x2 : Int32) (x3 : Int32) (h0 : XAt E) : Ct γ yX5_foundWithOneStill cX5_foundWithOneStill 4 (some .int) ⟨6, 0, 0, 143⟩ [.ref (E.2.1 0), .int x1, .int x2, .int x3] E M L (Q_iw γ E) 0 0 (F_X5_foundWithOneStill E M L x1 x2 x3) := by
  refine ct_of (own := RX5) (lv := [some (.ref (E.2.1 0)), some (.int x1), some (.int x2), some (.int x3)]) (by decide +kernel) rfl rfl (Nat.le_of_ble_eq_true rfl) (fun κ C hγ hN => ?_)
  subst hγ
  have hn : ∀ i, i < 4 → i < knL κ := fun i h => by rw [hN]; exact h
  unfold F_X5_foundWithOneStill
  refine j_aload_n C dX5_foundWithOneStill_0 rfl rfl ?_
  refine j_getR (j := 1) C dX5_foundWithOneStill_1 FC5 (XAt.S h0) (by decide) rfl (XAt.R_thought h0) tw_427 ?_
  refine j_aload_n C dX5_foundWithOneStill_4 rfl rfl ?_
  refine j_getR (j := 0) C dX5_foundWithOneStill_5 FC5 (XAt.S h0) (by decide) rfl (XAt.R_now h0) tw_426 ?_
  refine j_callV_vw (st := []) C dX5_foundWithOneStill_8 (ct_X0_become (kγ κ) E M L 6 1 (XAt.P_thought h0) (XAt.P_now h0)) mi_X0_become tw_643 FC0 (FAt.S (XAt.P_thought h0)) rfl rfl (Nat.le_of_ble_eq_true rfl) ⟨⟨rfl, rfl⟩, ⟨Nat.le_of_ble_eq_true rfl, Nat.le_of_ble_eq_true rfl⟩, ⟨Nat.zero_le _, Nat.zero_le _⟩⟩ (fun r8 => ?_)
  refine j_aload_n C dX5_foundWithOneStill_11 rfl rfl ?_
  refine j_getR (j := 4) C dX5_foundWithOneStill_12 FC5 (XAt.S h0) (by decide) rfl (XAt.R_law h0) tw_430 ?_
  refine j_pc (pc2 := 15) rfl ?_
  refine j_aload_n C dX5_foundWithOneStill_15 rfl rfl ?_
  refine j_getR (j := 1) C dX5_foundWithOneStill_16 FC5 (XAt.S h0) (by decide) rfl (XAt.R_thought h0) tw_427 ?_
  refine j_iload_n C dX5_foundWithOneStill_19 rfl rfl ?_
  refine j_iload_n C dX5_foundWithOneStill_20 rfl rfl ?_
  refine j_callV_iw (st := []) C dX5_foundWithOneStill_21 (ct_X1_passMinutes (kγ κ) E r8.1 r8.2 6 x2 x3 (XAt.P_law h0) (XAt.P_thought h0)) mi_X1_passMinutes tw_625 FC1 (LAt.S (XAt.P_law h0)) rfl rfl (Nat.le_of_ble_eq_true rfl) ⟨⟨rfl, rfl⟩, ⟨Nat.le_of_ble_eq_true rfl, Nat.le_of_ble_eq_true rfl⟩, ⟨Nat.zero_le _, Nat.zero_le _⟩⟩ (fun r21 => ?_)
  refine j_pop C dX5_foundWithOneStill_24 rfl ?_
  refine j_aload_n C dX5_foundWithOneStill_25 rfl rfl ?_
  refine j_getR (j := 1) C dX5_foundWithOneStill_26 FC5 (XAt.S h0) (by decide) rfl (XAt.R_thought h0) tw_427 ?_
  refine j_pc (pc2 := 29) rfl ?_
  refine j_iload_n C dX5_foundWithOneStill_29 rfl rfl ?_
  refine j_callV_i (st := []) C dX5_foundWithOneStill_30 (ct_X0_howManyFound (kγ κ) E r21.2.1 r21.2.2 6 x1 (XAt.P_thought h0)) mi_X0_howManyFound tw_648 FC0 (FAt.S (XAt.P_thought h0)) rfl rfl (Nat.le_of_ble_eq_true rfl) ⟨⟨rfl, rfl⟩, ⟨Nat.le_of_ble_eq_true rfl, Nat.le_of_ble_eq_true rfl⟩, ⟨Nat.zero_le _, Nat.zero_le _⟩⟩ (fun v30 => ?_)
  exact j_iretw C dX5_foundWithOneStill_33
set_option maxRecDepth 100000 in
set_option maxHeartbeats 4000000 in
theorem ct_X5_foundWithRed (γ : Gm) (E : Ev) (M : Mi) (L : Ml)  (x1 : Int32) (x2 : Int32) (h0 : XAt E) : Ct γ yX5_foundWithRed cX5_foundWithRed 3 (some .int) ⟨5, 0, 0, 109⟩ [.ref (E.2.1 0), .int x1, .int x2] E M L (Q_iw γ E) 0 0 (F_X5_foundWithRed M L x1 x2) := by
  refine ct_of (own := RX5) (lv := [some (.ref (E.2.1 0)), some (.int x1), some (.int x2)]) (by decide +kernel) rfl rfl (Nat.le_of_ble_eq_true rfl) (fun κ C hγ hN => ?_)
  subst hγ
  have hn : ∀ i, i < 3 → i < knL κ := fun i h => by rw [hN]; exact h
  unfold F_X5_foundWithRed
  refine j_aload_n C dX5_foundWithRed_0 rfl rfl ?_
  refine j_getR (j := 0) C dX5_foundWithRed_1 FC5 (XAt.S h0) (by decide) rfl (XAt.R_now h0) tw_426 ?_
  refine j_iload_n C dX5_foundWithRed_4 rfl rfl ?_
  refine j_callV_i (st := []) C dX5_foundWithRed_5 (ct_X0_isRed (kγ κ) E M L 1 x2 (XAt.P_now h0)) mi_X0_isRed tw_488 FC0 (FAt.S (XAt.P_now h0)) rfl rfl (Nat.le_of_ble_eq_true rfl) ⟨⟨rfl, rfl⟩, ⟨Nat.le_of_ble_eq_true rfl, Nat.le_of_ble_eq_true rfl⟩, ⟨Nat.zero_le _, Nat.zero_le _⟩⟩ (fun v5 => ?_)
  refine j_if_ne (tgt := 22) C dX5_foundWithRed_8 (by decide) ?_ ?_
  · refine j_iconst (v := (-1 : Int32)) C dX5_foundWithRed_22 rfl ?_
    exact j_iretw C dX5_foundWithRed_23
  · refine j_aload_n C dX5_foundWithRed_11 rfl rfl ?_
    refine j_getR (j := 0) C dX5_foundWithRed_12 FC5 (XAt.S h0) (by decide) rfl (XAt.R_now h0) tw_426 ?_
    refine j_iload_n C dX5_foundWithRed_15 rfl rfl ?_
    refine j_callV_i (st := []) C dX5_foundWithRed_16 (ct_X0_isHollow (kγ κ) E M L 1 x2 (XAt.P_now h0)) mi_X0_isHollow tw_473 FC0 (FAt.S (XAt.P_now h0)) rfl rfl (Nat.le_of_ble_eq_true rfl) ⟨⟨rfl, rfl⟩, ⟨Nat.le_of_ble_eq_true rfl, Nat.le_of_ble_eq_true rfl⟩, ⟨Nat.zero_le _, Nat.zero_le _⟩⟩ (fun v16 => ?_)
    refine j_if_eq (tgt := 24) C dX5_foundWithRed_19 (by decide) ?_ ?_
    · refine j_aload_n C dX5_foundWithRed_24 rfl rfl ?_
      refine j_getR (j := 2) C dX5_foundWithRed_25 FC5 (XAt.S h0) (by decide) rfl (XAt.R_later h0) tw_428 ?_
      refine j_aload_n C dX5_foundWithRed_28 rfl rfl ?_
      refine j_getR (j := 0) C dX5_foundWithRed_29 FC5 (XAt.S h0) (by decide) rfl (XAt.R_now h0) tw_426 ?_
      refine j_getL (j := 0) C dX5_foundWithRed_32 FC0 (FAt.S (XAt.P_now h0)) (by decide) rfl tw_131 ?_
      refine j_lconst (v := (1 : Int64)) C dX5_foundWithRed_35 rfl ?_
      refine j_iload_n C dX5_foundWithRed_36 rfl rfl ?_
      refine j_pc (pc2 := 37) rfl ?_
      refine j_lshl C dX5_foundWithRed_37 ?_
      refine j_lor C dX5_foundWithRed_38 ?_
      refine j_putL (j := 0) C dX5_foundWithRed_39 FC0 (FAt.S (XAt.P_later h0)) (by decide) rfl rfl rfl rfl tw_131 ?_
      refine j_aload_n C dX5_foundWithRed_42 rfl rfl ?_
      refine j_getR (j := 2) C dX5_foundWithRed_43 FC5 (XAt.S h0) (by decide) rfl (XAt.R_later h0) tw_428 ?_
      refine j_iload_n C dX5_foundWithRed_46 rfl rfl ?_
      refine j_callV_i (st := []) C dX5_foundWithRed_47 (ct_X0_howManyFound (kγ κ) E M (up2 L 11 0 ((L 1 0) ||| (lshl (1 : Int64) x2))) 11 x1 (XAt.P_later h0)) mi_X0_howManyFound tw_648 FC0 (FAt.S (XAt.P_later h0)) rfl rfl (Nat.le_of_ble_eq_true rfl) ⟨⟨rfl, rfl⟩, ⟨Nat.le_of_ble_eq_true rfl, Nat.le_of_ble_eq_true rfl⟩, ⟨Nat.zero_le _, Nat.zero_le _⟩⟩ (fun v47 => ?_)
      exact j_iretw C dX5_foundWithRed_50
    · refine j_iconst (v := (-1 : Int32)) C dX5_foundWithRed_22 rfl ?_
      exact j_iretw C dX5_foundWithRed_23
set_option maxRecDepth 100000 in
set_option maxHeartbeats 4000000 in
theorem ct_X5_best (γ : Gm) (E : Ev) (M : Mi) (L : Ml)  (x1 : Int32) (x2 : Int32) (x3 : Int32) (h0 : XAt E) : Ct γ yX5_best cX5_best 9 (some .int) ⟨7, 0, 0, 166⟩ [.ref (E.2.1 0), .int x1, .int x2, .int x3] E M L (Q_iw γ E) 0 0 (F_X5_best E M L x1 x2 x3) := by
  refine ct_of (own := RX5) (lv := [some (.ref (E.2.1 0)), some (.int x1), some (.int x2), some (.int x3), none, none, none, none, none]) (by decide +kernel) rfl rfl (Nat.le_of_ble_eq_true rfl) (fun κ C hγ hN => ?_)
  subst hγ
  have hn : ∀ i, i < 9 → i < knL κ := fun i h => by rw [hN]; exact h
  have k153 : ∀ (kf90 : Mi → Ml → Int32 → Int32 → Int32 → Int32 → Int32 → Int32 → Int32 → Option (Int32 × Mi × Ml)), (∀ (M : Mi) (L : Ml) (x1 : Int32) (x2 : Int32) (x3 : Int32) (x4 : Int32) (x5 : Int32) (x6 : Int32) (x7 : Int32), JF κ (PQ κ (Q_iw (kγ κ) E) 0 0) 90 [some (.ref (E.2.1 0)), some (.int x1), some (.int x2), some (.int x3), some (.int x4), some (.int x5), some (.int x6), some (.int x7), none] [] E M L 0 0 (kf90 M L x1 x2 x3 x4 x5 x6 x7)) → ∀ (M : Mi) (L : Ml) (x1 : Int32) (x2 : Int32) (x3 : Int32) (x4 : Int32) (x5 : Int32) (x6 : Int32) (x7 : Int32), JF κ (PQ κ (Q_iw (kγ κ) E) 0 0) 153 [some (.ref (E.2.1 0)), some (.int x1), some (.int x2), some (.int x3), some (.int x4), some (.int x5), some (.int x6), some (.int x7), none] [] E M L 0 0 (F_X5_best_k153 E kf90 M L x1 x2 x3 x4 x5 x6 x7) := by
    intro kf90 hkf90 M L x1 x2 x3 x4 x5 x6 x7
    unfold F_X5_best_k153
    refine j_iinc (i := 7) (v := (x7 + (1 : Int32))) (lv' := [some (.ref (E.2.1 0)), some (.int x1), some (.int x2), some (.int x3), some (.int x4), some (.int x5), some (.int x6), some (.int (x7 + (1 : Int32))), none]) C dX5_best_153 rfl rfl (hn 7 (by decide)) rfl ?_
    refine j_goto (tgt := 90) C dX5_best_156 (by decide) ?_
    exact hkf90 M L x1 x2 x3 x4 x5 x6 ((x7 + (1 : Int32)))
  have k136 : ∀ (kf90 : Mi → Ml → Int32 → Int32 → Int32 → Int32 → Int32 → Int32 → Int32 → Option (Int32 × Mi × Ml)), (∀ (M : Mi) (L : Ml) (x1 : Int32) (x2 : Int32) (x3 : Int32) (x4 : Int32) (x5 : Int32) (x6 : Int32) (x7 : Int32), JF κ (PQ κ (Q_iw (kγ κ) E) 0 0) 90 [some (.ref (E.2.1 0)), some (.int x1), some (.int x2), some (.int x3), some (.int x4), some (.int x5), some (.int x6), some (.int x7), none] [] E M L 0 0 (kf90 M L x1 x2 x3 x4 x5 x6 x7)) → ∀ (M : Mi) (L : Ml) (x1 : Int32) (x2 : Int32) (x3 : Int32) (x4 : Int32) (x5 : Int32) (x6 : Int32) (x7 : Int32) (s0 : Int32), JF κ (PQ κ (Q_iw (kγ κ) E) 0 0) 136 [some (.ref (E.2.1 0)), some (.int x1), some (.int x2), some (.int x3), some (.int x4), some (.int x5), some (.int x6), some (.int x7), none] [.int s0] E M L 0 0 (F_X5_best_k136 E kf90 M L x1 x2 x3 x4 x5 x6 x7 s0) := by
    intro kf90 hkf90 M L x1 x2 x3 x4 x5 x6 x7 s0
    unfold F_X5_best_k136
    refine j_istore (i := 8) (lv' := [some (.ref (E.2.1 0)), some (.int x1), some (.int x2), some (.int x3), some (.int x4), some (.int x5), some (.int x6), some (.int x7), some (.int s0)]) C dX5_best_136 (hn 8 (by decide)) rfl ?_
    refine j_iload C dX5_best_138 rfl ?_
    refine j_iload C dX5_best_140 rfl ?_
    refine j_icmp_le (tgt := 153) C dX5_best_142 (by decide) ?_ ?_
    · refine j_mask [true, true, true, true, true, true, true, true, false] (lv' := [some (.ref (E.2.1 0)), some (.int x1), some (.int x2), some (.int x3), some (.int x4), some (.int x5), some (.int x6), some (.int x7), none]) rfl ?_
      exact k153 kf90 hkf90 M L x1 x2 x3 x4 x5 x6 x7
    · refine j_iload C dX5_best_145 rfl ?_
      refine j_istore (i := 5) (lv' := [some (.ref (E.2.1 0)), some (.int x1), some (.int x2), some (.int x3), some (.int x4), some (.int s0), some (.int x6), some (.int x7), some (.int s0)]) C dX5_best_147 (hn 5 (by decide)) rfl ?_
      refine j_iload C dX5_best_149 rfl ?_
      refine j_istore (i := 4) (lv' := [some (.ref (E.2.1 0)), some (.int x1), some (.int x2), some (.int x3), some (.int x7), some (.int s0), some (.int x6), some (.int x7), some (.int s0)]) C dX5_best_151 (hn 4 (by decide)) rfl ?_
      refine j_mask [true, true, true, true, true, true, true, true, false] (lv' := [some (.ref (E.2.1 0)), some (.int x1), some (.int x2), some (.int x3), some (.int x7), some (.int s0), some (.int x6), some (.int x7), none]) rfl ?_
      exact k153 kf90 hkf90 M L x1 x2 x3 x7 s0 x6 x7
  have k90 : ∀ (n : Nat) (M : Mi) (L : Ml) (x1 : Int32) (x2 : Int32) (x3 : Int32) (x4 : Int32) (x5 : Int32) (x6 : Int32) (x7 : Int32), JF κ (PQ κ (Q_iw (kγ κ) E) 0 0) 90 [some (.ref (E.2.1 0)), some (.int x1), some (.int x2), some (.int x3), some (.int x4), some (.int x5), some (.int x6), some (.int x7), none] [] E M L 0 0 (F_X5_best_k90 E n M L x1 x2 x3 x4 x5 x6 x7) := by
    intro n
    induction n with
    | zero => intros; exact jf_none
    | succ n ih =>
      intro M L x1 x2 x3 x4 x5 x6 x7
      unfold F_X5_best_k90
      refine j_iload C dX5_best_90 rfl ?_
      refine j_iload C dX5_best_92 rfl ?_
      refine j_icmp_ge (tgt := 159) C dX5_best_94 (by decide) ?_ ?_
      · refine j_iload_n C dX5_best_159 rfl rfl ?_
        refine j_iconst (v := (2 : Int32)) C dX5_best_160 rfl ?_
        refine j_iremc C dX5_best_161 (by decide) ?_
        refine j_if_ne (tgt := 170) C dX5_best_162 (by decide) ?_ ?_
        · refine j_iload C dX5_best_170 rfl ?_
          exact j_iretw C dX5_best_172
        · refine j_iload C dX5_best_165 rfl ?_
          refine j_goto (tgt := 172) C dX5_best_167 (by decide) ?_
          exact j_iretw C dX5_best_172
      · refine j_iload_n C dX5_best_97 rfl rfl ?_
        refine j_iconst (v := (2 : Int32)) C dX5_best_98 rfl ?_
        refine j_icmp_ge (tgt := 113) C dX5_best_99 (by decide) ?_ ?_
        · refine j_iload_n C dX5_best_113 rfl rfl ?_
          refine j_iconst (v := (4 : Int32)) C dX5_best_114 rfl ?_
          refine j_icmp_ge (tgt := 128) C dX5_best_115 (by decide) ?_ ?_
          · refine j_aload_n C dX5_best_128 rfl rfl ?_
            refine j_iload_n C dX5_best_129 rfl rfl ?_
            refine j_iload_n C dX5_best_130 rfl rfl ?_
            refine j_iload C dX5_best_131 rfl ?_
            refine j_callV_iw (st := []) C dX5_best_133 (ct_X5_foundWithHollow (kγ κ) E M L x1 x2 x7 h0) mi_X5_foundWithHollow tw_687 FC5 (XAt.S h0) rfl rfl (Nat.le_of_ble_eq_true rfl) ⟨⟨rfl, rfl⟩, ⟨Nat.le_of_ble_eq_true rfl, Nat.le_of_ble_eq_true rfl⟩, ⟨Nat.zero_le _, Nat.zero_le _⟩⟩ (fun r133 => ?_)
            exact k136 (F_X5_best_k90 E n) ih r133.2.1 r133.2.2 x1 x2 x3 x4 x5 x6 x7 r133.1
          · refine j_aload_n C dX5_best_118 rfl rfl ?_
            refine j_iload_n C dX5_best_119 rfl rfl ?_
            refine j_iload C dX5_best_120 rfl ?_
            refine j_callV_iw (st := []) C dX5_best_122 (ct_X5_foundWithRed (kγ κ) E M L x1 x7 h0) mi_X5_foundWithRed tw_683 FC5 (XAt.S h0) rfl rfl (Nat.le_of_ble_eq_true rfl) ⟨⟨rfl, rfl⟩, ⟨Nat.le_of_ble_eq_true rfl, Nat.le_of_ble_eq_true rfl⟩, ⟨Nat.zero_le _, Nat.zero_le _⟩⟩ (fun r122 => ?_)
            refine j_goto (tgt := 136) C dX5_best_125 (by decide) ?_
            exact k136 (F_X5_best_k90 E n) ih r122.2.1 r122.2.2 x1 x2 x3 x4 x5 x6 x7 r122.1
        · refine j_aload_n C dX5_best_102 rfl rfl ?_
          refine j_iload_n C dX5_best_103 rfl rfl ?_
          refine j_iload_n C dX5_best_104 rfl rfl ?_
          refine j_iload C dX5_best_105 rfl ?_
          refine j_callV_iw (st := []) C dX5_best_107 (ct_X5_foundWithOneStill (kγ κ) E M L x1 x2 x7 h0) mi_X5_foundWithOneStill tw_679 FC5 (XAt.S h0) rfl rfl (Nat.le_of_ble_eq_true rfl) ⟨⟨rfl, rfl⟩, ⟨Nat.le_of_ble_eq_true rfl, Nat.le_of_ble_eq_true rfl⟩, ⟨Nat.zero_le _, Nat.zero_le _⟩⟩ (fun r107 => ?_)
          refine j_goto (tgt := 136) C dX5_best_110 (by decide) ?_
          exact k136 (F_X5_best_k90 E n) ih r107.2.1 r107.2.2 x1 x2 x3 x4 x5 x6 x7 r107.1
  have k85 : ∀ (M : Mi) (L : Ml) (x1 : Int32) (x2 : Int32) (x3 : Int32) (x4 : Int32) (x5 : Int32) (s0 : Int32), JF κ (PQ κ (Q_iw (kγ κ) E) 0 0) 85 [some (.ref (E.2.1 0)), some (.int x1), some (.int x2), some (.int x3), some (.int x4), some (.int x5), none, none, none] [.int s0] E M L 0 0 (F_X5_best_k85 E M L x1 x2 x3 x4 x5 s0) := by
    intro M L x1 x2 x3 x4 x5 s0
    unfold F_X5_best_k85
    refine j_istore (i := 6) (lv' := [some (.ref (E.2.1 0)), some (.int x1), some (.int x2), some (.int x3), some (.int x4), some (.int x5), some (.int s0), none, none]) C dX5_best_85 (hn 6 (by decide)) rfl ?_
    refine j_iconst (v := (0 : Int32)) C dX5_best_87 rfl ?_
    refine j_istore (i := 7) (lv' := [some (.ref (E.2.1 0)), some (.int x1), some (.int x2), some (.int x3), some (.int x4), some (.int x5), some (.int s0), some (.int (0 : Int32)), none]) C dX5_best_88 (hn 7 (by decide)) rfl ?_
    exact k90 FU M L x1 x2 x3 x4 x5 s0 ((0 : Int32))
  unfold F_X5_best
  refine j_iload_n C dX5_best_0 rfl rfl ?_
  refine j_iconst (v := (2 : Int32)) C dX5_best_1 rfl ?_
  refine j_callS_i (st := []) C dX5_best_2 (ct_X5_isWithin (kγ κ) E M L x1 (2 : Int32)) mi_X5_isWithin tw_459 rfl rfl (Nat.le_of_ble_eq_true rfl) ⟨⟨rfl, rfl⟩, ⟨Nat.le_of_ble_eq_true rfl, Nat.le_of_ble_eq_true rfl⟩, ⟨Nat.zero_le _, Nat.zero_le _⟩⟩ (fun v2 => ?_)
  refine j_if_eq (tgt := 27) C dX5_best_5 (by decide) ?_ ?_
  · refine j_bipush (v := (-2 : Int32)) C dX5_best_27 (by decide) ?_
    exact j_iretw C dX5_best_29
  · refine j_iload_n C dX5_best_8 rfl rfl ?_
    refine j_iconst (v := (1 : Int32)) C dX5_best_9 rfl ?_
    refine j_icmp_lt (tgt := 27) C dX5_best_10 (by decide) ?_ ?_
    · refine j_bipush (v := (-2 : Int32)) C dX5_best_27 (by decide) ?_
      exact j_iretw C dX5_best_29
    · refine j_iload_n C dX5_best_13 rfl rfl ?_
      refine j_bipush (v := (20 : Int32)) C dX5_best_14 (by decide) ?_
      refine j_icmp_gt (tgt := 27) C dX5_best_16 (by decide) ?_ ?_
      · refine j_bipush (v := (-2 : Int32)) C dX5_best_27 (by decide) ?_
        exact j_iretw C dX5_best_29
      · refine j_iload_n C dX5_best_19 rfl rfl ?_
        refine j_iconst (v := (5 : Int32)) C dX5_best_20 rfl ?_
        refine j_callS_i (st := []) C dX5_best_21 (ct_X5_isWithin (kγ κ) E M L x3 (5 : Int32)) mi_X5_isWithin tw_459 rfl rfl (Nat.le_of_ble_eq_true rfl) ⟨⟨rfl, rfl⟩, ⟨Nat.le_of_ble_eq_true rfl, Nat.le_of_ble_eq_true rfl⟩, ⟨Nat.zero_le _, Nat.zero_le _⟩⟩ (fun v21 => ?_)
        refine j_if_ne (tgt := 30) C dX5_best_24 (by decide) ?_ ?_
        · refine j_aload_n C dX5_best_30 rfl rfl ?_
          refine j_getR (j := 2) C dX5_best_31 FC5 (XAt.S h0) (by decide) rfl (XAt.R_later h0) tw_428 ?_
          refine j_aload_n C dX5_best_34 rfl rfl ?_
          refine j_getR (j := 0) C dX5_best_35 FC5 (XAt.S h0) (by decide) rfl (XAt.R_now h0) tw_426 ?_
          refine j_callV_vw (st := []) C dX5_best_38 (ct_X0_become (kγ κ) E M L 11 1 (XAt.P_later h0) (XAt.P_now h0)) mi_X0_become tw_643 FC0 (FAt.S (XAt.P_later h0)) rfl rfl (Nat.le_of_ble_eq_true rfl) ⟨⟨rfl, rfl⟩, ⟨Nat.le_of_ble_eq_true rfl, Nat.le_of_ble_eq_true rfl⟩, ⟨Nat.zero_le _, Nat.zero_le _⟩⟩ (fun r38 => ?_)
          refine j_aload_n C dX5_best_41 rfl rfl ?_
          refine j_getR (j := 4) C dX5_best_42 FC5 (XAt.S h0) (by decide) rfl (XAt.R_law h0) tw_430 ?_
          refine j_pc (pc2 := 45) rfl ?_
          refine j_aload_n C dX5_best_45 rfl rfl ?_
          refine j_getR (j := 2) C dX5_best_46 FC5 (XAt.S h0) (by decide) rfl (XAt.R_later h0) tw_428 ?_
          refine j_iload_n C dX5_best_49 rfl rfl ?_
          refine j_iconst (v := (-1 : Int32)) C dX5_best_50 rfl ?_
          refine j_callV_iw (st := []) C dX5_best_51 (ct_X1_passMinutes (kγ κ) E r38.1 r38.2 11 x2 (-1 : Int32) (XAt.P_law h0) (XAt.P_later h0)) mi_X1_passMinutes tw_625 FC1 (LAt.S (XAt.P_law h0)) rfl rfl (Nat.le_of_ble_eq_true rfl) ⟨⟨rfl, rfl⟩, ⟨Nat.le_of_ble_eq_true rfl, Nat.le_of_ble_eq_true rfl⟩, ⟨Nat.zero_le _, Nat.zero_le _⟩⟩ (fun r51 => ?_)
          refine j_pop C dX5_best_54 rfl ?_
          refine j_iconst (v := (-1 : Int32)) C dX5_best_55 rfl ?_
          refine j_istore (i := 4) (lv' := [some (.ref (E.2.1 0)), some (.int x1), some (.int x2), some (.int x3), some (.int (-1 : Int32)), none, none, none, none]) C dX5_best_56 (hn 4 (by decide)) rfl ?_
          refine j_pc (pc2 := 58) rfl ?_
          refine j_aload_n C dX5_best_58 rfl rfl ?_
          refine j_getR (j := 2) C dX5_best_59 FC5 (XAt.S h0) (by decide) rfl (XAt.R_later h0) tw_428 ?_
          refine j_iload_n C dX5_best_62 rfl rfl ?_
          refine j_callV_i (st := []) C dX5_best_63 (ct_X0_howManyFound (kγ κ) E r51.2.1 r51.2.2 11 x1 (XAt.P_later h0)) mi_X0_howManyFound tw_648 FC0 (FAt.S (XAt.P_later h0)) rfl rfl (Nat.le_of_ble_eq_true rfl) ⟨⟨rfl, rfl⟩, ⟨Nat.le_of_ble_eq_true rfl, Nat.le_of_ble_eq_true rfl⟩, ⟨Nat.zero_le _, Nat.zero_le _⟩⟩ (fun v63 => ?_)
          refine j_istore (i := 5) (lv' := [some (.ref (E.2.1 0)), some (.int x1), some (.int x2), some (.int x3), some (.int (-1 : Int32)), some (.int v63), none, none, none]) C dX5_best_66 (hn 5 (by decide)) rfl ?_
          refine j_iload_n C dX5_best_68 rfl rfl ?_
          refine j_iconst (v := (2 : Int32)) C dX5_best_69 rfl ?_
          refine j_icmp_ge (tgt := 83) C dX5_best_70 (by decide) ?_ ?_
          · refine j_bipush (v := (64 : Int32)) C dX5_best_83 (by decide) ?_
            exact k85 r51.2.1 r51.2.2 x1 x2 x3 ((-1 : Int32)) v63 ((64 : Int32))
          · refine j_aload_n C dX5_best_73 rfl rfl ?_
            refine j_getR (j := 0) C dX5_best_74 FC5 (XAt.S h0) (by decide) rfl (XAt.R_now h0) tw_426 ?_
            refine j_getI (j := 3) C dX5_best_77 FC0 (FAt.S (XAt.P_now h0)) (by decide) rfl tw_139 ?_
            refine j_goto (tgt := 85) C dX5_best_80 (by decide) ?_
            exact k85 r51.2.1 r51.2.2 x1 x2 x3 ((-1 : Int32)) v63 ((r51.2.1 1 3))
        · refine j_bipush (v := (-2 : Int32)) C dX5_best_27 (by decide) ?_
          exact j_iretw C dX5_best_29
set_option maxRecDepth 100000 in
set_option maxHeartbeats 4000000 in
theorem ct_X5_mean (γ : Gm) (E : Ev) (M : Mi) (L : Ml)  (x1 : Int32) (h0 : XAt E) : Ct γ yX5_mean cX5_mean 4 (some .long) ⟨2, 0, 0, 66⟩ [.ref (E.2.1 0), .int x1] E M L (Q_l γ E M L) 0 0 (F_X5_mean M L x1) := by
  refine ct_of (own := RX5) (lv := [some (.ref (E.2.1 0)), some (.int x1), none, none]) (by decide +kernel) rfl rfl (Nat.le_of_ble_eq_true rfl) (fun κ C hγ hN => ?_)
  subst hγ
  have hn : ∀ i, i < 4 → i < knL κ := fun i h => by rw [hN]; exact h
  have k27 : ∀ (n : Nat) (x1 : Int32) (x2 : Int32) (x3 : Int32), JF κ (PQ κ (Q_l (kγ κ) E M L) 0 0) 27 [some (.ref (E.2.1 0)), some (.int x1), some (.int x2), some (.int x3)] [] E M L 0 0 (F_X5_mean_k27 M L n x1 x2 x3) := by
    intro n
    induction n with
    | zero => intros; exact jf_none
    | succ n ih =>
      intro x1 x2 x3
      unfold F_X5_mean_k27
      refine j_iload_n C dX5_mean_27 rfl rfl ?_
      refine j_aload_n C dX5_mean_28 rfl rfl ?_
      refine j_getR (j := 0) C dX5_mean_29 FC5 (XAt.S h0) (by decide) rfl (XAt.R_now h0) tw_426 ?_
      refine j_getI (j := 3) C dX5_mean_32 FC0 (FAt.S (XAt.P_now h0)) (by decide) rfl tw_139 ?_
      refine j_icmp_ge (tgt := 56) C dX5_mean_35 (by decide) ?_ ?_
      · refine j_iload_n C dX5_mean_56 rfl rfl ?_
        refine j_aload_n C dX5_mean_57 rfl rfl ?_
        refine j_getR (j := 0) C dX5_mean_58 FC5 (XAt.S h0) (by decide) rfl (XAt.R_now h0) tw_426 ?_
        refine j_getI (j := 3) C dX5_mean_61 FC0 (FAt.S (XAt.P_now h0)) (by decide) rfl tw_139 ?_
        refine j_iload_n C dX5_mean_64 rfl rfl ?_
        refine j_callS_l (st := []) C dX5_mean_65 (ct_X5_inLowestTerms (kγ κ) E M L x2 (M 1 3) x1) mi_X5_inLowestTerms tw_695 rfl rfl (Nat.le_of_ble_eq_true rfl) ⟨⟨rfl, rfl⟩, ⟨Nat.le_of_ble_eq_true rfl, Nat.le_of_ble_eq_true rfl⟩, ⟨Nat.zero_le _, Nat.zero_le _⟩⟩ (fun v65 => ?_)
        exact j_lret C dX5_mean_68
      · refine j_iload_n C dX5_mean_38 rfl rfl ?_
        refine j_aload_n C dX5_mean_39 rfl rfl ?_
        refine j_getR (j := 0) C dX5_mean_40 FC5 (XAt.S h0) (by decide) rfl (XAt.R_now h0) tw_426 ?_
        refine j_getR (j := 8) C dX5_mean_43 FC0 (FAt.S (XAt.P_now h0)) (by decide) rfl (FAt.R_weary (XAt.P_now h0)) tw_151 ?_
        refine j_iload_n C dX5_mean_46 rfl rfl ?_
        refine j_iald C dX5_mean_47 (FAt.P_weary (XAt.P_now h0)) ?_
        refine j_iadd C dX5_mean_48 ?_
        refine j_pc (pc2 := 49) rfl ?_
        refine j_istore_n (i := 2) (lv' := [some (.ref (E.2.1 0)), some (.int x1), some (.int (x2 + (M 5 (Int32.toNatClampNeg x3)))), some (.int x3)]) C dX5_mean_49 rfl (hn 2 (by decide)) rfl ?_
        refine j_iinc (i := 3) (v := (x3 + (1 : Int32))) (lv' := [some (.ref (E.2.1 0)), some (.int x1), some (.int (x2 + (M 5 (Int32.toNatClampNeg x3)))), some (.int (x3 + (1 : Int32)))]) C dX5_mean_50 rfl rfl (hn 3 (by decide)) rfl ?_
        refine j_goto (tgt := 27) C dX5_mean_53 (by decide) ?_
        exact ih x1 ((x2 + (M 5 (Int32.toNatClampNeg x3)))) ((x3 + (1 : Int32)))
  unfold F_X5_mean
  refine j_iload_n C dX5_mean_0 rfl rfl ?_
  refine j_iconst (v := (1 : Int32)) C dX5_mean_1 rfl ?_
  refine j_callS_i (st := []) C dX5_mean_2 (ct_X5_isWithin (kγ κ) E M L x1 (1 : Int32)) mi_X5_isWithin tw_459 rfl rfl (Nat.le_of_ble_eq_true rfl) ⟨⟨rfl, rfl⟩, ⟨Nat.le_of_ble_eq_true rfl, Nat.le_of_ble_eq_true rfl⟩, ⟨Nat.zero_le _, Nat.zero_le _⟩⟩ (fun v2 => ?_)
  refine j_if_eq (tgt := 19) C dX5_mean_5 (by decide) ?_ ?_
  · refine j_ldc2 (v := (-4611686018427387904 : Int64)) C dX5_mean_19 tw_604 ?_
    exact j_lret C dX5_mean_22
  · refine j_aload_n C dX5_mean_8 rfl rfl ?_
    refine j_getR (j := 0) C dX5_mean_9 FC5 (XAt.S h0) (by decide) rfl (XAt.R_now h0) tw_426 ?_
    refine j_getI (j := 3) C dX5_mean_12 FC0 (FAt.S (XAt.P_now h0)) (by decide) rfl tw_139 ?_
    refine j_iconst (v := (1 : Int32)) C dX5_mean_15 rfl ?_
    refine j_icmp_ge (tgt := 23) C dX5_mean_16 (by decide) ?_ ?_
    · refine j_iconst (v := (0 : Int32)) C dX5_mean_23 rfl ?_
      refine j_istore_n (i := 2) (lv' := [some (.ref (E.2.1 0)), some (.int x1), some (.int (0 : Int32)), none]) C dX5_mean_24 rfl (hn 2 (by decide)) rfl ?_
      refine j_iconst (v := (0 : Int32)) C dX5_mean_25 rfl ?_
      refine j_istore_n (i := 3) (lv' := [some (.ref (E.2.1 0)), some (.int x1), some (.int (0 : Int32)), some (.int (0 : Int32))]) C dX5_mean_26 rfl (hn 3 (by decide)) rfl ?_
      exact k27 FU x1 ((0 : Int32)) ((0 : Int32))
    · refine j_ldc2 (v := (-4611686018427387904 : Int64)) C dX5_mean_19 tw_604 ?_
      exact j_lret C dX5_mean_22
set_option maxRecDepth 100000 in
set_option maxHeartbeats 4000000 in
theorem ct_X5_firstOtherwise (γ : Gm) (E : Ev) (M : Mi) (L : Ml) (c1 : Nat) (x2 : Int32) (h0 : XAt E) (h1 : SAt E c1) : Ct γ yX5_firstOtherwise cX5_firstOtherwise 4 (some .int) ⟨5, 0, 0, 117⟩ [.ref (E.2.1 0), .ref (E.2.1 c1), .int x2] E M L (Q_iw γ E) 0 0 (F_X5_firstOtherwise E c1 M L x2) := by
  refine ct_of (own := RX5) (lv := [some (.ref (E.2.1 0)), some (.ref (E.2.1 c1)), some (.int x2), none]) (by decide +kernel) rfl rfl (Nat.le_of_ble_eq_true rfl) (fun κ C hγ hN => ?_)
  subst hγ
  have hn : ∀ i, i < 4 → i < knL κ := fun i h => by rw [hN]; exact h
  have k2 : ∀ (n : Nat) (M : Mi) (L : Ml) (x2 : Int32) (x3 : Int32), JF κ (PQ κ (Q_iw (kγ κ) E) 0 0) 2 [some (.ref (E.2.1 0)), some (.ref (E.2.1 c1)), some (.int x2), some (.int x3)] [] E M L 0 0 (F_X5_firstOtherwise_k2 E c1 n M L x2 x3) := by
    intro n
    induction n with
    | zero => intros; exact jf_none
    | succ n ih =>
      intro M L x2 x3
      unfold F_X5_firstOtherwise_k2
      refine j_iload_n C dX5_firstOtherwise_2 rfl rfl ?_
      refine j_aload_n C dX5_firstOtherwise_3 rfl rfl ?_
      refine j_getI (j := 2) C dX5_firstOtherwise_4 FC3 (SAt.S h1) (by decide) rfl tw_240 ?_
      refine j_icmp_ge (tgt := 63) C dX5_firstOtherwise_7 (by decide) ?_ ?_
      · refine j_iconst (v := (-1 : Int32)) C dX5_firstOtherwise_63 rfl ?_
        exact j_iretw C dX5_firstOtherwise_64
      · refine j_aload_n C dX5_firstOtherwise_10 rfl rfl ?_
        refine j_getR (j := 4) C dX5_firstOtherwise_11 FC5 (XAt.S h0) (by decide) rfl (XAt.R_law h0) tw_430 ?_
        refine j_aload_n C dX5_firstOtherwise_14 rfl rfl ?_
        refine j_getR (j := 1) C dX5_firstOtherwise_15 FC5 (XAt.S h0) (by decide) rfl (XAt.R_thought h0) tw_427 ?_
        refine j_iload_n C dX5_firstOtherwise_18 rfl rfl ?_
        refine j_iconst (v := (0 : Int32)) C dX5_firstOtherwise_19 rfl ?_
        refine j_callV_iw (st := []) C dX5_firstOtherwise_20 (ct_X1_passOne (kγ κ) E M L 6 x2 (0 : Int32) (XAt.P_law h0) (XAt.P_thought h0)) mi_X1_passOne tw_710 FC1 (LAt.S (XAt.P_law h0)) rfl rfl (Nat.le_of_ble_eq_true rfl) ⟨⟨rfl, rfl⟩, ⟨Nat.le_of_ble_eq_true rfl, Nat.le_of_ble_eq_true rfl⟩, ⟨Nat.zero_le _, Nat.zero_le _⟩⟩ (fun r20 => ?_)
        refine j_pc (pc2 := 23) rfl ?_
        refine j_pop C dX5_firstOtherwise_23 rfl ?_
        refine j_aload_n C dX5_firstOtherwise_24 rfl rfl ?_
        refine j_getR (j := 1) C dX5_firstOtherwise_25 FC5 (XAt.S h0) (by decide) rfl (XAt.R_thought h0) tw_427 ?_
        refine j_dup C dX5_firstOtherwise_28 rfl ?_
        refine j_getI (j := 2) C dX5_firstOtherwise_29 FC0 (FAt.S (XAt.P_thought h0)) (by decide) rfl tw_135 ?_
        refine j_iconst (v := (1 : Int32)) C dX5_firstOtherwise_32 rfl ?_
        refine j_iadd C dX5_firstOtherwise_33 ?_
        refine j_putI (j := 2) C dX5_firstOtherwise_34 FC0 (FAt.S (XAt.P_thought h0)) (by decide) rfl rfl rfl rfl tw_135 ?_
        refine j_pc (pc2 := 37) rfl ?_
        refine j_aload_n C dX5_firstOtherwise_37 rfl rfl ?_
        refine j_getR (j := 0) C dX5_firstOtherwise_38 FC3 (SAt.S h1) (by decide) rfl (SAt.R_items h1) tw_236 ?_
        refine j_iload_n C dX5_firstOtherwise_41 rfl rfl ?_
        refine j_iald C dX5_firstOtherwise_42 (SAt.P_items h1) ?_
        refine j_aload_n C dX5_firstOtherwise_43 rfl rfl ?_
        refine j_getR (j := 1) C dX5_firstOtherwise_44 FC5 (XAt.S h0) (by decide) rfl (XAt.R_thought h0) tw_427 ?_
        refine j_getR (j := 7) C dX5_firstOtherwise_47 FC0 (FAt.S (XAt.P_thought h0)) (by decide) rfl (FAt.R_on (XAt.P_thought h0)) tw_148 ?_
        refine j_iload_n C dX5_firstOtherwise_50 rfl rfl ?_
        refine j_pc (pc2 := 51) rfl ?_
        refine j_iald C dX5_firstOtherwise_51 (FAt.P_on (XAt.P_thought h0)) ?_
        refine j_icmp_eq (tgt := 57) C dX5_firstOtherwise_52 (by decide) ?_ ?_
        · refine j_iinc (i := 3) (v := (x3 + (1 : Int32))) (lv' := [some (.ref (E.2.1 0)), some (.ref (E.2.1 c1)), some (.int x2), some (.int (x3 + (1 : Int32)))]) C dX5_firstOtherwise_57 rfl rfl (hn 3 (by decide)) rfl ?_
          refine j_goto (tgt := 2) C dX5_firstOtherwise_60 (by decide) ?_
          exact ih ((up2 r20.2.1 6 2 ((r20.2.1 6 2) + (1 : Int32)))) r20.2.2 x2 ((x3 + (1 : Int32)))
        · refine j_iload_n C dX5_firstOtherwise_55 rfl rfl ?_
          exact j_iretw C dX5_firstOtherwise_56
  unfold F_X5_firstOtherwise
  refine j_iconst (v := (0 : Int32)) C dX5_firstOtherwise_0 rfl ?_
  refine j_istore_n (i := 3) (lv' := [some (.ref (E.2.1 0)), some (.ref (E.2.1 c1)), some (.int x2), some (.int (0 : Int32))]) C dX5_firstOtherwise_1 rfl (hn 3 (by decide)) rfl ?_
  exact k2 FU M L x2 ((0 : Int32))
set_option maxRecDepth 100000 in
set_option maxHeartbeats 4000000 in
theorem ct_X5_bitsTold (γ : Gm) (E : Ev) (M : Mi) (L : Ml) (c1 : Nat) (x2 : Int32) (x3 : Int32) (h0 : XAt E) (h1 : SAt E c1) : Ct γ yX5_bitsTold cX5_bitsTold 7 (some .int) ⟨6, 0, 0, 140⟩ [.ref (E.2.1 0), .ref (E.2.1 c1), .int x2, .int x3] E M L (Q_iw γ E) 0 0 (F_X5_bitsTold E c1 M L x2 x3) := by
  refine ct_of (own := RX5) (lv := [some (.ref (E.2.1 0)), some (.ref (E.2.1 c1)), some (.int x2), some (.int x3), none, none, none]) (by decide +kernel) rfl rfl (Nat.le_of_ble_eq_true rfl) (fun κ C hγ hN => ?_)
  subst hγ
  have hn : ∀ i, i < 7 → i < knL κ := fun i h => by rw [hN]; exact h
  have k150 : ∀ (kf50 : Mi → Ml → Int32 → Int32 → Int32 → Int32 → Int32 → Option (Int32 × Mi × Ml)), (∀ (M : Mi) (L : Ml) (x2 : Int32) (x3 : Int32) (x4 : Int32) (x5 : Int32) (x6 : Int32), JF κ (PQ κ (Q_iw (kγ κ) E) 0 0) 50 [some (.ref (E.2.1 0)), some (.ref (E.2.1 c1)), some (.int x2), some (.int x3), some (.int x4), some (.int x5), some (.int x6)] [] E M L 0 0 (kf50 M L x2 x3 x4 x5 x6)) → ∀ (M : Mi) (L : Ml) (x2 : Int32) (x3 : Int32) (x4 : Int32) (x5 : Int32) (x6 : Int32), JF κ (PQ κ (Q_iw (kγ κ) E) 0 0) 150 [some (.ref (E.2.1 0)), some (.ref (E.2.1 c1)), some (.int x2), some (.int x3), some (.int x4), some (.int x5), some (.int x6)] [] E M L 0 0 (F_X5_bitsTold_k150 E c1 kf50 M L x2 x3 x4 x5 x6) := by
    intro kf50 hkf50 M L x2 x3 x4 x5 x6
    unfold F_X5_bitsTold_k150
    refine j_iinc (i := 6) (v := (x6 + (1 : Int32))) (lv' := [some (.ref (E.2.1 0)), some (.ref (E.2.1 c1)), some (.int x2), some (.int x3), some (.int x4), some (.int x5), some (.int (x6 + (1 : Int32)))]) C dX5_bitsTold_150 rfl rfl (hn 6 (by decide)) rfl ?_
    refine j_goto (tgt := 50) C dX5_bitsTold_153 (by decide) ?_
    exact hkf50 M L x2 x3 x4 x5 ((x6 + (1 : Int32)))
  have k134 : ∀ (kf50 : Mi → Ml → Int32 → Int32 → Int32 → Int32 → Int32 → Option (Int32 × Mi × Ml)), (∀ (M : Mi) (L : Ml) (x2 : Int32) (x3 : Int32) (x4 : Int32) (x5 : Int32) (x6 : Int32), JF κ (PQ κ (Q_iw (kγ κ) E) 0 0) 50 [some (.ref (E.2.1 0)), some (.ref (E.2.1 c1)), some (.int x2), some (.int x3), some (.int x4), some (.int x5), some (.int x6)] [] E M L 0 0 (kf50 M L x2 x3 x4 x5 x6)) → ∀ (M : Mi) (L : Ml) (x2 : Int32) (x3 : Int32) (x4 : Int32) (x5 : Int32) (x6 : Int32) (s2 : Int32), JF κ (PQ κ (Q_iw (kγ κ) E) 0 0) 134 [some (.ref (E.2.1 0)), some (.ref (E.2.1 c1)), some (.int x2), some (.int x3), some (.int x4), some (.int x5), some (.int x6)] [.int s2, .ref (E.2.1 c1), .ref (E.2.1 0)] E M L 0 0 (F_X5_bitsTold_k134 E c1 kf50 M L x2 x3 x4 x5 x6 s2) := by
    intro kf50 hkf50 M L x2 x3 x4 x5 x6 s2
    unfold F_X5_bitsTold_k134
    refine j_callV_iw (st := []) C dX5_bitsTold_134 (ct_X5_firstOtherwise (kγ κ) E M L c1 s2 h0 h1) mi_X5_firstOtherwise tw_706 FC5 (XAt.S h0) rfl rfl (Nat.le_of_ble_eq_true rfl) ⟨⟨rfl, rfl⟩, ⟨Nat.le_of_ble_eq_true rfl, Nat.le_of_ble_eq_true rfl⟩, ⟨Nat.zero_le _, Nat.zero_le _⟩⟩ (fun r134 => ?_)
    refine j_iconst (v := (-1 : Int32)) C dX5_bitsTold_137 rfl ?_
    refine j_icmp_ne (tgt := 150) C dX5_bitsTold_138 (by decide) ?_ ?_
    · exact k150 kf50 hkf50 r134.2.1 r134.2.2 x2 x3 x4 x5 x6
    · refine j_iload C dX5_bitsTold_141 rfl ?_
      refine j_iconst (v := (1 : Int32)) C dX5_bitsTold_143 rfl ?_
      refine j_iload C dX5_bitsTold_144 rfl ?_
      refine j_ishl C dX5_bitsTold_146 ?_
      refine j_ior C dX5_bitsTold_147 ?_
      refine j_istore (i := 4) (lv' := [some (.ref (E.2.1 0)), some (.ref (E.2.1 c1)), some (.int x2), some (.int x3), some (.int (x4 ||| (ishl (1 : Int32) x6))), some (.int x5), some (.int x6)]) C dX5_bitsTold_148 (hn 4 (by decide)) rfl ?_
      exact k150 kf50 hkf50 r134.2.1 r134.2.2 x2 x3 ((x4 ||| (ishl (1 : Int32) x6))) x5 x6
  have k120 : ∀ (kf50 : Mi → Ml → Int32 → Int32 → Int32 → Int32 → Int32 → Option (Int32 × Mi × Ml)), (∀ (M : Mi) (L : Ml) (x2 : Int32) (x3 : Int32) (x4 : Int32) (x5 : Int32) (x6 : Int32), JF κ (PQ κ (Q_iw (kγ κ) E) 0 0) 50 [some (.ref (E.2.1 0)), some (.ref (E.2.1 c1)), some (.int x2), some (.int x3), some (.int x4), some (.int x5), some (.int x6)] [] E M L 0 0 (kf50 M L x2 x3 x4 x5 x6)) → ∀ (M : Mi) (L : Ml) (x2 : Int32) (x3 : Int32) (x4 : Int32) (x5 : Int32) (x6 : Int32), JF κ (PQ κ (Q_iw (kγ κ) E) 0 0) 120 [some (.ref (E.2.1 0)), some (.ref (E.2.1 c1)), some (.int x2), some (.int x3), some (.int x4), some (.int x5), some (.int x6)] [] E M L 0 0 (F_X5_bitsTold_k120 E c1 kf50 M L x2 x3 x4 x5 x6) := by
    intro kf50 hkf50 M L x2 x3 x4 x5 x6
    unfold F_X5_bitsTold_k120
    refine j_aload_n C dX5_bitsTold_120 rfl rfl ?_
    refine j_aload_n C dX5_bitsTold_121 rfl rfl ?_
    refine j_iload_n C dX5_bitsTold_122 rfl rfl ?_
    refine j_bipush (v := (6 : Int32)) C dX5_bitsTold_123 (by decide) ?_
    refine j_icmp_ne (tgt := 133) C dX5_bitsTold_125 (by decide) ?_ ?_
    · refine j_iload_n C dX5_bitsTold_133 rfl rfl ?_
      exact k134 kf50 hkf50 M L x2 x3 x4 x5 x6 x2
    · refine j_iload C dX5_bitsTold_128 rfl ?_
      refine j_goto (tgt := 134) C dX5_bitsTold_130 (by decide) ?_
      exact k134 kf50 hkf50 M L x2 x3 x4 x5 x6 x6
  have k50 : ∀ (n : Nat) (M : Mi) (L : Ml) (x2 : Int32) (x3 : Int32) (x4 : Int32) (x5 : Int32) (x6 : Int32), JF κ (PQ κ (Q_iw (kγ κ) E) 0 0) 50 [some (.ref (E.2.1 0)), some (.ref (E.2.1 c1)), some (.int x2), some (.int x3), some (.int x4), some (.int x5), some (.int x6)] [] E M L 0 0 (F_X5_bitsTold_k50 E c1 n M L x2 x3 x4 x5 x6) := by
    intro n
    induction n with
    | zero => intros; exact jf_none
    | succ n ih =>
      intro M L x2 x3 x4 x5 x6
      unfold F_X5_bitsTold_k50
      refine j_iload C dX5_bitsTold_50 rfl ?_
      refine j_iload C dX5_bitsTold_52 rfl ?_
      refine j_icmp_ge (tgt := 156) C dX5_bitsTold_54 (by decide) ?_ ?_
      · refine j_iload C dX5_bitsTold_156 rfl ?_
        exact j_iretw C dX5_bitsTold_158
      · refine j_aload_n C dX5_bitsTold_57 rfl rfl ?_
        refine j_getR (j := 1) C dX5_bitsTold_58 FC5 (XAt.S h0) (by decide) rfl (XAt.R_thought h0) tw_427 ?_
        refine j_aload_n C dX5_bitsTold_61 rfl rfl ?_
        refine j_getR (j := 0) C dX5_bitsTold_62 FC5 (XAt.S h0) (by decide) rfl (XAt.R_now h0) tw_426 ?_
        refine j_callV_vw (st := []) C dX5_bitsTold_65 (ct_X0_become (kγ κ) E M L 6 1 (XAt.P_thought h0) (XAt.P_now h0)) mi_X0_become tw_643 FC0 (FAt.S (XAt.P_thought h0)) rfl rfl (Nat.le_of_ble_eq_true rfl) ⟨⟨rfl, rfl⟩, ⟨Nat.le_of_ble_eq_true rfl, Nat.le_of_ble_eq_true rfl⟩, ⟨Nat.zero_le _, Nat.zero_le _⟩⟩ (fun r65 => ?_)
        refine j_iload_n C dX5_bitsTold_68 rfl rfl ?_
        refine j_iconst (v := (1 : Int32)) C dX5_bitsTold_69 rfl ?_
        refine j_pc (pc2 := 70) rfl ?_
        refine j_icmp_ne (tgt := 87) C dX5_bitsTold_70 (by decide) ?_ ?_
        · refine j_iload_n C dX5_bitsTold_87 rfl rfl ?_
          refine j_iconst (v := (2 : Int32)) C dX5_bitsTold_88 rfl ?_
          refine j_icmp_ne (tgt := 106) C dX5_bitsTold_89 (by decide) ?_ ?_
          · refine j_iload_n C dX5_bitsTold_106 rfl rfl ?_
            refine j_iconst (v := (5 : Int32)) C dX5_bitsTold_107 rfl ?_
            refine j_icmp_ne (tgt := 120) C dX5_bitsTold_108 (by decide) ?_ ?_
            · exact k120 (F_X5_bitsTold_k50 E c1 n) ih r65.1 r65.2 x2 x3 x4 x5 x6
            · refine j_aload_n C dX5_bitsTold_111 rfl rfl ?_
              refine j_getR (j := 1) C dX5_bitsTold_112 FC5 (XAt.S h0) (by decide) rfl (XAt.R_thought h0) tw_427 ?_
              refine j_iload C dX5_bitsTold_115 rfl ?_
              refine j_putI (j := 4) C dX5_bitsTold_117 FC0 (FAt.S (XAt.P_thought h0)) (by decide) rfl rfl rfl rfl tw_142 ?_
              exact k120 (F_X5_bitsTold_k50 E c1 n) ih ((up2 r65.1 6 4 x6)) r65.2 x2 x3 x4 x5 x6
          · refine j_aload_n C dX5_bitsTold_92 rfl rfl ?_
            refine j_getR (j := 1) C dX5_bitsTold_93 FC5 (XAt.S h0) (by decide) rfl (XAt.R_thought h0) tw_427 ?_
            refine j_getR (j := 6) C dX5_bitsTold_96 FC0 (FAt.S (XAt.P_thought h0)) (by decide) rfl (FAt.R_number (XAt.P_thought h0)) tw_146 ?_
            refine j_iload_n C dX5_bitsTold_99 rfl rfl ?_
            refine j_iload C dX5_bitsTold_100 rfl ?_
            refine j_iast C dX5_bitsTold_102 (FAt.P_number (XAt.P_thought h0)) ?_
            refine j_goto (tgt := 120) C dX5_bitsTold_103 (by decide) ?_
            exact k120 (F_X5_bitsTold_k50 E c1 n) ih ((up2 r65.1 8 (Int32.toNatClampNeg x2) x6)) r65.2 x2 x3 x4 x5 x6
        · refine j_aload_n C dX5_bitsTold_73 rfl rfl ?_
          refine j_getR (j := 1) C dX5_bitsTold_74 FC5 (XAt.S h0) (by decide) rfl (XAt.R_thought h0) tw_427 ?_
          refine j_getR (j := 5) C dX5_bitsTold_77 FC0 (FAt.S (XAt.P_thought h0)) (by decide) rfl (FAt.R_kind (XAt.P_thought h0)) tw_144 ?_
          refine j_iload_n C dX5_bitsTold_80 rfl rfl ?_
          refine j_iload C dX5_bitsTold_81 rfl ?_
          refine j_iast C dX5_bitsTold_83 (FAt.P_kind (XAt.P_thought h0)) ?_
          refine j_goto (tgt := 120) C dX5_bitsTold_84 (by decide) ?_
          exact k120 (F_X5_bitsTold_k50 E c1 n) ih ((up2 r65.1 7 (Int32.toNatClampNeg x2) x6)) r65.2 x2 x3 x4 x5 x6
  have k45 : ∀ (M : Mi) (L : Ml) (x2 : Int32) (x3 : Int32) (x4 : Int32) (s0 : Int32), JF κ (PQ κ (Q_iw (kγ κ) E) 0 0) 45 [some (.ref (E.2.1 0)), some (.ref (E.2.1 c1)), some (.int x2), some (.int x3), some (.int x4), none, none] [.int s0] E M L 0 0 (F_X5_bitsTold_k45 E c1 M L x2 x3 x4 s0) := by
    intro M L x2 x3 x4 s0
    unfold F_X5_bitsTold_k45
    refine j_istore (i := 5) (lv' := [some (.ref (E.2.1 0)), some (.ref (E.2.1 c1)), some (.int x2), some (.int x3), some (.int x4), some (.int s0), none]) C dX5_bitsTold_45 (hn 5 (by decide)) rfl ?_
    refine j_iconst (v := (0 : Int32)) C dX5_bitsTold_47 rfl ?_
    refine j_istore (i := 6) (lv' := [some (.ref (E.2.1 0)), some (.ref (E.2.1 c1)), some (.int x2), some (.int x3), some (.int x4), some (.int s0), some (.int (0 : Int32))]) C dX5_bitsTold_48 (hn 6 (by decide)) rfl ?_
    exact k50 FU M L x2 x3 x4 s0 ((0 : Int32))
  unfold F_X5_bitsTold
  refine j_iconst (v := (0 : Int32)) C dX5_bitsTold_0 rfl ?_
  refine j_istore (i := 4) (lv' := [some (.ref (E.2.1 0)), some (.ref (E.2.1 c1)), some (.int x2), some (.int x3), some (.int (0 : Int32)), none, none]) C dX5_bitsTold_1 (hn 4 (by decide)) rfl ?_
  refine j_iload_n C dX5_bitsTold_3 rfl rfl ?_
  refine j_iconst (v := (1 : Int32)) C dX5_bitsTold_4 rfl ?_
  refine j_icmp_ne (tgt := 13) C dX5_bitsTold_5 (by decide) ?_ ?_
  · refine j_iload_n C dX5_bitsTold_13 rfl rfl ?_
    refine j_iconst (v := (2 : Int32)) C dX5_bitsTold_14 rfl ?_
    refine j_icmp_ne (tgt := 23) C dX5_bitsTold_15 (by decide) ?_ ?_
    · refine j_iload_n C dX5_bitsTold_23 rfl rfl ?_
      refine j_iconst (v := (5 : Int32)) C dX5_bitsTold_24 rfl ?_
      refine j_icmp_ne (tgt := 38) C dX5_bitsTold_25 (by decide) ?_ ?_
      · refine j_aload_n C dX5_bitsTold_38 rfl rfl ?_
        refine j_getR (j := 0) C dX5_bitsTold_39 FC5 (XAt.S h0) (by decide) rfl (XAt.R_now h0) tw_426 ?_
        refine j_getI (j := 3) C dX5_bitsTold_42 FC0 (FAt.S (XAt.P_now h0)) (by decide) rfl tw_139 ?_
        exact k45 M L x2 x3 ((0 : Int32)) ((M 1 3))
      · refine j_aload_n C dX5_bitsTold_28 rfl rfl ?_
        refine j_getR (j := 4) C dX5_bitsTold_29 FC5 (XAt.S h0) (by decide) rfl (XAt.R_law h0) tw_430 ?_
        refine j_getI (j := 2) C dX5_bitsTold_32 FC1 (LAt.S (XAt.P_law h0)) (by decide) rfl tw_184 ?_
        refine j_goto (tgt := 45) C dX5_bitsTold_35 (by decide) ?_
        exact k45 M L x2 x3 ((0 : Int32)) ((M 21 2))
    · refine j_bipush (v := (10 : Int32)) C dX5_bitsTold_18 (by decide) ?_
      refine j_goto (tgt := 45) C dX5_bitsTold_20 (by decide) ?_
      exact k45 M L x2 x3 ((0 : Int32)) ((10 : Int32))
  · refine j_bipush (v := (6 : Int32)) C dX5_bitsTold_8 (by decide) ?_
    refine j_goto (tgt := 45) C dX5_bitsTold_10 (by decide) ?_
    exact k45 M L x2 x3 ((0 : Int32)) ((6 : Int32))
set_option maxRecDepth 100000 in
set_option maxHeartbeats 4000000 in
theorem ct_X5_sheetAt (γ : Gm) (E : Ev) (M : Mi) (L : Ml)  (x1 : Int32) (h0 : XAt E) : Ct γ yX5_sheetAt cX5_sheetAt 2 (some (.object RX3)) ⟨1, 0, 0, 21⟩ [.ref (E.2.1 0), .int x1] E M L (Q_o γ E M L) 0 0 (F_X5_sheetAt M L x1) := by
  refine ct_of (own := RX5) (lv := [some (.ref (E.2.1 0)), some (.int x1)]) (by decide +kernel) rfl rfl (Nat.le_of_ble_eq_true rfl) (fun κ C hγ hN => ?_)
  subst hγ
  have hn : ∀ i, i < 2 → i < knL κ := fun i h => by rw [hN]; exact h
  unfold F_X5_sheetAt
  refine j_iload_n C dX5_sheetAt_0 rfl rfl ?_
  refine j_iconst (v := (3 : Int32)) C dX5_sheetAt_1 rfl ?_
  refine j_callS_i (st := []) C dX5_sheetAt_2 (ct_X5_isWithin (kγ κ) E M L x1 (3 : Int32)) mi_X5_isWithin tw_459 rfl rfl (Nat.le_of_ble_eq_true rfl) ⟨⟨rfl, rfl⟩, ⟨Nat.le_of_ble_eq_true rfl, Nat.le_of_ble_eq_true rfl⟩, ⟨Nat.zero_le _, Nat.zero_le _⟩⟩ (fun v2 => ?_)
  refine j_if_eq (tgt := 17) C dX5_sheetAt_5 (by decide) ?_ ?_
  · refine j_null C dX5_sheetAt_17 ?_
    exact j_aretN C dX5_sheetAt_18
  · refine j_aload_n C dX5_sheetAt_8 rfl rfl ?_
    refine j_getR (j := 6) C dX5_sheetAt_9 FC5 (XAt.S h0) (by decide) rfl (XAt.R_sheets h0) tw_432 ?_
    refine j_iload_n C dX5_sheetAt_12 rfl rfl ?_
    refine j_aaldR (t := 0) C dX5_sheetAt_13 (XAt.P_sheets h0) (by decide) (fun q => XAt.sheetR h0 q) ?_
    refine j_goto (tgt := 18) C dX5_sheetAt_14 (by decide) ?_
    exact j_aretO C dX5_sheetAt_18
set_option maxRecDepth 100000 in
set_option maxHeartbeats 4000000 in
theorem ct_X5_wearyTold (γ : Gm) (E : Ev) (M : Mi) (L : Ml) (c1 : Nat) (x2 : Int32) (x3 : Int32) (h0 : XAt E) (h1 : SAt E c1) : Ct γ yX5_wearyTold cX5_wearyTold 7 (some .int) ⟨6, 0, 0, 140⟩ [.ref (E.2.1 0), .ref (E.2.1 c1), .int x2, .int x3] E M L (Q_iw γ E) 0 0 (F_X5_wearyTold E c1 M L x2 x3) := by
  refine ct_of (own := RX5) (lv := [some (.ref (E.2.1 0)), some (.ref (E.2.1 c1)), some (.int x2), some (.int x3), none, none, none]) (by decide +kernel) rfl rfl (Nat.le_of_ble_eq_true rfl) (fun κ C hγ hN => ?_)
  subst hγ
  have hn : ∀ i, i < 7 → i < knL κ := fun i h => by rw [hN]; exact h
  have k66 : ∀ (kf9 : Mi → Ml → Int32 → Int32 → Int32 → Int32 → Int32 → Option (Int32 × Mi × Ml)), (∀ (M : Mi) (L : Ml) (x2 : Int32) (x3 : Int32) (x4 : Int32) (x5 : Int32) (x6 : Int32), JF κ (PQ κ (Q_iw (kγ κ) E) 0 0) 9 [some (.ref (E.2.1 0)), some (.ref (E.2.1 c1)), some (.int x2), some (.int x3), some (.int x4), some (.int x5), some (.int x6)] [] E M L 0 0 (kf9 M L x2 x3 x4 x5 x6)) → ∀ (M : Mi) (L : Ml) (x2 : Int32) (x3 : Int32) (x4 : Int32) (x5 : Int32) (x6 : Int32), JF κ (PQ κ (Q_iw (kγ κ) E) 0 0) 66 [some (.ref (E.2.1 0)), some (.ref (E.2.1 c1)), some (.int x2), some (.int x3), some (.int x4), some (.int x5), some (.int x6)] [] E M L 0 0 (F_X5_wearyTold_k66 E c1 kf9 M L x2 x3 x4 x5 x6) := by
    intro kf9 hkf9 M L x2 x3 x4 x5 x6
    unfold F_X5_wearyTold_k66
    refine j_iinc (i := 6) (v := (x6 + (1 : Int32))) (lv' := [some (.ref (E.2.1 0)), some (.ref (E.2.1 c1)), some (.int x2), some (.int x3), some (.int x4), some (.int x5), some (.int (x6 + (1 : Int32)))]) C dX5_wearyTold_66 rfl rfl (hn 6 (by decide)) rfl ?_
    refine j_goto (tgt := 9) C dX5_wearyTold_69 (by decide) ?_
    exact hkf9 M L x2 x3 x4 x5 ((x6 + (1 : Int32)))
  have k64 : ∀ (kf9 : Mi → Ml → Int32 → Int32 → Int32 → Int32 → Int32 → Option (Int32 × Mi × Ml)), (∀ (M : Mi) (L : Ml) (x2 : Int32) (x3 : Int32) (x4 : Int32) (x5 : Int32) (x6 : Int32), JF κ (PQ κ (Q_iw (kγ κ) E) 0 0) 9 [some (.ref (E.2.1 0)), some (.ref (E.2.1 c1)), some (.int x2), some (.int x3), some (.int x4), some (.int x5), some (.int x6)] [] E M L 0 0 (kf9 M L x2 x3 x4 x5 x6)) → ∀ (M : Mi) (L : Ml) (x2 : Int32) (x3 : Int32) (x4 : Int32) (x6 : Int32) (s0 : Int32), JF κ (PQ κ (Q_iw (kγ κ) E) 0 0) 64 [some (.ref (E.2.1 0)), some (.ref (E.2.1 c1)), some (.int x2), some (.int x3), some (.int x4), none, some (.int x6)] [.int s0] E M L 0 0 (F_X5_wearyTold_k64 E c1 kf9 M L x2 x3 x4 x6 s0) := by
    intro kf9 hkf9 M L x2 x3 x4 x6 s0
    unfold F_X5_wearyTold_k64
    refine j_istore (i := 5) (lv' := [some (.ref (E.2.1 0)), some (.ref (E.2.1 c1)), some (.int x2), some (.int x3), some (.int x4), some (.int s0), some (.int x6)]) C dX5_wearyTold_64 (hn 5 (by decide)) rfl ?_
    exact k66 kf9 hkf9 M L x2 x3 x4 s0 x6
  have k9 : ∀ (n : Nat) (M : Mi) (L : Ml) (x2 : Int32) (x3 : Int32) (x4 : Int32) (x5 : Int32) (x6 : Int32), JF κ (PQ κ (Q_iw (kγ κ) E) 0 0) 9 [some (.ref (E.2.1 0)), some (.ref (E.2.1 c1)), some (.int x2), some (.int x3), some (.int x4), some (.int x5), some (.int x6)] [] E M L 0 0 (F_X5_wearyTold_k9 E c1 n M L x2 x3 x4 x5 x6) := by
    intro n
    induction n with
    | zero => intros; exact jf_none
    | succ n ih =>
      intro M L x2 x3 x4 x5 x6
      unfold F_X5_wearyTold_k9
      refine j_iload C dX5_wearyTold_9 rfl ?_
      refine j_bipush (v := (99 : Int32)) C dX5_wearyTold_11 (by decide) ?_
      refine j_icmp_gt (tgt := 72) C dX5_wearyTold_13 (by decide) ?_ ?_
      · refine j_iload_n C dX5_wearyTold_72 rfl rfl ?_
        refine j_iconst (v := (3 : Int32)) C dX5_wearyTold_73 rfl ?_
        refine j_icmp_ne (tgt := 82) C dX5_wearyTold_74 (by decide) ?_ ?_
        · refine j_iload C dX5_wearyTold_82 rfl ?_
          exact j_iretw C dX5_wearyTold_84
        · refine j_iload C dX5_wearyTold_77 rfl ?_
          refine j_goto (tgt := 84) C dX5_wearyTold_79 (by decide) ?_
          exact j_iretw C dX5_wearyTold_84
      · refine j_aload_n C dX5_wearyTold_16 rfl rfl ?_
        refine j_getR (j := 1) C dX5_wearyTold_17 FC5 (XAt.S h0) (by decide) rfl (XAt.R_thought h0) tw_427 ?_
        refine j_aload_n C dX5_wearyTold_20 rfl rfl ?_
        refine j_getR (j := 0) C dX5_wearyTold_21 FC5 (XAt.S h0) (by decide) rfl (XAt.R_now h0) tw_426 ?_
        refine j_callV_vw (st := []) C dX5_wearyTold_24 (ct_X0_become (kγ κ) E M L 6 1 (XAt.P_thought h0) (XAt.P_now h0)) mi_X0_become tw_643 FC0 (FAt.S (XAt.P_thought h0)) rfl rfl (Nat.le_of_ble_eq_true rfl) ⟨⟨rfl, rfl⟩, ⟨Nat.le_of_ble_eq_true rfl, Nat.le_of_ble_eq_true rfl⟩, ⟨Nat.zero_le _, Nat.zero_le _⟩⟩ (fun r24 => ?_)
        refine j_aload_n C dX5_wearyTold_27 rfl rfl ?_
        refine j_getR (j := 1) C dX5_wearyTold_28 FC5 (XAt.S h0) (by decide) rfl (XAt.R_thought h0) tw_427 ?_
        refine j_pc (pc2 := 31) rfl ?_
        refine j_getR (j := 8) C dX5_wearyTold_31 FC0 (FAt.S (XAt.P_thought h0)) (by decide) rfl (FAt.R_weary (XAt.P_thought h0)) tw_151 ?_
        refine j_iload_n C dX5_wearyTold_34 rfl rfl ?_
        refine j_iload C dX5_wearyTold_35 rfl ?_
        refine j_iast C dX5_wearyTold_37 (FAt.P_weary (XAt.P_thought h0)) ?_
        refine j_aload_n C dX5_wearyTold_38 rfl rfl ?_
        refine j_aload_n C dX5_wearyTold_39 rfl rfl ?_
        refine j_iload_n C dX5_wearyTold_40 rfl rfl ?_
        refine j_callV_iw (st := []) C dX5_wearyTold_41 (ct_X5_firstOtherwise (kγ κ) E (up2 r24.1 10 (Int32.toNatClampNeg x2) x6) r24.2 c1 x2 h0 h1) mi_X5_firstOtherwise tw_706 FC5 (XAt.S h0) rfl rfl (Nat.le_of_ble_eq_true rfl) ⟨⟨rfl, rfl⟩, ⟨Nat.le_of_ble_eq_true rfl, Nat.le_of_ble_eq_true rfl⟩, ⟨Nat.zero_le _, Nat.zero_le _⟩⟩ (fun r41 => ?_)
        refine j_pc (pc2 := 44) rfl ?_
        refine j_iconst (v := (-1 : Int32)) C dX5_wearyTold_44 rfl ?_
        refine j_icmp_ne (tgt := 66) C dX5_wearyTold_45 (by decide) ?_ ?_
        · exact k66 (F_X5_wearyTold_k9 E c1 n) ih r41.2.1 r41.2.2 x2 x3 x4 x5 x6
        · refine j_iinc (i := 4) (v := (x4 + (1 : Int32))) (lv' := [some (.ref (E.2.1 0)), some (.ref (E.2.1 c1)), some (.int x2), some (.int x3), some (.int (x4 + (1 : Int32))), some (.int x5), some (.int x6)]) C dX5_wearyTold_48 rfl rfl (hn 4 (by decide)) rfl ?_
          refine j_iload C dX5_wearyTold_51 rfl ?_
          refine j_iconst (v := (-1 : Int32)) C dX5_wearyTold_53 rfl ?_
          refine j_icmp_ne (tgt := 62) C dX5_wearyTold_54 (by decide) ?_ ?_
          · refine j_iload C dX5_wearyTold_62 rfl ?_
            refine j_mask [true, true, true, true, true, false, true] (lv' := [some (.ref (E.2.1 0)), some (.ref (E.2.1 c1)), some (.int x2), some (.int x3), some (.int (x4 + (1 : Int32))), none, some (.int x6)]) rfl ?_
            exact k64 (F_X5_wearyTold_k9 E c1 n) ih r41.2.1 r41.2.2 x2 x3 ((x4 + (1 : Int32))) x6 x5
          · refine j_iload C dX5_wearyTold_57 rfl ?_
            refine j_goto (tgt := 64) C dX5_wearyTold_59 (by decide) ?_
            refine j_mask [true, true, true, true, true, false, true] (lv' := [some (.ref (E.2.1 0)), some (.ref (E.2.1 c1)), some (.int x2), some (.int x3), some (.int (x4 + (1 : Int32))), none, some (.int x6)]) rfl ?_
            exact k64 (F_X5_wearyTold_k9 E c1 n) ih r41.2.1 r41.2.2 x2 x3 ((x4 + (1 : Int32))) x6 x6
  unfold F_X5_wearyTold
  refine j_iconst (v := (0 : Int32)) C dX5_wearyTold_0 rfl ?_
  refine j_istore (i := 4) (lv' := [some (.ref (E.2.1 0)), some (.ref (E.2.1 c1)), some (.int x2), some (.int x3), some (.int (0 : Int32)), none, none]) C dX5_wearyTold_1 (hn 4 (by decide)) rfl ?_
  refine j_iconst (v := (-1 : Int32)) C dX5_wearyTold_3 rfl ?_
  refine j_istore (i := 5) (lv' := [some (.ref (E.2.1 0)), some (.ref (E.2.1 c1)), some (.int x2), some (.int x3), some (.int (0 : Int32)), some (.int (-1 : Int32)), none]) C dX5_wearyTold_4 (hn 5 (by decide)) rfl ?_
  refine j_iconst (v := (0 : Int32)) C dX5_wearyTold_6 rfl ?_
  refine j_istore (i := 6) (lv' := [some (.ref (E.2.1 0)), some (.ref (E.2.1 c1)), some (.int x2), some (.int x3), some (.int (0 : Int32)), some (.int (-1 : Int32)), some (.int (0 : Int32))]) C dX5_wearyTold_7 (hn 6 (by decide)) rfl ?_
  exact k9 FU M L x2 x3 ((0 : Int32)) ((-1 : Int32)) ((0 : Int32))
set_option maxRecDepth 100000 in
set_option maxHeartbeats 4000000 in
theorem ct_X5_tells (γ : Gm) (E : Ev) (M : Mi) (L : Ml)  (x1 : Int32) (x2 : Int32) (x3 : Int32) (h0 : XAt E) : Ct γ yX5_tells cX5_tells 5 (some .int) ⟨7, 0, 0, 166⟩ [.ref (E.2.1 0), .int x1, .int x2, .int x3] E M L (Q_iw γ E) 0 0 (F_X5_tells E M L x1 x2 x3) := by
  refine ct_of (own := RX5) (lv := [some (.ref (E.2.1 0)), some (.int x1), some (.int x2), some (.int x3), none]) (by decide +kernel) rfl rfl (Nat.le_of_ble_eq_true rfl) (fun κ C hγ hN => ?_)
  subst hγ
  have hn : ∀ i, i < 5 → i < knL κ := fun i h => by rw [hN]; exact h
  have k90 : ∀ (M : Mi) (L : Ml) (x2 : Int32) (x3 : Int32) (y4 : Nat) (hy4 : SAt E y4), JF κ (PQ κ (Q_iw (kγ κ) E) 0 0) 90 [some (.ref (E.2.1 0)), none, some (.int x2), some (.int x3), some (.ref (E.2.1 y4))] [] E M L 0 0 (F_X5_tells_k90 E M L x2 x3 y4) := by
    intro M L x2 x3 y4 hy4
    unfold F_X5_tells_k90
    refine j_aload_n C dX5_tells_90 rfl rfl ?_
    refine j_aload C dX5_tells_91 rfl ?_
    refine j_iload_n C dX5_tells_93 rfl rfl ?_
    refine j_iload_n C dX5_tells_94 rfl rfl ?_
    refine j_callV_iw (st := []) C dX5_tells_95 (ct_X5_wearyTold (kγ κ) E M L y4 x2 x3 h0 hy4) mi_X5_wearyTold tw_711 FC5 (XAt.S h0) rfl rfl (Nat.le_of_ble_eq_true rfl) ⟨⟨rfl, rfl⟩, ⟨Nat.le_of_ble_eq_true rfl, Nat.le_of_ble_eq_true rfl⟩, ⟨Nat.zero_le _, Nat.zero_le _⟩⟩ (fun r95 => ?_)
    refine j_goto (tgt := 109) C dX5_tells_98 (by decide) ?_
    exact j_iretw C dX5_tells_109
  unfold F_X5_tells
  refine j_aload_n C dX5_tells_0 rfl rfl ?_
  refine j_iload_n C dX5_tells_1 rfl rfl ?_
  refine j_callV_o (st := []) C dX5_tells_2 (ct_X5_sheetAt (kγ κ) E M L x1 h0) mi_X5_sheetAt tw_702 FC5 (XAt.S h0) rfl rfl (Nat.le_of_ble_eq_true rfl) ⟨⟨rfl, rfl⟩, ⟨Nat.le_of_ble_eq_true rfl, Nat.le_of_ble_eq_true rfl⟩, ⟨Nat.zero_le _, Nat.zero_le _⟩⟩ (fun v2 => ?_)
  refine j_opt ?_ (fun t2 ht2 => ?_)
  · refine j_astoreN (i := 4) (lv' := [some (.ref (E.2.1 0)), some (.int x1), some (.int x2), some (.int x3), some (.null)]) C dX5_tells_5 (hn 4 (by decide)) rfl ?_
    refine j_aloadN C dX5_tells_7 rfl ?_
    refine j_ifnullN (tgt := 29) C dX5_tells_9 (by decide) ?_
    refine j_bipush (v := (-2 : Int32)) C dX5_tells_29 (by decide) ?_
    exact j_iretw C dX5_tells_31
  · refine j_astore (i := 4) (lv' := [some (.ref (E.2.1 0)), some (.int x1), some (.int x2), some (.int x3), some (.ref (E.2.1 t2))]) C dX5_tells_5 (hn 4 (by decide)) rfl ?_
    refine j_aload C dX5_tells_7 rfl ?_
    refine j_ifnull C dX5_tells_9 ?_
    refine j_aload_n C dX5_tells_12 rfl rfl ?_
    refine j_iload_n C dX5_tells_13 rfl rfl ?_
    refine j_callV_i (st := []) C dX5_tells_14 (ct_X5_isParty (kγ κ) E M L x2 h0) mi_X5_isParty tw_469 FC5 (XAt.S h0) rfl rfl (Nat.le_of_ble_eq_true rfl) ⟨⟨rfl, rfl⟩, ⟨Nat.le_of_ble_eq_true rfl, Nat.le_of_ble_eq_true rfl⟩, ⟨Nat.zero_le _, Nat.zero_le _⟩⟩ (fun v14 => ?_)
    refine j_if_eq (tgt := 29) C dX5_tells_17 (by decide) ?_ ?_
    · refine j_bipush (v := (-2 : Int32)) C dX5_tells_29 (by decide) ?_
      exact j_iretw C dX5_tells_31
    · refine j_iload_n C dX5_tells_20 rfl rfl ?_
      refine j_bipush (v := (6 : Int32)) C dX5_tells_21 (by decide) ?_
      refine j_callS_i (st := []) C dX5_tells_23 (ct_X5_isWithin (kγ κ) E M L x3 (6 : Int32)) mi_X5_isWithin tw_459 rfl rfl (Nat.le_of_ble_eq_true rfl) ⟨⟨rfl, rfl⟩, ⟨Nat.le_of_ble_eq_true rfl, Nat.le_of_ble_eq_true rfl⟩, ⟨Nat.zero_le _, Nat.zero_le _⟩⟩ (fun v23 => ?_)
      refine j_if_ne (tgt := 32) C dX5_tells_26 (by decide) ?_ ?_
      · refine j_aload C dX5_tells_32 rfl ?_
        refine j_getI (j := 1) C dX5_tells_34 FC3 (SAt.S (XAt.SA h0 ht2)) (by decide) rfl tw_238 ?_
        refine j_iconst (v := (-1 : Int32)) C dX5_tells_37 rfl ?_
        refine j_icmp_ne (tgt := 44) C dX5_tells_38 (by decide) ?_ ?_
        · refine j_aload C dX5_tells_44 rfl ?_
          refine j_getI (j := 2) C dX5_tells_46 FC3 (SAt.S (XAt.SA h0 ht2)) (by decide) rfl tw_240 ?_
          refine j_bipush (v := (20 : Int32)) C dX5_tells_49 (by decide) ?_
          refine j_icmp_le (tgt := 57) C dX5_tells_51 (by decide) ?_ ?_
          · refine j_iload_n C dX5_tells_57 rfl rfl ?_
            refine j_if_ne (tgt := 80) C dX5_tells_58 (by decide) ?_ ?_
            · refine j_iload_n C dX5_tells_80 rfl rfl ?_
              refine j_iconst (v := (3 : Int32)) C dX5_tells_81 rfl ?_
              refine j_icmp_eq (tgt := 90) C dX5_tells_82 (by decide) ?_ ?_
              · refine j_mask [true, false, true, true, true] (lv' := [some (.ref (E.2.1 0)), none, some (.int x2), some (.int x3), some (.ref (E.2.1 t2))]) rfl ?_
                exact k90 M L x2 x3 t2 (XAt.SA h0 ht2)
              · refine j_iload_n C dX5_tells_85 rfl rfl ?_
                refine j_iconst (v := (4 : Int32)) C dX5_tells_86 rfl ?_
                refine j_icmp_ne (tgt := 101) C dX5_tells_87 (by decide) ?_ ?_
                · refine j_aload_n C dX5_tells_101 rfl rfl ?_
                  refine j_aload C dX5_tells_102 rfl ?_
                  refine j_iload_n C dX5_tells_104 rfl rfl ?_
                  refine j_iload_n C dX5_tells_105 rfl rfl ?_
                  refine j_callV_iw (st := []) C dX5_tells_106 (ct_X5_bitsTold (kγ κ) E M L t2 x2 x3 h0 (XAt.SA h0 ht2)) mi_X5_bitsTold tw_715 FC5 (XAt.S h0) rfl rfl (Nat.le_of_ble_eq_true rfl) ⟨⟨rfl, rfl⟩, ⟨Nat.le_of_ble_eq_true rfl, Nat.le_of_ble_eq_true rfl⟩, ⟨Nat.zero_le _, Nat.zero_le _⟩⟩ (fun r106 => ?_)
                  exact j_iretw C dX5_tells_109
                · refine j_mask [true, false, true, true, true] (lv' := [some (.ref (E.2.1 0)), none, some (.int x2), some (.int x3), some (.ref (E.2.1 t2))]) rfl ?_
                  exact k90 M L x2 x3 t2 (XAt.SA h0 ht2)
            · refine j_aload_n C dX5_tells_61 rfl rfl ?_
              refine j_getR (j := 1) C dX5_tells_62 FC5 (XAt.S h0) (by decide) rfl (XAt.R_thought h0) tw_427 ?_
              refine j_aload_n C dX5_tells_65 rfl rfl ?_
              refine j_getR (j := 0) C dX5_tells_66 FC5 (XAt.S h0) (by decide) rfl (XAt.R_now h0) tw_426 ?_
              refine j_callV_vw (st := []) C dX5_tells_69 (ct_X0_become (kγ κ) E M L 6 1 (XAt.P_thought h0) (XAt.P_now h0)) mi_X0_become tw_643 FC0 (FAt.S (XAt.P_thought h0)) rfl rfl (Nat.le_of_ble_eq_true rfl) ⟨⟨rfl, rfl⟩, ⟨Nat.le_of_ble_eq_true rfl, Nat.le_of_ble_eq_true rfl⟩, ⟨Nat.zero_le _, Nat.zero_le _⟩⟩ (fun r69 => ?_)
              refine j_aload_n C dX5_tells_72 rfl rfl ?_
              refine j_aload C dX5_tells_73 rfl ?_
              refine j_pc (pc2 := 75) rfl ?_
              refine j_iload_n C dX5_tells_75 rfl rfl ?_
              refine j_callV_iw (st := []) C dX5_tells_76 (ct_X5_firstOtherwise (kγ κ) E r69.1 r69.2 t2 x2 h0 (XAt.SA h0 ht2)) mi_X5_firstOtherwise tw_706 FC5 (XAt.S h0) rfl rfl (Nat.le_of_ble_eq_true rfl) ⟨⟨rfl, rfl⟩, ⟨Nat.le_of_ble_eq_true rfl, Nat.le_of_ble_eq_true rfl⟩, ⟨Nat.zero_le _, Nat.zero_le _⟩⟩ (fun r76 => ?_)
              exact j_iretw C dX5_tells_79
          · refine j_bipush (v := (-2 : Int32)) C dX5_tells_54 (by decide) ?_
            exact j_iretw C dX5_tells_56
        · refine j_bipush (v := (-11 : Int32)) C dX5_tells_41 (by decide) ?_
          exact j_iretw C dX5_tells_43
      · refine j_bipush (v := (-2 : Int32)) C dX5_tells_29 (by decide) ?_
        exact j_iretw C dX5_tells_31
set_option maxRecDepth 100000 in
set_option maxHeartbeats 4000000 in
theorem ct_X5_stood (γ : Gm) (E : Ev) (M : Mi) (L : Ml)  (x1 : Int32) (x2 : Int32) (h0 : XAt E) : Ct γ yX5_stood cX5_stood 7 (some .long) ⟨6, 0, 0, 140⟩ [.ref (E.2.1 0), .int x1, .int x2] E M L (Q_lw γ E) 0 0 (F_X5_stood E M L x1 x2) := by
  refine ct_of (own := RX5) (lv := [some (.ref (E.2.1 0)), some (.int x1), some (.int x2), none, none, none, none]) (by decide +kernel) rfl rfl (Nat.le_of_ble_eq_true rfl) (fun κ C hγ hN => ?_)
  subst hγ
  have hn : ∀ i, i < 7 → i < knL κ := fun i h => by rw [hN]; exact h
  have k105 : ∀ (kf45 : Mi → Ml → Int32 → Nat → Int64 → Int32 → Option (Int64 × Mi × Ml)), (∀ (M : Mi) (L : Ml) (x2 : Int32) (y3 : Nat) (x4 : Int64) (x6 : Int32) (hy3 : SAt E y3), JF κ (PQ κ (Q_lw (kγ κ) E) 0 0) 45 [some (.ref (E.2.1 0)), none, some (.int x2), some (.ref (E.2.1 y3)), some (.long x4), none, some (.int x6)] [] E M L 0 0 (kf45 M L x2 y3 x4 x6)) → ∀ (M : Mi) (L : Ml) (x2 : Int32) (y3 : Nat) (x4 : Int64) (x6 : Int32) (hy3 : SAt E y3), JF κ (PQ κ (Q_lw (kγ κ) E) 0 0) 105 [some (.ref (E.2.1 0)), none, some (.int x2), some (.ref (E.2.1 y3)), some (.long x4), none, some (.int x6)] [] E M L 0 0 (F_X5_stood_k105 E kf45 M L x2 y3 x4 x6) := by
    intro kf45 hkf45 M L x2 y3 x4 x6 hy3
    unfold F_X5_stood_k105
    refine j_iinc (i := 6) (v := (x6 + (1 : Int32))) (lv' := [some (.ref (E.2.1 0)), none, some (.int x2), some (.ref (E.2.1 y3)), some (.long x4), none, some (.int (x6 + (1 : Int32)))]) C dX5_stood_105 rfl rfl (hn 6 (by decide)) rfl ?_
    refine j_goto (tgt := 45) C dX5_stood_108 (by decide) ?_
    exact hkf45 M L x2 y3 x4 ((x6 + (1 : Int32))) hy3
  have k45 : ∀ (n : Nat) (M : Mi) (L : Ml) (x2 : Int32) (y3 : Nat) (x4 : Int64) (x6 : Int32) (hy3 : SAt E y3), JF κ (PQ κ (Q_lw (kγ κ) E) 0 0) 45 [some (.ref (E.2.1 0)), none, some (.int x2), some (.ref (E.2.1 y3)), some (.long x4), none, some (.int x6)] [] E M L 0 0 (F_X5_stood_k45 E n M L x2 y3 x4 x6) := by
    intro n
    induction n with
    | zero => intros; exact jf_none
    | succ n ih =>
      intro M L x2 y3 x4 x6 hy3
      unfold F_X5_stood_k45
      refine j_iload C dX5_stood_45 rfl ?_
      refine j_bipush (v := (64 : Int32)) C dX5_stood_47 (by decide) ?_
      refine j_icmp_ge (tgt := 111) C dX5_stood_49 (by decide) ?_ ?_
      · refine j_lload C dX5_stood_111 rfl ?_
        exact j_lretw C dX5_stood_113
      · refine j_aload_n C dX5_stood_52 rfl rfl ?_
        refine j_getR (j := 1) C dX5_stood_53 FC5 (XAt.S h0) (by decide) rfl (XAt.R_thought h0) tw_427 ?_
        refine j_aload_n C dX5_stood_56 rfl rfl ?_
        refine j_getR (j := 0) C dX5_stood_57 FC5 (XAt.S h0) (by decide) rfl (XAt.R_now h0) tw_426 ?_
        refine j_callV_vw (st := []) C dX5_stood_60 (ct_X0_become (kγ κ) E M L 6 1 (XAt.P_thought h0) (XAt.P_now h0)) mi_X0_become tw_643 FC0 (FAt.S (XAt.P_thought h0)) rfl rfl (Nat.le_of_ble_eq_true rfl) ⟨⟨rfl, rfl⟩, ⟨Nat.le_of_ble_eq_true rfl, Nat.le_of_ble_eq_true rfl⟩, ⟨Nat.zero_le _, Nat.zero_le _⟩⟩ (fun r60 => ?_)
        refine j_aload_n C dX5_stood_63 rfl rfl ?_
        refine j_getR (j := 1) C dX5_stood_64 FC5 (XAt.S h0) (by decide) rfl (XAt.R_thought h0) tw_427 ?_
        refine j_pc (pc2 := 67) rfl ?_
        refine j_getR (j := 7) C dX5_stood_67 FC0 (FAt.S (XAt.P_thought h0)) (by decide) rfl (FAt.R_on (XAt.P_thought h0)) tw_148 ?_
        refine j_iload_n C dX5_stood_70 rfl rfl ?_
        refine j_iload C dX5_stood_71 rfl ?_
        refine j_iast C dX5_stood_73 (FAt.P_on (XAt.P_thought h0)) ?_
        refine j_aload_n C dX5_stood_74 rfl rfl ?_
        refine j_getR (j := 0) C dX5_stood_75 FC5 (XAt.S h0) (by decide) rfl (XAt.R_now h0) tw_426 ?_
        refine j_iload C dX5_stood_78 rfl ?_
        refine j_callV_i (st := []) C dX5_stood_80 (ct_X0_isHollow (kγ κ) E (up2 r60.1 9 (Int32.toNatClampNeg x2) x6) r60.2 1 x6 (XAt.P_now h0)) mi_X0_isHollow tw_473 FC0 (FAt.S (XAt.P_now h0)) rfl rfl (Nat.le_of_ble_eq_true rfl) ⟨⟨rfl, rfl⟩, ⟨Nat.le_of_ble_eq_true rfl, Nat.le_of_ble_eq_true rfl⟩, ⟨Nat.zero_le _, Nat.zero_le _⟩⟩ (fun v80 => ?_)
        refine j_pc (pc2 := 83) rfl ?_
        refine j_if_ne (tgt := 105) C dX5_stood_83 (by decide) ?_ ?_
        · exact k105 (F_X5_stood_k45 E n) ih ((up2 r60.1 9 (Int32.toNatClampNeg x2) x6)) r60.2 x2 y3 x4 x6 hy3
        · refine j_aload_n C dX5_stood_86 rfl rfl ?_
          refine j_aload_n C dX5_stood_87 rfl rfl ?_
          refine j_iload_n C dX5_stood_88 rfl rfl ?_
          refine j_callV_iw (st := []) C dX5_stood_89 (ct_X5_firstOtherwise (kγ κ) E (up2 r60.1 9 (Int32.toNatClampNeg x2) x6) r60.2 y3 x2 h0 hy3) mi_X5_firstOtherwise tw_706 FC5 (XAt.S h0) rfl rfl (Nat.le_of_ble_eq_true rfl) ⟨⟨rfl, rfl⟩, ⟨Nat.le_of_ble_eq_true rfl, Nat.le_of_ble_eq_true rfl⟩, ⟨Nat.zero_le _, Nat.zero_le _⟩⟩ (fun r89 => ?_)
          refine j_iconst (v := (-1 : Int32)) C dX5_stood_92 rfl ?_
          refine j_icmp_ne (tgt := 105) C dX5_stood_93 (by decide) ?_ ?_
          · exact k105 (F_X5_stood_k45 E n) ih r89.2.1 r89.2.2 x2 y3 x4 x6 hy3
          · refine j_lload C dX5_stood_96 rfl ?_
            refine j_lconst (v := (1 : Int64)) C dX5_stood_98 rfl ?_
            refine j_iload C dX5_stood_99 rfl ?_
            refine j_lshl C dX5_stood_101 ?_
            refine j_lor C dX5_stood_102 ?_
            refine j_lstore (i := 4) (lv' := [some (.ref (E.2.1 0)), none, some (.int x2), some (.ref (E.2.1 y3)), some (.long (x4 ||| (lshl (1 : Int64) x6))), none, some (.int x6)]) C dX5_stood_103 (hn 5 (by decide)) rfl ?_
            exact k105 (F_X5_stood_k45 E n) ih r89.2.1 r89.2.2 x2 y3 ((x4 ||| (lshl (1 : Int64) x6))) x6 hy3
  unfold F_X5_stood
  refine j_aload_n C dX5_stood_0 rfl rfl ?_
  refine j_iload_n C dX5_stood_1 rfl rfl ?_
  refine j_callV_o (st := []) C dX5_stood_2 (ct_X5_sheetAt (kγ κ) E M L x1 h0) mi_X5_sheetAt tw_702 FC5 (XAt.S h0) rfl rfl (Nat.le_of_ble_eq_true rfl) ⟨⟨rfl, rfl⟩, ⟨Nat.le_of_ble_eq_true rfl, Nat.le_of_ble_eq_true rfl⟩, ⟨Nat.zero_le _, Nat.zero_le _⟩⟩ (fun v2 => ?_)
  refine j_opt ?_ (fun t2 ht2 => ?_)
  · refine j_astore_nN (i := 3) (lv' := [some (.ref (E.2.1 0)), some (.int x1), some (.int x2), some (.null), none, none, none]) C dX5_stood_5 rfl (hn 3 (by decide)) rfl ?_
    refine j_aload_nN C dX5_stood_6 rfl rfl ?_
    refine j_ifnullN (tgt := 35) C dX5_stood_7 (by decide) ?_
    refine j_ldc2 (v := (-4611686018427387904 : Int64)) C dX5_stood_35 tw_604 ?_
    exact j_lretw C dX5_stood_38
  · refine j_astore_n (i := 3) (lv' := [some (.ref (E.2.1 0)), some (.int x1), some (.int x2), some (.ref (E.2.1 t2)), none, none, none]) C dX5_stood_5 rfl (hn 3 (by decide)) rfl ?_
    refine j_aload_n C dX5_stood_6 rfl rfl ?_
    refine j_ifnull C dX5_stood_7 ?_
    refine j_aload_n C dX5_stood_10 rfl rfl ?_
    refine j_iload_n C dX5_stood_11 rfl rfl ?_
    refine j_callV_i (st := []) C dX5_stood_12 (ct_X5_isParty (kγ κ) E M L x2 h0) mi_X5_isParty tw_469 FC5 (XAt.S h0) rfl rfl (Nat.le_of_ble_eq_true rfl) ⟨⟨rfl, rfl⟩, ⟨Nat.le_of_ble_eq_true rfl, Nat.le_of_ble_eq_true rfl⟩, ⟨Nat.zero_le _, Nat.zero_le _⟩⟩ (fun v12 => ?_)
    refine j_if_eq (tgt := 35) C dX5_stood_15 (by decide) ?_ ?_
    · refine j_ldc2 (v := (-4611686018427387904 : Int64)) C dX5_stood_35 tw_604 ?_
      exact j_lretw C dX5_stood_38
    · refine j_aload_n C dX5_stood_18 rfl rfl ?_
      refine j_getI (j := 1) C dX5_stood_19 FC3 (SAt.S (XAt.SA h0 ht2)) (by decide) rfl tw_238 ?_
      refine j_iconst (v := (-1 : Int32)) C dX5_stood_22 rfl ?_
      refine j_icmp_eq (tgt := 35) C dX5_stood_23 (by decide) ?_ ?_
      · refine j_ldc2 (v := (-4611686018427387904 : Int64)) C dX5_stood_35 tw_604 ?_
        exact j_lretw C dX5_stood_38
      · refine j_aload_n C dX5_stood_26 rfl rfl ?_
        refine j_getI (j := 2) C dX5_stood_27 FC3 (SAt.S (XAt.SA h0 ht2)) (by decide) rfl tw_240 ?_
        refine j_bipush (v := (20 : Int32)) C dX5_stood_30 (by decide) ?_
        refine j_icmp_le (tgt := 39) C dX5_stood_32 (by decide) ?_ ?_
        · refine j_lconst (v := (0 : Int64)) C dX5_stood_39 rfl ?_
          refine j_lstore (i := 4) (lv' := [some (.ref (E.2.1 0)), some (.int x1), some (.int x2), some (.ref (E.2.1 t2)), some (.long (0 : Int64)), none, none]) C dX5_stood_40 (hn 5 (by decide)) rfl ?_
          refine j_iconst (v := (0 : Int32)) C dX5_stood_42 rfl ?_
          refine j_istore (i := 6) (lv' := [some (.ref (E.2.1 0)), some (.int x1), some (.int x2), some (.ref (E.2.1 t2)), some (.long (0 : Int64)), none, some (.int (0 : Int32))]) C dX5_stood_43 (hn 6 (by decide)) rfl ?_
          refine j_mask [true, false, true, true, true, false, true] (lv' := [some (.ref (E.2.1 0)), none, some (.int x2), some (.ref (E.2.1 t2)), some (.long (0 : Int64)), none, some (.int (0 : Int32))]) rfl ?_
          exact k45 FU M L x2 t2 ((0 : Int64)) ((0 : Int32)) (XAt.SA h0 ht2)
        · refine j_ldc2 (v := (-4611686018427387904 : Int64)) C dX5_stood_35 tw_604 ?_
          exact j_lretw C dX5_stood_38
set_option maxRecDepth 100000 in
set_option maxHeartbeats 4000000 in
theorem ct_X5_film (γ : Gm) (E : Ev) (M : Mi) (L : Ml)  (x1 : Int32) (x2 : Int32) (x3 : Int32) (h0 : XAt E) : Ct γ yX5_film cX5_film 6 (some .int) ⟨5, 0, 0, 117⟩ [.ref (E.2.1 0), .int x1, .int x2, .int x3] E M L (Q_iw γ E) 0 0 (F_X5_film E M L x1 x2 x3) := by
  refine ct_of (own := RX5) (lv := [some (.ref (E.2.1 0)), some (.int x1), some (.int x2), some (.int x3), none, none]) (by decide +kernel) rfl rfl (Nat.le_of_ble_eq_true rfl) (fun κ C hγ hN => ?_)
  subst hγ
  have hn : ∀ i, i < 6 → i < knL κ := fun i h => by rw [hN]; exact h
  have k53 : ∀ (n : Nat) (M : Mi) (L : Ml) (x2 : Int32) (x3 : Int32) (y4 : Nat) (x5 : Int32) (hy4 : SAt E y4), JF κ (PQ κ (Q_iw (kγ κ) E) 0 0) 53 [some (.ref (E.2.1 0)), none, some (.int x2), some (.int x3), some (.ref (E.2.1 y4)), some (.int x5)] [] E M L 0 0 (F_X5_film_k53 E n M L x2 x3 y4 x5) := by
    intro n
    induction n with
    | zero => intros; exact jf_none
    | succ n ih =>
      intro M L x2 x3 y4 x5 hy4
      unfold F_X5_film_k53
      refine j_iload C dX5_film_53 rfl ?_
      refine j_iload_n C dX5_film_55 rfl rfl ?_
      refine j_icmp_ge (tgt := 109) C dX5_film_56 (by decide) ?_ ?_
      · refine j_iload_n C dX5_film_109 rfl rfl ?_
        exact j_iretw C dX5_film_110
      · refine j_aload_n C dX5_film_59 rfl rfl ?_
        refine j_getR (j := 4) C dX5_film_60 FC5 (XAt.S h0) (by decide) rfl (XAt.R_law h0) tw_430 ?_
        refine j_aload_n C dX5_film_63 rfl rfl ?_
        refine j_getR (j := 1) C dX5_film_64 FC5 (XAt.S h0) (by decide) rfl (XAt.R_thought h0) tw_427 ?_
        refine j_iload_n C dX5_film_67 rfl rfl ?_
        refine j_iconst (v := (0 : Int32)) C dX5_film_68 rfl ?_
        refine j_callV_iw (st := []) C dX5_film_69 (ct_X1_passOne (kγ κ) E M L 6 x2 (0 : Int32) (XAt.P_law h0) (XAt.P_thought h0)) mi_X1_passOne tw_710 FC1 (LAt.S (XAt.P_law h0)) rfl rfl (Nat.le_of_ble_eq_true rfl) ⟨⟨rfl, rfl⟩, ⟨Nat.le_of_ble_eq_true rfl, Nat.le_of_ble_eq_true rfl⟩, ⟨Nat.zero_le _, Nat.zero_le _⟩⟩ (fun r69 => ?_)
        refine j_pc (pc2 := 72) rfl ?_
        refine j_pop C dX5_film_72 rfl ?_
        refine j_aload_n C dX5_film_73 rfl rfl ?_
        refine j_getR (j := 1) C dX5_film_74 FC5 (XAt.S h0) (by decide) rfl (XAt.R_thought h0) tw_427 ?_
        refine j_dup C dX5_film_77 rfl ?_
        refine j_getI (j := 2) C dX5_film_78 FC0 (FAt.S (XAt.P_thought h0)) (by decide) rfl tw_135 ?_
        refine j_iconst (v := (1 : Int32)) C dX5_film_81 rfl ?_
        refine j_iadd C dX5_film_82 ?_
        refine j_putI (j := 2) C dX5_film_83 FC0 (FAt.S (XAt.P_thought h0)) (by decide) rfl rfl rfl rfl tw_135 ?_
        refine j_pc (pc2 := 86) rfl ?_
        refine j_aload C dX5_film_86 rfl ?_
        refine j_iload C dX5_film_88 rfl ?_
        refine j_aload_n C dX5_film_90 rfl rfl ?_
        refine j_getR (j := 1) C dX5_film_91 FC5 (XAt.S h0) (by decide) rfl (XAt.R_thought h0) tw_427 ?_
        refine j_getR (j := 7) C dX5_film_94 FC0 (FAt.S (XAt.P_thought h0)) (by decide) rfl (FAt.R_on (XAt.P_thought h0)) tw_148 ?_
        refine j_iload_n C dX5_film_97 rfl rfl ?_
        refine j_iald C dX5_film_98 (FAt.P_on (XAt.P_thought h0)) ?_
        refine j_callV_iw (st := []) C dX5_film_99 (ct_X3_put (kγ κ) E (up2 r69.2.1 6 2 ((r69.2.1 6 2) + (1 : Int32))) r69.2.2 y4 x5 ((up2 r69.2.1 6 2 ((r69.2.1 6 2) + (1 : Int32))) 9 (Int32.toNatClampNeg x2)) hy4) mi_X3_put tw_734 FC3 (SAt.S hy4) rfl rfl (Nat.le_of_ble_eq_true rfl) ⟨⟨rfl, rfl⟩, ⟨Nat.le_of_ble_eq_true rfl, Nat.le_of_ble_eq_true rfl⟩, ⟨Nat.zero_le _, Nat.zero_le _⟩⟩ (fun r99 => ?_)
        refine j_pc (pc2 := 102) rfl ?_
        refine j_pop C dX5_film_102 rfl ?_
        refine j_iinc (i := 5) (v := (x5 + (1 : Int32))) (lv' := [some (.ref (E.2.1 0)), none, some (.int x2), some (.int x3), some (.ref (E.2.1 y4)), some (.int (x5 + (1 : Int32)))]) C dX5_film_103 rfl rfl (hn 5 (by decide)) rfl ?_
        refine j_goto (tgt := 53) C dX5_film_106 (by decide) ?_
        exact ih r99.2.1 r99.2.2 x2 x3 y4 ((x5 + (1 : Int32))) hy4
  unfold F_X5_film
  refine j_aload_n C dX5_film_0 rfl rfl ?_
  refine j_iload_n C dX5_film_1 rfl rfl ?_
  refine j_callV_o (st := []) C dX5_film_2 (ct_X5_sheetAt (kγ κ) E M L x1 h0) mi_X5_sheetAt tw_702 FC5 (XAt.S h0) rfl rfl (Nat.le_of_ble_eq_true rfl) ⟨⟨rfl, rfl⟩, ⟨Nat.le_of_ble_eq_true rfl, Nat.le_of_ble_eq_true rfl⟩, ⟨Nat.zero_le _, Nat.zero_le _⟩⟩ (fun v2 => ?_)
  refine j_opt ?_ (fun t2 ht2 => ?_)
  · refine j_astoreN (i := 4) (lv' := [some (.ref (E.2.1 0)), some (.int x1), some (.int x2), some (.int x3), some (.null), none]) C dX5_film_5 (hn 4 (by decide)) rfl ?_
    refine j_aloadN C dX5_film_7 rfl ?_
    refine j_ifnullN (tgt := 29) C dX5_film_9 (by decide) ?_
    refine j_bipush (v := (-2 : Int32)) C dX5_film_29 (by decide) ?_
    exact j_iretw C dX5_film_31
  · refine j_astore (i := 4) (lv' := [some (.ref (E.2.1 0)), some (.int x1), some (.int x2), some (.int x3), some (.ref (E.2.1 t2)), none]) C dX5_film_5 (hn 4 (by decide)) rfl ?_
    refine j_aload C dX5_film_7 rfl ?_
    refine j_ifnull C dX5_film_9 ?_
    refine j_aload_n C dX5_film_12 rfl rfl ?_
    refine j_iload_n C dX5_film_13 rfl rfl ?_
    refine j_callV_i (st := []) C dX5_film_14 (ct_X5_isParty (kγ κ) E M L x2 h0) mi_X5_isParty tw_469 FC5 (XAt.S h0) rfl rfl (Nat.le_of_ble_eq_true rfl) ⟨⟨rfl, rfl⟩, ⟨Nat.le_of_ble_eq_true rfl, Nat.le_of_ble_eq_true rfl⟩, ⟨Nat.zero_le _, Nat.zero_le _⟩⟩ (fun v14 => ?_)
    refine j_if_eq (tgt := 29) C dX5_film_17 (by decide) ?_ ?_
    · refine j_bipush (v := (-2 : Int32)) C dX5_film_29 (by decide) ?_
      exact j_iretw C dX5_film_31
    · refine j_iload_n C dX5_film_20 rfl rfl ?_
      refine j_bipush (v := (20 : Int32)) C dX5_film_21 (by decide) ?_
      refine j_callS_i (st := []) C dX5_film_23 (ct_X5_isWithin (kγ κ) E M L x3 (20 : Int32)) mi_X5_isWithin tw_459 rfl rfl (Nat.le_of_ble_eq_true rfl) ⟨⟨rfl, rfl⟩, ⟨Nat.le_of_ble_eq_true rfl, Nat.le_of_ble_eq_true rfl⟩, ⟨Nat.zero_le _, Nat.zero_le _⟩⟩ (fun v23 => ?_)
      refine j_if_ne (tgt := 32) C dX5_film_26 (by decide) ?_ ?_
      · refine j_aload C dX5_film_32 rfl ?_
        refine j_iconst (v := (0 : Int32)) C dX5_film_34 rfl ?_
        refine j_iload_n C dX5_film_35 rfl rfl ?_
        refine j_callV_vw (st := []) C dX5_film_36 (ct_X3_become (kγ κ) E M L t2 (0 : Int32) x3 (XAt.SA h0 ht2)) mi_X3_become tw_727 FC3 (SAt.S (XAt.SA h0 ht2)) rfl rfl (Nat.le_of_ble_eq_true rfl) ⟨⟨rfl, rfl⟩, ⟨Nat.le_of_ble_eq_true rfl, Nat.le_of_ble_eq_true rfl⟩, ⟨Nat.zero_le _, Nat.zero_le _⟩⟩ (fun r36 => ?_)
        refine j_aload_n C dX5_film_39 rfl rfl ?_
        refine j_getR (j := 1) C dX5_film_40 FC5 (XAt.S h0) (by decide) rfl (XAt.R_thought h0) tw_427 ?_
        refine j_aload_n C dX5_film_43 rfl rfl ?_
        refine j_pc (pc2 := 44) rfl ?_
        refine j_getR (j := 0) C dX5_film_44 FC5 (XAt.S h0) (by decide) rfl (XAt.R_now h0) tw_426 ?_
        refine j_callV_vw (st := []) C dX5_film_47 (ct_X0_become (kγ κ) E r36.1 r36.2 6 1 (XAt.P_thought h0) (XAt.P_now h0)) mi_X0_become tw_643 FC0 (FAt.S (XAt.P_thought h0)) rfl rfl (Nat.le_of_ble_eq_true rfl) ⟨⟨rfl, rfl⟩, ⟨Nat.le_of_ble_eq_true rfl, Nat.le_of_ble_eq_true rfl⟩, ⟨Nat.zero_le _, Nat.zero_le _⟩⟩ (fun r47 => ?_)
        refine j_iconst (v := (0 : Int32)) C dX5_film_50 rfl ?_
        refine j_istore (i := 5) (lv' := [some (.ref (E.2.1 0)), some (.int x1), some (.int x2), some (.int x3), some (.ref (E.2.1 t2)), some (.int (0 : Int32))]) C dX5_film_51 (hn 5 (by decide)) rfl ?_
        refine j_mask [true, false, true, true, true, true] (lv' := [some (.ref (E.2.1 0)), none, some (.int x2), some (.int x3), some (.ref (E.2.1 t2)), some (.int (0 : Int32))]) rfl ?_
        exact k53 FU r47.1 r47.2 x2 x3 t2 ((0 : Int32)) (XAt.SA h0 ht2)
      · refine j_bipush (v := (-2 : Int32)) C dX5_film_29 (by decide) ?_
        exact j_iretw C dX5_film_31
