set_option maxRecDepth 100000 in
set_option maxHeartbeats 4000000 in
theorem ct_X5_drawn (γ : Gm) (E : Ev) (M : Mi) (L : Ml)  (x1 : Int32) (x2 : Int32) (x3 : Int32) (h0 : XAt E) : Ct γ yX5_drawn cX5_drawn 4 (some .int) ⟨4, 0, 0, 97⟩ [.ref (E.2.1 0), .int x1, .int x2, .int x3] E M L (Q_i γ E M L) 0 0 (F_X5_drawn M L x1 x2 x3) := by
  refine ct_of (own := RX5) (lv := [some (.ref (E.2.1 0)), some (.int x1), some (.int x2), some (.int x3)]) (by decide +kernel) rfl rfl (Nat.le_of_ble_eq_true rfl) (fun κ C hγ hN => ?_)
  subst hγ
  have hn : ∀ i, i < 4 → i < knL κ := fun i h => by rw [hN]; exact h
  unfold F_X5_drawn
  refine j_aload_n C dX5_drawn_0 rfl rfl ?_
  refine j_iload_n C dX5_drawn_1 rfl rfl ?_
  refine j_callV_i (st := []) C dX5_drawn_2 (ct_X5_isParty (kγ κ) E M L x2 h0) mi_X5_isParty tw_469 FC5 (XAt.S h0) rfl rfl (Nat.le_of_ble_eq_true rfl) ⟨⟨rfl, rfl⟩, ⟨Nat.le_of_ble_eq_true rfl, Nat.le_of_ble_eq_true rfl⟩, ⟨Nat.zero_le _, Nat.zero_le _⟩⟩ (fun v2 => ?_)
  refine j_if_eq (tgt := 17) C dX5_drawn_5 (by decide) ?_ ?_
  · refine j_bipush (v := (-2 : Int32)) C dX5_drawn_17 (by decide) ?_
    exact j_iret C dX5_drawn_19
  · refine j_iload_n C dX5_drawn_8 rfl rfl ?_
    refine j_bipush (v := (40 : Int32)) C dX5_drawn_9 (by decide) ?_
    refine j_callS_i (st := []) C dX5_drawn_11 (ct_X5_isWithin (kγ κ) E M L x3 (40 : Int32)) mi_X5_isWithin tw_459 rfl rfl (Nat.le_of_ble_eq_true rfl) ⟨⟨rfl, rfl⟩, ⟨Nat.le_of_ble_eq_true rfl, Nat.le_of_ble_eq_true rfl⟩, ⟨Nat.zero_le _, Nat.zero_le _⟩⟩ (fun v11 => ?_)
    refine j_if_ne (tgt := 20) C dX5_drawn_14 (by decide) ?_ ?_
    · refine j_aload_n C dX5_drawn_20 rfl rfl ?_
      refine j_getR (j := 0) C dX5_drawn_21 FC5 (XAt.S h0) (by decide) rfl (XAt.R_now h0) tw_426 ?_
      refine j_iload_n C dX5_drawn_24 rfl rfl ?_
      refine j_iload_n C dX5_drawn_25 rfl rfl ?_
      refine j_iload_n C dX5_drawn_26 rfl rfl ?_
      refine j_callV_i (st := []) C dX5_drawn_27 (ct_X0_whereDrawn (kγ κ) E M L 1 x1 x2 x3 (XAt.P_now h0)) mi_X0_whereDrawn tw_746 FC0 (FAt.S (XAt.P_now h0)) rfl rfl (Nat.le_of_ble_eq_true rfl) ⟨⟨rfl, rfl⟩, ⟨Nat.le_of_ble_eq_true rfl, Nat.le_of_ble_eq_true rfl⟩, ⟨Nat.zero_le _, Nat.zero_le _⟩⟩ (fun v27 => ?_)
      exact j_iret C dX5_drawn_30
    · refine j_bipush (v := (-2 : Int32)) C dX5_drawn_17 (by decide) ?_
      exact j_iret C dX5_drawn_19
set_option maxRecDepth 100000 in
set_option maxHeartbeats 4000000 in
theorem ct_X5_chance (γ : Gm) (E : Ev) (M : Mi) (L : Ml)  (x1 : Int32) (x2 : Int32) (x3 : Int32) (x4 : Int32) (h0 : XAt E) : Ct γ yX5_chance cX5_chance 7 (some .long) ⟨4, 0, 0, 97⟩ [.ref (E.2.1 0), .int x1, .int x2, .int x3, .int x4] E M L (Q_l γ E M L) 0 0 (F_X5_chance M L x1 x2 x3 x4) := by
  refine ct_of (own := RX5) (lv := [some (.ref (E.2.1 0)), some (.int x1), some (.int x2), some (.int x3), some (.int x4), none, none]) (by decide +kernel) rfl rfl (Nat.le_of_ble_eq_true rfl) (fun κ C hγ hN => ?_)
  subst hγ
  have hn : ∀ i, i < 7 → i < knL κ := fun i h => by rw [hN]; exact h
  have k72 : ∀ (kf38 : Int32 → Int32 → Int32 → Int32 → Int32 → Int32 → Option (Int64)), (∀ (x1 : Int32) (x2 : Int32) (x3 : Int32) (x4 : Int32) (x5 : Int32) (x6 : Int32), JF κ (PQ κ (Q_l (kγ κ) E M L) 0 0) 38 [some (.ref (E.2.1 0)), some (.int x1), some (.int x2), some (.int x3), some (.int x4), some (.int x5), some (.int x6)] [] E M L 0 0 (kf38 x1 x2 x3 x4 x5 x6)) → ∀ (x1 : Int32) (x2 : Int32) (x3 : Int32) (x4 : Int32) (x5 : Int32) (x6 : Int32), JF κ (PQ κ (Q_l (kγ κ) E M L) 0 0) 72 [some (.ref (E.2.1 0)), some (.int x1), some (.int x2), some (.int x3), some (.int x4), some (.int x5), some (.int x6)] [] E M L 0 0 (F_X5_chance_k72 M L kf38 x1 x2 x3 x4 x5 x6) := by
    intro kf38 hkf38 x1 x2 x3 x4 x5 x6
    unfold F_X5_chance_k72
    refine j_iinc (i := 6) (v := (x6 + (1 : Int32))) (lv' := [some (.ref (E.2.1 0)), some (.int x1), some (.int x2), some (.int x3), some (.int x4), some (.int x5), some (.int (x6 + (1 : Int32)))]) C dX5_chance_72 rfl rfl (hn 6 (by decide)) rfl ?_
    refine j_goto (tgt := 38) C dX5_chance_75 (by decide) ?_
    exact hkf38 x1 x2 x3 x4 x5 ((x6 + (1 : Int32)))
  have k38 : ∀ (n : Nat) (x1 : Int32) (x2 : Int32) (x3 : Int32) (x4 : Int32) (x5 : Int32) (x6 : Int32), JF κ (PQ κ (Q_l (kγ κ) E M L) 0 0) 38 [some (.ref (E.2.1 0)), some (.int x1), some (.int x2), some (.int x3), some (.int x4), some (.int x5), some (.int x6)] [] E M L 0 0 (F_X5_chance_k38 M L n x1 x2 x3 x4 x5 x6) := by
    intro n
    induction n with
    | zero => intros; exact jf_none
    | succ n ih =>
      intro x1 x2 x3 x4 x5 x6
      unfold F_X5_chance_k38
      refine j_iload C dX5_chance_38 rfl ?_
      refine j_iload_n C dX5_chance_40 rfl rfl ?_
      refine j_icmp_ge (tgt := 78) C dX5_chance_41 (by decide) ?_ ?_
      · refine j_iload C dX5_chance_78 rfl ?_
        refine j_iload_n C dX5_chance_80 rfl rfl ?_
        refine j_iload C dX5_chance_81 rfl ?_
        refine j_callS_l (st := []) C dX5_chance_83 (ct_X5_inLowestTerms (kγ κ) E M L x5 x2 x4) mi_X5_inLowestTerms tw_695 rfl rfl (Nat.le_of_ble_eq_true rfl) ⟨⟨rfl, rfl⟩, ⟨Nat.le_of_ble_eq_true rfl, Nat.le_of_ble_eq_true rfl⟩, ⟨Nat.zero_le _, Nat.zero_le _⟩⟩ (fun v83 => ?_)
        exact j_lret C dX5_chance_86
      · refine j_aload_n C dX5_chance_44 rfl rfl ?_
        refine j_getR (j := 0) C dX5_chance_45 FC5 (XAt.S h0) (by decide) rfl (XAt.R_now h0) tw_426 ?_
        refine j_aload_n C dX5_chance_48 rfl rfl ?_
        refine j_getR (j := 0) C dX5_chance_49 FC5 (XAt.S h0) (by decide) rfl (XAt.R_now h0) tw_426 ?_
        refine j_iload_n C dX5_chance_52 rfl rfl ?_
        refine j_iload C dX5_chance_53 rfl ?_
        refine j_iadd C dX5_chance_55 ?_
        refine j_pc (pc2 := 56) rfl ?_
        refine j_iload_n C dX5_chance_56 rfl rfl ?_
        refine j_bipush (v := (8 : Int32)) C dX5_chance_57 (by decide) ?_
        refine j_callV_i (st := [.ref (E.2.1 1)]) C dX5_chance_59 (ct_X0_whereDrawn (kγ κ) E M L 1 (x1 + x6) x3 (8 : Int32) (XAt.P_now h0)) mi_X0_whereDrawn tw_746 FC0 (FAt.S (XAt.P_now h0)) rfl rfl (Nat.le_of_ble_eq_true rfl) ⟨⟨rfl, rfl⟩, ⟨Nat.le_of_ble_eq_true rfl, Nat.le_of_ble_eq_true rfl⟩, ⟨Nat.zero_le _, Nat.zero_le _⟩⟩ (fun v59 => ?_)
        refine j_callV_i (st := []) C dX5_chance_62 (ct_X0_isFoundBy (kγ κ) E M L 1 v59 (XAt.P_now h0)) mi_X0_isFoundBy tw_755 FC0 (FAt.S (XAt.P_now h0)) rfl rfl (Nat.le_of_ble_eq_true rfl) ⟨⟨rfl, rfl⟩, ⟨Nat.le_of_ble_eq_true rfl, Nat.le_of_ble_eq_true rfl⟩, ⟨Nat.zero_le _, Nat.zero_le _⟩⟩ (fun v62 => ?_)
        refine j_iconst (v := (1 : Int32)) C dX5_chance_65 rfl ?_
        refine j_icmp_ne (tgt := 72) C dX5_chance_66 (by decide) ?_ ?_
        · exact k72 (F_X5_chance_k38 M L n) ih x1 x2 x3 x4 x5 x6
        · refine j_iinc (i := 5) (v := (x5 + (1 : Int32))) (lv' := [some (.ref (E.2.1 0)), some (.int x1), some (.int x2), some (.int x3), some (.int x4), some (.int (x5 + (1 : Int32))), some (.int x6)]) C dX5_chance_69 rfl rfl (hn 5 (by decide)) rfl ?_
          exact k72 (F_X5_chance_k38 M L n) ih x1 x2 x3 x4 ((x5 + (1 : Int32))) x6
  unfold F_X5_chance
  refine j_iload_n C dX5_chance_0 rfl rfl ?_
  refine j_iconst (v := (1 : Int32)) C dX5_chance_1 rfl ?_
  refine j_icmp_lt (tgt := 28) C dX5_chance_2 (by decide) ?_ ?_
  · refine j_ldc2 (v := (-4611686018427387904 : Int64)) C dX5_chance_28 tw_604 ?_
    exact j_lret C dX5_chance_31
  · refine j_iload_n C dX5_chance_5 rfl rfl ?_
    refine j_bipush (v := (40 : Int32)) C dX5_chance_6 (by decide) ?_
    refine j_icmp_gt (tgt := 28) C dX5_chance_8 (by decide) ?_ ?_
    · refine j_ldc2 (v := (-4611686018427387904 : Int64)) C dX5_chance_28 tw_604 ?_
      exact j_lret C dX5_chance_31
    · refine j_aload_n C dX5_chance_11 rfl rfl ?_
      refine j_iload_n C dX5_chance_12 rfl rfl ?_
      refine j_callV_i (st := []) C dX5_chance_13 (ct_X5_isParty (kγ κ) E M L x3 h0) mi_X5_isParty tw_469 FC5 (XAt.S h0) rfl rfl (Nat.le_of_ble_eq_true rfl) ⟨⟨rfl, rfl⟩, ⟨Nat.le_of_ble_eq_true rfl, Nat.le_of_ble_eq_true rfl⟩, ⟨Nat.zero_le _, Nat.zero_le _⟩⟩ (fun v13 => ?_)
      refine j_if_eq (tgt := 28) C dX5_chance_16 (by decide) ?_ ?_
      · refine j_ldc2 (v := (-4611686018427387904 : Int64)) C dX5_chance_28 tw_604 ?_
        exact j_lret C dX5_chance_31
      · refine j_iload C dX5_chance_19 rfl ?_
        refine j_iconst (v := (1 : Int32)) C dX5_chance_21 rfl ?_
        refine j_callS_i (st := []) C dX5_chance_22 (ct_X5_isWithin (kγ κ) E M L x4 (1 : Int32)) mi_X5_isWithin tw_459 rfl rfl (Nat.le_of_ble_eq_true rfl) ⟨⟨rfl, rfl⟩, ⟨Nat.le_of_ble_eq_true rfl, Nat.le_of_ble_eq_true rfl⟩, ⟨Nat.zero_le _, Nat.zero_le _⟩⟩ (fun v22 => ?_)
        refine j_if_ne (tgt := 32) C dX5_chance_25 (by decide) ?_ ?_
        · refine j_iconst (v := (0 : Int32)) C dX5_chance_32 rfl ?_
          refine j_istore (i := 5) (lv' := [some (.ref (E.2.1 0)), some (.int x1), some (.int x2), some (.int x3), some (.int x4), some (.int (0 : Int32)), none]) C dX5_chance_33 (hn 5 (by decide)) rfl ?_
          refine j_iconst (v := (0 : Int32)) C dX5_chance_35 rfl ?_
          refine j_istore (i := 6) (lv' := [some (.ref (E.2.1 0)), some (.int x1), some (.int x2), some (.int x3), some (.int x4), some (.int (0 : Int32)), some (.int (0 : Int32))]) C dX5_chance_36 (hn 6 (by decide)) rfl ?_
          exact k38 FU x1 x2 x3 x4 ((0 : Int32)) ((0 : Int32))
        · refine j_ldc2 (v := (-4611686018427387904 : Int64)) C dX5_chance_28 tw_604 ?_
          exact j_lret C dX5_chance_31
set_option maxRecDepth 100000 in
set_option maxHeartbeats 4000000 in
theorem ct_X5_image (γ : Gm) (E : Ev) (M : Mi) (L : Ml)   (h0 : XAt E) : Ct γ yX5_image cX5_image 1 (some .int) ⟨2, 0, 0, 101⟩ [.ref (E.2.1 0)] E M L (Q_iw γ E) 0 0 (F_X5_image M L) := by
  refine ct_of (own := RX5) (lv := [some (.ref (E.2.1 0))]) (by decide +kernel) rfl rfl (Nat.le_of_ble_eq_true rfl) (fun κ C hγ hN => ?_)
  subst hγ
  have hn : ∀ i, i < 1 → i < knL κ := fun i h => by rw [hN]; exact h
  unfold F_X5_image
  refine j_aload_n C dX5_image_0 rfl rfl ?_
  refine j_getR (j := 3) C dX5_image_1 FC5 (XAt.S h0) (by decide) rfl (XAt.R_kept h0) tw_429 ?_
  refine j_aload_n C dX5_image_4 rfl rfl ?_
  refine j_getR (j := 0) C dX5_image_5 FC5 (XAt.S h0) (by decide) rfl (XAt.R_now h0) tw_426 ?_
  refine j_callV_vw (st := []) C dX5_image_8 (ct_X0_become (kγ κ) E M L 16 1 (XAt.P_kept h0) (XAt.P_now h0)) mi_X0_become tw_643 FC0 (FAt.S (XAt.P_kept h0)) rfl rfl (Nat.le_of_ble_eq_true rfl) ⟨⟨rfl, rfl⟩, ⟨Nat.le_of_ble_eq_true rfl, Nat.le_of_ble_eq_true rfl⟩, ⟨Nat.zero_le _, Nat.zero_le _⟩⟩ (fun r8 => ?_)
  refine j_aload_n C dX5_image_11 rfl rfl ?_
  refine j_iconst (v := (1 : Int32)) C dX5_image_12 rfl ?_
  refine j_pc (pc2 := 13) rfl ?_
  refine j_putI (j := 7) C dX5_image_13 FC5 (XAt.S h0) (by decide) rfl rfl rfl rfl tw_433 ?_
  refine j_aload_n C dX5_image_16 rfl rfl ?_
  refine j_getR (j := 3) C dX5_image_17 FC5 (XAt.S h0) (by decide) rfl (XAt.R_kept h0) tw_429 ?_
  refine j_getI (j := 3) C dX5_image_20 FC0 (FAt.S (XAt.P_kept h0)) (by decide) rfl tw_139 ?_
  exact j_iretw C dX5_image_23
set_option maxRecDepth 100000 in
set_option maxHeartbeats 4000000 in
theorem ct_X5_back (γ : Gm) (E : Ev) (M : Mi) (L : Ml)   (h0 : XAt E) : Ct γ yX5_back cX5_back 1 (some .int) ⟨2, 0, 0, 101⟩ [.ref (E.2.1 0)] E M L (Q_iw γ E) 0 0 (F_X5_back M L) := by
  refine ct_of (own := RX5) (lv := [some (.ref (E.2.1 0))]) (by decide +kernel) rfl rfl (Nat.le_of_ble_eq_true rfl) (fun κ C hγ hN => ?_)
  subst hγ
  have hn : ∀ i, i < 1 → i < knL κ := fun i h => by rw [hN]; exact h
  unfold F_X5_back
  refine j_aload_n C dX5_back_0 rfl rfl ?_
  refine j_getI (j := 7) C dX5_back_1 FC5 (XAt.S h0) (by decide) rfl tw_433 ?_
  refine j_if_ne (tgt := 10) C dX5_back_4 (by decide) ?_ ?_
  · refine j_aload_n C dX5_back_10 rfl rfl ?_
    refine j_getR (j := 0) C dX5_back_11 FC5 (XAt.S h0) (by decide) rfl (XAt.R_now h0) tw_426 ?_
    refine j_aload_n C dX5_back_14 rfl rfl ?_
    refine j_getR (j := 3) C dX5_back_15 FC5 (XAt.S h0) (by decide) rfl (XAt.R_kept h0) tw_429 ?_
    refine j_callV_vw (st := []) C dX5_back_18 (ct_X0_become (kγ κ) E M L 1 16 (XAt.P_now h0) (XAt.P_kept h0)) mi_X0_become tw_643 FC0 (FAt.S (XAt.P_now h0)) rfl rfl (Nat.le_of_ble_eq_true rfl) ⟨⟨rfl, rfl⟩, ⟨Nat.le_of_ble_eq_true rfl, Nat.le_of_ble_eq_true rfl⟩, ⟨Nat.zero_le _, Nat.zero_le _⟩⟩ (fun r18 => ?_)
    refine j_aload_n C dX5_back_21 rfl rfl ?_
    refine j_getR (j := 0) C dX5_back_22 FC5 (XAt.S h0) (by decide) rfl (XAt.R_now h0) tw_426 ?_
    refine j_pc (pc2 := 25) rfl ?_
    refine j_getI (j := 3) C dX5_back_25 FC0 (FAt.S (XAt.P_now h0)) (by decide) rfl tw_139 ?_
    exact j_iretw C dX5_back_28
  · refine j_bipush (v := (-3 : Int32)) C dX5_back_7 (by decide) ?_
    exact j_iretw C dX5_back_9
set_option maxRecDepth 100000 in
set_option maxHeartbeats 4000000 in
theorem ct_X5_count (γ : Gm) (E : Ev) (M : Mi) (L : Ml)  (x1 : Int32) (h0 : XAt E) : Ct γ yX5_count cX5_count 2 (some .int) ⟨1, 0, 0, 21⟩ [.ref (E.2.1 0), .int x1] E M L (Q_i γ E M L) 0 0 (F_X5_count M L x1) := by
  refine ct_of (own := RX5) (lv := [some (.ref (E.2.1 0)), some (.int x1)]) (by decide +kernel) rfl rfl (Nat.le_of_ble_eq_true rfl) (fun κ C hγ hN => ?_)
  subst hγ
  have hn : ∀ i, i < 2 → i < knL κ := fun i h => by rw [hN]; exact h
  unfold F_X5_count
  refine j_iload_n C dX5_count_0 rfl rfl ?_
  refine j_ite (fun h1_0 => ?_) (fun h1_0 => ?_)
  · refine j_tswHit (c := (0 : Int32)) (off := 39) (tgt := 40) C dX5_count_1 h1_0 (by decide) (by decide) (by decide) (by decide) ?_
    refine j_aload_n C dX5_count_40 rfl rfl ?_
    refine j_getR (j := 0) C dX5_count_41 FC5 (XAt.S h0) (by decide) rfl (XAt.R_now h0) tw_426 ?_
    refine j_getI (j := 3) C dX5_count_44 FC0 (FAt.S (XAt.P_now h0)) (by decide) rfl tw_139 ?_
    exact j_iret C dX5_count_47
  · skip
    refine j_ite (fun h1_1 => ?_) (fun h1_1 => ?_)
    · refine j_tswHit (c := (1 : Int32)) (off := 47) (tgt := 48) C dX5_count_1 h1_1 (by decide) (by decide) (by decide) (by decide) ?_
      refine j_aload_n C dX5_count_48 rfl rfl ?_
      refine j_getR (j := 0) C dX5_count_49 FC5 (XAt.S h0) (by decide) rfl (XAt.R_now h0) tw_426 ?_
      refine j_getL (j := 1) C dX5_count_52 FC0 (FAt.S (XAt.P_now h0)) (by decide) rfl tw_133 ?_
      refine j_callS_i (st := []) C dX5_count_55 (ct_J13_bitCount_95d88 (kγ κ) E M L (L 1 1)) mi_J13_bitCount_95d88 tw_768 rfl rfl (Nat.le_of_ble_eq_true rfl) ⟨⟨rfl, rfl⟩, ⟨Nat.le_of_ble_eq_true rfl, Nat.le_of_ble_eq_true rfl⟩, ⟨Nat.zero_le _, Nat.zero_le _⟩⟩ (fun v55 => ?_)
      exact j_iret C dX5_count_58
    · skip
      refine j_ite (fun h1_2 => ?_) (fun h1_2 => ?_)
      · refine j_tswHit (c := (2 : Int32)) (off := 58) (tgt := 59) C dX5_count_1 h1_2 (by decide) (by decide) (by decide) (by decide) ?_
        refine j_aload_n C dX5_count_59 rfl rfl ?_
        refine j_getR (j := 0) C dX5_count_60 FC5 (XAt.S h0) (by decide) rfl (XAt.R_now h0) tw_426 ?_
        refine j_getI (j := 2) C dX5_count_63 FC0 (FAt.S (XAt.P_now h0)) (by decide) rfl tw_135 ?_
        exact j_iret C dX5_count_66
      · skip
        refine j_ite (fun h1_3 => ?_) (fun h1_3 => ?_)
        · refine j_tswHit (c := (3 : Int32)) (off := 66) (tgt := 67) C dX5_count_1 h1_3 (by decide) (by decide) (by decide) (by decide) ?_
          refine j_aload_n C dX5_count_67 rfl rfl ?_
          refine j_getR (j := 4) C dX5_count_68 FC5 (XAt.S h0) (by decide) rfl (XAt.R_law h0) tw_430 ?_
          refine j_getI (j := 2) C dX5_count_71 FC1 (LAt.S (XAt.P_law h0)) (by decide) rfl tw_184 ?_
          exact j_iret C dX5_count_74
        · skip
          refine j_ite (fun h1_4 => ?_) (fun h1_4 => ?_)
          · refine j_tswHit (c := (4 : Int32)) (off := 74) (tgt := 75) C dX5_count_1 h1_4 (by decide) (by decide) (by decide) (by decide) ?_
            refine j_aload_n C dX5_count_75 rfl rfl ?_
            refine j_getR (j := 5) C dX5_count_76 FC5 (XAt.S h0) (by decide) rfl (XAt.R_reader h0) tw_431 ?_
            refine j_getI (j := 2) C dX5_count_79 FC2 (RAt.S (XAt.P_reader h0)) (by decide) rfl tw_201 ?_
            exact j_iret C dX5_count_82
          · skip
            refine j_ite (fun h1_5 => ?_) (fun h1_5 => ?_)
            · refine j_tswHit (c := (5 : Int32)) (off := 82) (tgt := 83) C dX5_count_1 h1_5 (by decide) (by decide) (by decide) (by decide) ?_
              refine j_aload_n C dX5_count_83 rfl rfl ?_
              refine j_getR (j := 0) C dX5_count_84 FC5 (XAt.S h0) (by decide) rfl (XAt.R_now h0) tw_426 ?_
              refine j_getI (j := 4) C dX5_count_87 FC0 (FAt.S (XAt.P_now h0)) (by decide) rfl tw_142 ?_
              exact j_iret C dX5_count_90
            · skip
              refine j_tswDef (tgt := 91) C dX5_count_1 (by have q0 := i_neq (0) (by decide) h1_0; have q1 := i_neq (1) (by decide) h1_1; have q2 := i_neq (2) (by decide) h1_2; have q3 := i_neq (3) (by decide) h1_3; have q4 := i_neq (4) (by decide) h1_4; have q5 := i_neq (5) (by decide) h1_5; omega) (by decide) ?_
              refine j_bipush (v := (-2 : Int32)) C dX5_count_91 (by decide) ?_
              exact j_iret C dX5_count_93
set_option maxRecDepth 100000 in
set_option maxHeartbeats 4000000 in
theorem ct_X5_sheet (γ : Gm) (E : Ev) (M : Mi) (L : Ml)  (x1 : Int32) (x2 : Int32) (x3 : Int32) (h0 : XAt E) : Ct γ yX5_sheet cX5_sheet 5 (some .int) ⟨2, 0, 0, 45⟩ [.ref (E.2.1 0), .int x1, .int x2, .int x3] E M L (Q_iw γ E) 0 0 (F_X5_sheet M L x1 x2 x3) := by
  refine ct_of (own := RX5) (lv := [some (.ref (E.2.1 0)), some (.int x1), some (.int x2), some (.int x3), none]) (by decide +kernel) rfl rfl (Nat.le_of_ble_eq_true rfl) (fun κ C hγ hN => ?_)
  subst hγ
  have hn : ∀ i, i < 5 → i < knL κ := fun i h => by rw [hN]; exact h
  unfold F_X5_sheet
  refine j_aload_n C dX5_sheet_0 rfl rfl ?_
  refine j_iload_n C dX5_sheet_1 rfl rfl ?_
  refine j_callV_o (st := []) C dX5_sheet_2 (ct_X5_sheetAt (kγ κ) E M L x1 h0) mi_X5_sheetAt tw_702 FC5 (XAt.S h0) rfl rfl (Nat.le_of_ble_eq_true rfl) ⟨⟨rfl, rfl⟩, ⟨Nat.le_of_ble_eq_true rfl, Nat.le_of_ble_eq_true rfl⟩, ⟨Nat.zero_le _, Nat.zero_le _⟩⟩ (fun v2 => ?_)
  refine j_opt ?_ (fun t2 ht2 => ?_)
  · refine j_astoreN (i := 4) (lv' := [some (.ref (E.2.1 0)), some (.int x1), some (.int x2), some (.int x3), some (.null)]) C dX5_sheet_5 (hn 4 (by decide)) rfl ?_
    refine j_aloadN C dX5_sheet_7 rfl ?_
    refine j_ifnullN (tgt := 22) C dX5_sheet_9 (by decide) ?_
    refine j_bipush (v := (-2 : Int32)) C dX5_sheet_22 (by decide) ?_
    exact j_iretw C dX5_sheet_24
  · refine j_astore (i := 4) (lv' := [some (.ref (E.2.1 0)), some (.int x1), some (.int x2), some (.int x3), some (.ref (E.2.1 t2))]) C dX5_sheet_5 (hn 4 (by decide)) rfl ?_
    refine j_aload C dX5_sheet_7 rfl ?_
    refine j_ifnull C dX5_sheet_9 ?_
    refine j_iload_n C dX5_sheet_12 rfl rfl ?_
    refine j_iconst (v := (-1 : Int32)) C dX5_sheet_13 rfl ?_
    refine j_icmp_lt (tgt := 22) C dX5_sheet_14 (by decide) ?_ ?_
    · refine j_bipush (v := (-2 : Int32)) C dX5_sheet_22 (by decide) ?_
      exact j_iretw C dX5_sheet_24
    · refine j_iload_n C dX5_sheet_17 rfl rfl ?_
      refine j_iconst (v := (2 : Int32)) C dX5_sheet_18 rfl ?_
      refine j_icmp_le (tgt := 25) C dX5_sheet_19 (by decide) ?_ ?_
      · refine j_iload_n C dX5_sheet_25 rfl rfl ?_
        refine j_iconst (v := (-1 : Int32)) C dX5_sheet_26 rfl ?_
        refine j_icmp_ne (tgt := 39) C dX5_sheet_27 (by decide) ?_ ?_
        · refine j_iload_n C dX5_sheet_39 rfl rfl ?_
          refine j_bipush (v := (40 : Int32)) C dX5_sheet_40 (by decide) ?_
          refine j_icmp_le (tgt := 48) C dX5_sheet_42 (by decide) ?_ ?_
          · refine j_iload_n C dX5_sheet_48 rfl rfl ?_
            refine j_if_ge (tgt := 55) C dX5_sheet_49 (by decide) ?_ ?_
            · refine j_aload C dX5_sheet_55 rfl ?_
              refine j_iload_n C dX5_sheet_57 rfl rfl ?_
              refine j_iload_n C dX5_sheet_58 rfl rfl ?_
              refine j_callV_vw (st := []) C dX5_sheet_59 (ct_X3_become (kγ κ) E M L t2 x2 x3 (XAt.SA h0 ht2)) mi_X3_become tw_727 FC3 (SAt.S (XAt.SA h0 ht2)) rfl rfl (Nat.le_of_ble_eq_true rfl) ⟨⟨rfl, rfl⟩, ⟨Nat.le_of_ble_eq_true rfl, Nat.le_of_ble_eq_true rfl⟩, ⟨Nat.zero_le _, Nat.zero_le _⟩⟩ (fun r59 => ?_)
              refine j_iconst (v := (1 : Int32)) C dX5_sheet_62 rfl ?_
              exact j_iretw C dX5_sheet_63
            · refine j_bipush (v := (-14 : Int32)) C dX5_sheet_52 (by decide) ?_
              exact j_iretw C dX5_sheet_54
          · refine j_bipush (v := (-2 : Int32)) C dX5_sheet_45 (by decide) ?_
            exact j_iretw C dX5_sheet_47
        · refine j_aload C dX5_sheet_30 rfl ?_
          refine j_iconst (v := (-1 : Int32)) C dX5_sheet_32 rfl ?_
          refine j_iconst (v := (0 : Int32)) C dX5_sheet_33 rfl ?_
          refine j_callV_vw (st := []) C dX5_sheet_34 (ct_X3_become (kγ κ) E M L t2 (-1 : Int32) (0 : Int32) (XAt.SA h0 ht2)) mi_X3_become tw_727 FC3 (SAt.S (XAt.SA h0 ht2)) rfl rfl (Nat.le_of_ble_eq_true rfl) ⟨⟨rfl, rfl⟩, ⟨Nat.le_of_ble_eq_true rfl, Nat.le_of_ble_eq_true rfl⟩, ⟨Nat.zero_le _, Nat.zero_le _⟩⟩ (fun r34 => ?_)
          refine j_iconst (v := (1 : Int32)) C dX5_sheet_37 rfl ?_
          exact j_iretw C dX5_sheet_38
      · refine j_bipush (v := (-2 : Int32)) C dX5_sheet_22 (by decide) ?_
        exact j_iretw C dX5_sheet_24
set_option maxRecDepth 100000 in
set_option maxHeartbeats 4000000 in
theorem ct_X5_cell (γ : Gm) (E : Ev) (M : Mi) (L : Ml)  (x1 : Int32) (x2 : Int32) (x3 : Int32) (h0 : XAt E) : Ct γ yX5_cell cX5_cell 5 (some .int) ⟨2, 0, 0, 44⟩ [.ref (E.2.1 0), .int x1, .int x2, .int x3] E M L (Q_iw γ E) 0 0 (F_X5_cell M L x1 x2 x3) := by
  refine ct_of (own := RX5) (lv := [some (.ref (E.2.1 0)), some (.int x1), some (.int x2), some (.int x3), none]) (by decide +kernel) rfl rfl (Nat.le_of_ble_eq_true rfl) (fun κ C hγ hN => ?_)
  subst hγ
  have hn : ∀ i, i < 5 → i < knL κ := fun i h => by rw [hN]; exact h
  unfold F_X5_cell
  refine j_aload_n C dX5_cell_0 rfl rfl ?_
  refine j_iload_n C dX5_cell_1 rfl rfl ?_
  refine j_callV_o (st := []) C dX5_cell_2 (ct_X5_sheetAt (kγ κ) E M L x1 h0) mi_X5_sheetAt tw_702 FC5 (XAt.S h0) rfl rfl (Nat.le_of_ble_eq_true rfl) ⟨⟨rfl, rfl⟩, ⟨Nat.le_of_ble_eq_true rfl, Nat.le_of_ble_eq_true rfl⟩, ⟨Nat.zero_le _, Nat.zero_le _⟩⟩ (fun v2 => ?_)
  refine j_opt ?_ (fun t2 ht2 => ?_)
  · refine j_astoreN (i := 4) (lv' := [some (.ref (E.2.1 0)), some (.int x1), some (.int x2), some (.int x3), some (.null)]) C dX5_cell_5 (hn 4 (by decide)) rfl ?_
    refine j_aloadN C dX5_cell_7 rfl ?_
    refine j_ifnonnullN C dX5_cell_9 ?_
    refine j_bipush (v := (-2 : Int32)) C dX5_cell_12 (by decide) ?_
    exact j_iretw C dX5_cell_14
  · refine j_astore (i := 4) (lv' := [some (.ref (E.2.1 0)), some (.int x1), some (.int x2), some (.int x3), some (.ref (E.2.1 t2))]) C dX5_cell_5 (hn 4 (by decide)) rfl ?_
    refine j_aload C dX5_cell_7 rfl ?_
    refine j_ifnonnull (tgt := 15) C dX5_cell_9 (by decide) ?_
    refine j_aload C dX5_cell_15 rfl ?_
    refine j_getI (j := 1) C dX5_cell_17 FC3 (SAt.S (XAt.SA h0 ht2)) (by decide) rfl tw_238 ?_
    refine j_iconst (v := (-1 : Int32)) C dX5_cell_20 rfl ?_
    refine j_icmp_ne (tgt := 27) C dX5_cell_21 (by decide) ?_ ?_
    · refine j_aload C dX5_cell_27 rfl ?_
      refine j_iload_n C dX5_cell_29 rfl rfl ?_
      refine j_iload_n C dX5_cell_30 rfl rfl ?_
      refine j_callV_iw (st := []) C dX5_cell_31 (ct_X3_put (kγ κ) E M L t2 x2 x3 (XAt.SA h0 ht2)) mi_X3_put tw_734 FC3 (SAt.S (XAt.SA h0 ht2)) rfl rfl (Nat.le_of_ble_eq_true rfl) ⟨⟨rfl, rfl⟩, ⟨Nat.le_of_ble_eq_true rfl, Nat.le_of_ble_eq_true rfl⟩, ⟨Nat.zero_le _, Nat.zero_le _⟩⟩ (fun r31 => ?_)
      refine j_if_eq (tgt := 41) C dX5_cell_34 (by decide) ?_ ?_
      · refine j_bipush (v := (-12 : Int32)) C dX5_cell_41 (by decide) ?_
        exact j_iretw C dX5_cell_43
      · refine j_iconst (v := (1 : Int32)) C dX5_cell_37 rfl ?_
        refine j_goto (tgt := 43) C dX5_cell_38 (by decide) ?_
        exact j_iretw C dX5_cell_43
    · refine j_bipush (v := (-11 : Int32)) C dX5_cell_24 (by decide) ?_
      exact j_iretw C dX5_cell_26
set_option maxRecDepth 100000 in
set_option maxHeartbeats 4000000 in
theorem ct_X5_copy (γ : Gm) (E : Ev) (M : Mi) (L : Ml)  (x1 : Int32) (x2 : Int32) (x3 : Int32) (x4 : Int32) (x5 : Int32) (h0 : XAt E) : Ct γ yX5_copy cX5_copy 8 (some .int) ⟨2, 0, 0, 80⟩ [.ref (E.2.1 0), .int x1, .int x2, .int x3, .int x4, .int x5] E M L (Q_iw γ E) 0 0 (F_X5_copy M L x1 x2 x3 x4 x5) := by
  refine ct_of (own := RX5) (lv := [some (.ref (E.2.1 0)), some (.int x1), some (.int x2), some (.int x3), some (.int x4), some (.int x5), none, none]) (by decide +kernel) rfl rfl (Nat.le_of_ble_eq_true rfl) (fun κ C hγ hN => ?_)
  subst hγ
  have hn : ∀ i, i < 8 → i < knL κ := fun i h => by rw [hN]; exact h
  unfold F_X5_copy
  refine j_aload_n C dX5_copy_0 rfl rfl ?_
  refine j_iload_n C dX5_copy_1 rfl rfl ?_
  refine j_callV_o (st := []) C dX5_copy_2 (ct_X5_sheetAt (kγ κ) E M L x1 h0) mi_X5_sheetAt tw_702 FC5 (XAt.S h0) rfl rfl (Nat.le_of_ble_eq_true rfl) ⟨⟨rfl, rfl⟩, ⟨Nat.le_of_ble_eq_true rfl, Nat.le_of_ble_eq_true rfl⟩, ⟨Nat.zero_le _, Nat.zero_le _⟩⟩ (fun v2 => ?_)
  refine j_opt ?_ (fun t2 ht2 => ?_)
  · refine j_astoreN (i := 6) (lv' := [some (.ref (E.2.1 0)), some (.int x1), some (.int x2), some (.int x3), some (.int x4), some (.int x5), some (.null), none]) C dX5_copy_5 (hn 6 (by decide)) rfl ?_
    refine j_aload_n C dX5_copy_7 rfl rfl ?_
    refine j_iload_n C dX5_copy_8 rfl rfl ?_
    refine j_callV_o (st := []) C dX5_copy_9 (ct_X5_sheetAt (kγ κ) E M L x3 h0) mi_X5_sheetAt tw_702 FC5 (XAt.S h0) rfl rfl (Nat.le_of_ble_eq_true rfl) ⟨⟨rfl, rfl⟩, ⟨Nat.le_of_ble_eq_true rfl, Nat.le_of_ble_eq_true rfl⟩, ⟨Nat.zero_le _, Nat.zero_le _⟩⟩ (fun v9 => ?_)
    refine j_opt ?_ (fun t9 ht9 => ?_)
    · refine j_astoreN (i := 7) (lv' := [some (.ref (E.2.1 0)), some (.int x1), some (.int x2), some (.int x3), some (.int x4), some (.int x5), some (.null), some (.null)]) C dX5_copy_12 (hn 7 (by decide)) rfl ?_
      refine j_aloadN C dX5_copy_14 rfl ?_
      refine j_ifnullN (tgt := 24) C dX5_copy_16 (by decide) ?_
      refine j_bipush (v := (-2 : Int32)) C dX5_copy_24 (by decide) ?_
      exact j_iretw C dX5_copy_26
    · refine j_astore (i := 7) (lv' := [some (.ref (E.2.1 0)), some (.int x1), some (.int x2), some (.int x3), some (.int x4), some (.int x5), some (.null), some (.ref (E.2.1 t9))]) C dX5_copy_12 (hn 7 (by decide)) rfl ?_
      refine j_aloadN C dX5_copy_14 rfl ?_
      refine j_ifnullN (tgt := 24) C dX5_copy_16 (by decide) ?_
      refine j_bipush (v := (-2 : Int32)) C dX5_copy_24 (by decide) ?_
      exact j_iretw C dX5_copy_26
  · refine j_astore (i := 6) (lv' := [some (.ref (E.2.1 0)), some (.int x1), some (.int x2), some (.int x3), some (.int x4), some (.int x5), some (.ref (E.2.1 t2)), none]) C dX5_copy_5 (hn 6 (by decide)) rfl ?_
    refine j_aload_n C dX5_copy_7 rfl rfl ?_
    refine j_iload_n C dX5_copy_8 rfl rfl ?_
    refine j_callV_o (st := []) C dX5_copy_9 (ct_X5_sheetAt (kγ κ) E M L x3 h0) mi_X5_sheetAt tw_702 FC5 (XAt.S h0) rfl rfl (Nat.le_of_ble_eq_true rfl) ⟨⟨rfl, rfl⟩, ⟨Nat.le_of_ble_eq_true rfl, Nat.le_of_ble_eq_true rfl⟩, ⟨Nat.zero_le _, Nat.zero_le _⟩⟩ (fun v9 => ?_)
    refine j_opt ?_ (fun t9 ht9 => ?_)
    · refine j_astoreN (i := 7) (lv' := [some (.ref (E.2.1 0)), some (.int x1), some (.int x2), some (.int x3), some (.int x4), some (.int x5), some (.ref (E.2.1 t2)), some (.null)]) C dX5_copy_12 (hn 7 (by decide)) rfl ?_
      refine j_aload C dX5_copy_14 rfl ?_
      refine j_ifnull C dX5_copy_16 ?_
      refine j_aloadN C dX5_copy_19 rfl ?_
      refine j_ifnonnullN C dX5_copy_21 ?_
      refine j_bipush (v := (-2 : Int32)) C dX5_copy_24 (by decide) ?_
      exact j_iretw C dX5_copy_26
    · refine j_astore (i := 7) (lv' := [some (.ref (E.2.1 0)), some (.int x1), some (.int x2), some (.int x3), some (.int x4), some (.int x5), some (.ref (E.2.1 t2)), some (.ref (E.2.1 t9))]) C dX5_copy_12 (hn 7 (by decide)) rfl ?_
      refine j_aload C dX5_copy_14 rfl ?_
      refine j_ifnull C dX5_copy_16 ?_
      refine j_aload C dX5_copy_19 rfl ?_
      refine j_ifnonnull (tgt := 27) C dX5_copy_21 (by decide) ?_
      refine j_aload C dX5_copy_27 rfl ?_
      refine j_getI (j := 1) C dX5_copy_29 FC3 (SAt.S (XAt.SA h0 ht2)) (by decide) rfl tw_238 ?_
      refine j_iconst (v := (-1 : Int32)) C dX5_copy_32 rfl ?_
      refine j_icmp_eq (tgt := 45) C dX5_copy_33 (by decide) ?_ ?_
      · refine j_bipush (v := (-11 : Int32)) C dX5_copy_45 (by decide) ?_
        exact j_iretw C dX5_copy_47
      · refine j_aload C dX5_copy_36 rfl ?_
        refine j_getI (j := 1) C dX5_copy_38 FC3 (SAt.S (XAt.SA h0 ht9)) (by decide) rfl tw_238 ?_
        refine j_iconst (v := (-1 : Int32)) C dX5_copy_41 rfl ?_
        refine j_icmp_ne (tgt := 48) C dX5_copy_42 (by decide) ?_ ?_
        · refine j_aload C dX5_copy_48 rfl ?_
          refine j_getI (j := 1) C dX5_copy_50 FC3 (SAt.S (XAt.SA h0 ht2)) (by decide) rfl tw_238 ?_
          refine j_aload C dX5_copy_53 rfl ?_
          refine j_getI (j := 1) C dX5_copy_55 FC3 (SAt.S (XAt.SA h0 ht9)) (by decide) rfl tw_238 ?_
          refine j_icmp_eq (tgt := 64) C dX5_copy_58 (by decide) ?_ ?_
          · refine j_aload C dX5_copy_64 rfl ?_
            refine j_iload_n C dX5_copy_66 rfl rfl ?_
            refine j_iload C dX5_copy_67 rfl ?_
            refine j_callV_i (st := []) C dX5_copy_69 (ct_X3_has (kγ κ) E M L t2 x2 x5 (XAt.SA h0 ht2)) mi_X3_has tw_781 FC3 (SAt.S (XAt.SA h0 ht2)) rfl rfl (Nat.le_of_ble_eq_true rfl) ⟨⟨rfl, rfl⟩, ⟨Nat.le_of_ble_eq_true rfl, Nat.le_of_ble_eq_true rfl⟩, ⟨Nat.zero_le _, Nat.zero_le _⟩⟩ (fun v69 => ?_)
            refine j_if_eq (tgt := 87) C dX5_copy_72 (by decide) ?_ ?_
            · refine j_bipush (v := (-12 : Int32)) C dX5_copy_87 (by decide) ?_
              exact j_iretw C dX5_copy_89
            · refine j_aload C dX5_copy_75 rfl ?_
              refine j_iload C dX5_copy_77 rfl ?_
              refine j_iload C dX5_copy_79 rfl ?_
              refine j_callV_i (st := []) C dX5_copy_81 (ct_X3_has (kγ κ) E M L t9 x4 x5 (XAt.SA h0 ht9)) mi_X3_has tw_781 FC3 (SAt.S (XAt.SA h0 ht9)) rfl rfl (Nat.le_of_ble_eq_true rfl) ⟨⟨rfl, rfl⟩, ⟨Nat.le_of_ble_eq_true rfl, Nat.le_of_ble_eq_true rfl⟩, ⟨Nat.zero_le _, Nat.zero_le _⟩⟩ (fun v81 => ?_)
              refine j_if_ne (tgt := 90) C dX5_copy_84 (by decide) ?_ ?_
              · refine j_aload C dX5_copy_90 rfl ?_
                refine j_getR (j := 0) C dX5_copy_92 FC3 (SAt.S (XAt.SA h0 ht2)) (by decide) rfl (SAt.R_items (XAt.SA h0 ht2)) tw_236 ?_
                refine j_iload_n C dX5_copy_95 rfl rfl ?_
                refine j_aload C dX5_copy_96 rfl ?_
                refine j_getR (j := 0) C dX5_copy_98 FC3 (SAt.S (XAt.SA h0 ht9)) (by decide) rfl (SAt.R_items (XAt.SA h0 ht9)) tw_236 ?_
                refine j_iload C dX5_copy_101 rfl ?_
                refine j_iload C dX5_copy_103 rfl ?_
                refine j_pc (pc2 := 105) rfl ?_
                refine j_copyi C dX5_copy_105 (SAt.P_items (XAt.SA h0 ht2)) (SAt.P_items (XAt.SA h0 ht9)) tw_782 tw_401 tw_400 tw_113 (Nat.le_of_ble_eq_true rfl) (Nat.le_of_ble_eq_true rfl) ?_
                refine j_iload C dX5_copy_108 rfl ?_
                exact j_iretw C dX5_copy_110
              · refine j_bipush (v := (-12 : Int32)) C dX5_copy_87 (by decide) ?_
                exact j_iretw C dX5_copy_89
          · refine j_bipush (v := (-13 : Int32)) C dX5_copy_61 (by decide) ?_
            exact j_iretw C dX5_copy_63
        · refine j_bipush (v := (-11 : Int32)) C dX5_copy_45 (by decide) ?_
          exact j_iretw C dX5_copy_47
set_option maxRecDepth 100000 in
set_option maxHeartbeats 4000000 in
theorem ct_X5_suits (γ : Gm) (E : Ev) (M : Mi) (L : Ml)  (x1 : Int32) (x2 : Int32) (x3 : Int32) (x4 : Int32) (h0 : XAt E) : Ct γ yX5_suits cX5_suits 9 (some .int) ⟨3, 0, 0, 67⟩ [.ref (E.2.1 0), .int x1, .int x2, .int x3, .int x4] E M L (Q_iw γ E) 0 0 (F_X5_suits M L x1 x2 x3 x4) := by
  refine ct_of (own := RX5) (lv := [some (.ref (E.2.1 0)), some (.int x1), some (.int x2), some (.int x3), some (.int x4), none, none, none, none]) (by decide +kernel) rfl rfl (Nat.le_of_ble_eq_true rfl) (fun κ C hγ hN => ?_)
  subst hγ
  have hn : ∀ i, i < 9 → i < knL κ := fun i h => by rw [hN]; exact h
  have k129 : ∀ (kf62 : Mi → Ml → Int32 → Int32 → Nat → Int32 → Int32 → Option (Int32 × Mi × Ml)), (∀ (M : Mi) (L : Ml) (x3 : Int32) (x4 : Int32) (y5 : Nat) (x6 : Int32) (x7 : Int32) (hy5 : SAt E y5), JF κ (PQ κ (Q_iw (kγ κ) E) 0 0) 62 [some (.ref (E.2.1 0)), none, none, some (.int x3), some (.int x4), some (.ref (E.2.1 y5)), some (.int x6), some (.int x7), none] [] E M L 0 0 (kf62 M L x3 x4 y5 x6 x7)) → ∀ (M : Mi) (L : Ml) (x3 : Int32) (x4 : Int32) (y5 : Nat) (x6 : Int32) (x7 : Int32) (hy5 : SAt E y5), JF κ (PQ κ (Q_iw (kγ κ) E) 0 0) 129 [some (.ref (E.2.1 0)), none, none, some (.int x3), some (.int x4), some (.ref (E.2.1 y5)), some (.int x6), some (.int x7), none] [] E M L 0 0 (F_X5_suits_k129 kf62 M L x3 x4 y5 x6 x7) := by
    intro kf62 hkf62 M L x3 x4 y5 x6 x7 hy5
    unfold F_X5_suits_k129
    refine j_iinc (i := 7) (v := (x7 + (1 : Int32))) (lv' := [some (.ref (E.2.1 0)), none, none, some (.int x3), some (.int x4), some (.ref (E.2.1 y5)), some (.int x6), some (.int (x7 + (1 : Int32))), none]) C dX5_suits_129 rfl rfl (hn 7 (by decide)) rfl ?_
    refine j_goto (tgt := 62) C dX5_suits_132 (by decide) ?_
    exact hkf62 M L x3 x4 y5 x6 ((x7 + (1 : Int32))) hy5
  have k62 : ∀ (n : Nat) (M : Mi) (L : Ml) (x3 : Int32) (x4 : Int32) (y5 : Nat) (x6 : Int32) (x7 : Int32) (hy5 : SAt E y5), JF κ (PQ κ (Q_iw (kγ κ) E) 0 0) 62 [some (.ref (E.2.1 0)), none, none, some (.int x3), some (.int x4), some (.ref (E.2.1 y5)), some (.int x6), some (.int x7), none] [] E M L 0 0 (F_X5_suits_k62  n M L x3 x4 y5 x6 x7) := by
    intro n
    induction n with
    | zero => intros; exact jf_none
    | succ n ih =>
      intro M L x3 x4 y5 x6 x7 hy5
      unfold F_X5_suits_k62
      refine j_iload C dX5_suits_62 rfl ?_
      refine j_iload C dX5_suits_64 rfl ?_
      refine j_icmp_ge (tgt := 135) C dX5_suits_66 (by decide) ?_ ?_
      · refine j_iload C dX5_suits_135 rfl ?_
        exact j_iretw C dX5_suits_137
      · refine j_iload_n C dX5_suits_69 rfl rfl ?_
        refine j_iconst (v := (3 : Int32)) C dX5_suits_70 rfl ?_
        refine j_iload C dX5_suits_71 rfl ?_
        refine j_imul C dX5_suits_73 ?_
        refine j_iadd C dX5_suits_74 ?_
        refine j_istore (i := 8) (lv' := [some (.ref (E.2.1 0)), none, none, some (.int x3), some (.int x4), some (.ref (E.2.1 y5)), some (.int x6), some (.int x7), some (.int (x3 + ((3 : Int32) * x7)))]) C dX5_suits_75 (hn 8 (by decide)) rfl ?_
        refine j_aload C dX5_suits_77 rfl ?_
        refine j_pc (pc2 := 79) rfl ?_
        refine j_iload C dX5_suits_79 rfl ?_
        refine j_iconst (v := (3 : Int32)) C dX5_suits_81 rfl ?_
        refine j_callV_i (st := []) C dX5_suits_82 (ct_X3_has (kγ κ) E M L y5 (x3 + ((3 : Int32) * x7)) (3 : Int32) hy5) mi_X3_has tw_781 FC3 (SAt.S hy5) rfl rfl (Nat.le_of_ble_eq_true rfl) ⟨⟨rfl, rfl⟩, ⟨Nat.le_of_ble_eq_true rfl, Nat.le_of_ble_eq_true rfl⟩, ⟨Nat.zero_le _, Nat.zero_le _⟩⟩ (fun v82 => ?_)
        refine j_if_ne (tgt := 91) C dX5_suits_85 (by decide) ?_ ?_
        · refine j_aload_n C dX5_suits_91 rfl rfl ?_
          refine j_aload C dX5_suits_92 rfl ?_
          refine j_getR (j := 0) C dX5_suits_94 FC3 (SAt.S hy5) (by decide) rfl (SAt.R_items hy5) tw_236 ?_
          refine j_iload C dX5_suits_97 rfl ?_
          refine j_iald C dX5_suits_99 (SAt.P_items hy5) ?_
          refine j_aload C dX5_suits_100 rfl ?_
          refine j_getR (j := 0) C dX5_suits_102 FC3 (SAt.S hy5) (by decide) rfl (SAt.R_items hy5) tw_236 ?_
          refine j_pc (pc2 := 105) rfl ?_
          refine j_iload C dX5_suits_105 rfl ?_
          refine j_iconst (v := (1 : Int32)) C dX5_suits_107 rfl ?_
          refine j_iadd C dX5_suits_108 ?_
          refine j_iald C dX5_suits_109 (SAt.P_items hy5) ?_
          refine j_aload C dX5_suits_110 rfl ?_
          refine j_getR (j := 0) C dX5_suits_112 FC3 (SAt.S hy5) (by decide) rfl (SAt.R_items hy5) tw_236 ?_
          refine j_iload C dX5_suits_115 rfl ?_
          refine j_iconst (v := (2 : Int32)) C dX5_suits_117 rfl ?_
          refine j_pc (pc2 := 118) rfl ?_
          refine j_iadd C dX5_suits_118 ?_
          refine j_iald C dX5_suits_119 (SAt.P_items hy5) ?_
          refine j_callV_iw (st := []) C dX5_suits_120 (ct_X5_party (kγ κ) E M L (M (y5 + 1) (Int32.toNatClampNeg (x3 + ((3 : Int32) * x7)))) (M (y5 + 1) (Int32.toNatClampNeg ((x3 + ((3 : Int32) * x7)) + (1 : Int32)))) (M (y5 + 1) (Int32.toNatClampNeg ((x3 + ((3 : Int32) * x7)) + (2 : Int32)))) h0) mi_X5_party tw_787 FC5 (XAt.S h0) rfl rfl (Nat.le_of_ble_eq_true rfl) ⟨⟨rfl, rfl⟩, ⟨Nat.le_of_ble_eq_true rfl, Nat.le_of_ble_eq_true rfl⟩, ⟨Nat.zero_le _, Nat.zero_le _⟩⟩ (fun r120 => ?_)
          refine j_if_lt (tgt := 129) C dX5_suits_123 (by decide) ?_ ?_
          · refine j_mask [true, false, false, true, true, true, true, true, false] (lv' := [some (.ref (E.2.1 0)), none, none, some (.int x3), some (.int x4), some (.ref (E.2.1 y5)), some (.int x6), some (.int x7), none]) rfl ?_
            exact k129 (F_X5_suits_k62  n) ih r120.2.1 r120.2.2 x3 x4 y5 x6 x7 hy5
          · refine j_iinc (i := 6) (v := (x6 + (1 : Int32))) (lv' := [some (.ref (E.2.1 0)), none, none, some (.int x3), some (.int x4), some (.ref (E.2.1 y5)), some (.int (x6 + (1 : Int32))), some (.int x7), some (.int (x3 + ((3 : Int32) * x7)))]) C dX5_suits_126 rfl rfl (hn 6 (by decide)) rfl ?_
            refine j_mask [true, false, false, true, true, true, true, true, false] (lv' := [some (.ref (E.2.1 0)), none, none, some (.int x3), some (.int x4), some (.ref (E.2.1 y5)), some (.int (x6 + (1 : Int32))), some (.int x7), none]) rfl ?_
            exact k129 (F_X5_suits_k62  n) ih r120.2.1 r120.2.2 x3 x4 y5 ((x6 + (1 : Int32))) x7 hy5
        · refine j_bipush (v := (-12 : Int32)) C dX5_suits_88 (by decide) ?_
          exact j_iretw C dX5_suits_90
  unfold F_X5_suits
  refine j_aload_n C dX5_suits_0 rfl rfl ?_
  refine j_iload_n C dX5_suits_1 rfl rfl ?_
  refine j_callV_o (st := []) C dX5_suits_2 (ct_X5_sheetAt (kγ κ) E M L x1 h0) mi_X5_sheetAt tw_702 FC5 (XAt.S h0) rfl rfl (Nat.le_of_ble_eq_true rfl) ⟨⟨rfl, rfl⟩, ⟨Nat.le_of_ble_eq_true rfl, Nat.le_of_ble_eq_true rfl⟩, ⟨Nat.zero_le _, Nat.zero_le _⟩⟩ (fun v2 => ?_)
  refine j_opt ?_ (fun t2 ht2 => ?_)
  · refine j_astoreN (i := 5) (lv' := [some (.ref (E.2.1 0)), some (.int x1), some (.int x2), some (.int x3), some (.int x4), some (.null), none, none, none]) C dX5_suits_5 (hn 5 (by decide)) rfl ?_
    refine j_aloadN C dX5_suits_7 rfl ?_
    refine j_ifnullN (tgt := 29) C dX5_suits_9 (by decide) ?_
    refine j_bipush (v := (-2 : Int32)) C dX5_suits_29 (by decide) ?_
    exact j_iretw C dX5_suits_31
  · refine j_astore (i := 5) (lv' := [some (.ref (E.2.1 0)), some (.int x1), some (.int x2), some (.int x3), some (.int x4), some (.ref (E.2.1 t2)), none, none, none]) C dX5_suits_5 (hn 5 (by decide)) rfl ?_
    refine j_aload C dX5_suits_7 rfl ?_
    refine j_ifnull C dX5_suits_9 ?_
    refine j_iload_n C dX5_suits_12 rfl rfl ?_
    refine j_iconst (v := (2 : Int32)) C dX5_suits_13 rfl ?_
    refine j_callS_i (st := []) C dX5_suits_14 (ct_X5_isWithin (kγ κ) E M L x2 (2 : Int32)) mi_X5_isWithin tw_459 rfl rfl (Nat.le_of_ble_eq_true rfl) ⟨⟨rfl, rfl⟩, ⟨Nat.le_of_ble_eq_true rfl, Nat.le_of_ble_eq_true rfl⟩, ⟨Nat.zero_le _, Nat.zero_le _⟩⟩ (fun v14 => ?_)
    refine j_if_eq (tgt := 29) C dX5_suits_17 (by decide) ?_ ?_
    · refine j_bipush (v := (-2 : Int32)) C dX5_suits_29 (by decide) ?_
      exact j_iretw C dX5_suits_31
    · refine j_iload C dX5_suits_20 rfl ?_
      refine j_iconst (v := (5 : Int32)) C dX5_suits_22 rfl ?_
      refine j_callS_i (st := []) C dX5_suits_23 (ct_X5_isWithin (kγ κ) E M L x4 (5 : Int32)) mi_X5_isWithin tw_459 rfl rfl (Nat.le_of_ble_eq_true rfl) ⟨⟨rfl, rfl⟩, ⟨Nat.le_of_ble_eq_true rfl, Nat.le_of_ble_eq_true rfl⟩, ⟨Nat.zero_le _, Nat.zero_le _⟩⟩ (fun v23 => ?_)
      refine j_if_ne (tgt := 32) C dX5_suits_26 (by decide) ?_ ?_
      · refine j_aload C dX5_suits_32 rfl ?_
        refine j_getI (j := 1) C dX5_suits_34 FC3 (SAt.S (XAt.SA h0 ht2)) (by decide) rfl tw_238 ?_
        refine j_iconst (v := (-1 : Int32)) C dX5_suits_37 rfl ?_
        refine j_icmp_ne (tgt := 44) C dX5_suits_38 (by decide) ?_ ?_
        · refine j_aload C dX5_suits_44 rfl ?_
          refine j_getI (j := 1) C dX5_suits_46 FC3 (SAt.S (XAt.SA h0 ht2)) (by decide) rfl tw_238 ?_
          refine j_iload_n C dX5_suits_49 rfl rfl ?_
          refine j_icmp_eq (tgt := 56) C dX5_suits_50 (by decide) ?_ ?_
          · refine j_iconst (v := (0 : Int32)) C dX5_suits_56 rfl ?_
            refine j_istore (i := 6) (lv' := [some (.ref (E.2.1 0)), some (.int x1), some (.int x2), some (.int x3), some (.int x4), some (.ref (E.2.1 t2)), some (.int (0 : Int32)), none, none]) C dX5_suits_57 (hn 6 (by decide)) rfl ?_
            refine j_iconst (v := (0 : Int32)) C dX5_suits_59 rfl ?_
            refine j_istore (i := 7) (lv' := [some (.ref (E.2.1 0)), some (.int x1), some (.int x2), some (.int x3), some (.int x4), some (.ref (E.2.1 t2)), some (.int (0 : Int32)), some (.int (0 : Int32)), none]) C dX5_suits_60 (hn 7 (by decide)) rfl ?_
            refine j_mask [true, false, false, true, true, true, true, true, false] (lv' := [some (.ref (E.2.1 0)), none, none, some (.int x3), some (.int x4), some (.ref (E.2.1 t2)), some (.int (0 : Int32)), some (.int (0 : Int32)), none]) rfl ?_
            exact k62 FU M L x3 x4 t2 ((0 : Int32)) ((0 : Int32)) (XAt.SA h0 ht2)
          · refine j_bipush (v := (-13 : Int32)) C dX5_suits_53 (by decide) ?_
            exact j_iretw C dX5_suits_55
        · refine j_bipush (v := (-11 : Int32)) C dX5_suits_41 (by decide) ?_
          exact j_iretw C dX5_suits_43
      · refine j_bipush (v := (-2 : Int32)) C dX5_suits_29 (by decide) ?_
        exact j_iretw C dX5_suits_31
set_option maxRecDepth 100000 in
set_option maxHeartbeats 4000000 in
theorem ct_X5_taken (γ : Gm) (E : Ev) (M : Mi) (L : Ml)  (x1 : Int32) (x2 : Int32) (h0 : XAt E) : Ct γ yX5_taken cX5_taken 5 (some .int) ⟨2, 0, 0, 42⟩ [.ref (E.2.1 0), .int x1, .int x2] E M L (Q_i γ E M L) 0 0 (F_X5_taken M L x1 x2) := by
  refine ct_of (own := RX5) (lv := [some (.ref (E.2.1 0)), some (.int x1), some (.int x2), none, none]) (by decide +kernel) rfl rfl (Nat.le_of_ble_eq_true rfl) (fun κ C hγ hN => ?_)
  subst hγ
  have hn : ∀ i, i < 5 → i < knL κ := fun i h => by rw [hN]; exact h
  have k34 : ∀ (n : Nat) (x1 : Int32) (x2 : Int32) (x3 : Int32) (x4 : Int32), JF κ (PQ κ (Q_i (kγ κ) E M L) 0 0) 34 [some (.ref (E.2.1 0)), some (.int x1), some (.int x2), some (.int x3), some (.int x4)] [] E M L 0 0 (F_X5_taken_k34 M L n x1 x2 x3 x4) := by
    intro n
    induction n with
    | zero => intros; exact jf_none
    | succ n ih =>
      intro x1 x2 x3 x4
      unfold F_X5_taken_k34
      refine j_iload C dX5_taken_34 rfl ?_
      refine j_bipush (v := (6 : Int32)) C dX5_taken_36 (by decide) ?_
      refine j_icmp_ge (tgt := 75) C dX5_taken_38 (by decide) ?_ ?_
      · refine j_bipush (v := (-13 : Int32)) C dX5_taken_75 (by decide) ?_
        exact j_iret C dX5_taken_77
      · refine j_iload_n C dX5_taken_41 rfl rfl ?_
        refine j_callS_i (st := []) C dX5_taken_42 (ct_X5_isKind (kγ κ) E M L x3) mi_X5_isKind tw_566 rfl rfl (Nat.le_of_ble_eq_true rfl) ⟨⟨rfl, rfl⟩, ⟨Nat.le_of_ble_eq_true rfl, Nat.le_of_ble_eq_true rfl⟩, ⟨Nat.zero_le _, Nat.zero_le _⟩⟩ (fun v42 => ?_)
        refine j_if_eq (tgt := 75) C dX5_taken_45 (by decide) ?_ ?_
        · refine j_bipush (v := (-13 : Int32)) C dX5_taken_75 (by decide) ?_
          exact j_iret C dX5_taken_77
        · refine j_iload_n C dX5_taken_48 rfl rfl ?_
          refine j_iload_n C dX5_taken_49 rfl rfl ?_
          refine j_icmp_ne (tgt := 63) C dX5_taken_50 (by decide) ?_ ?_
          · refine j_gets (i := 0) C dX5_taken_63 (by decide) tw_792 ?_
            refine j_iload_n C dX5_taken_66 rfl rfl ?_
            refine j_tald (i := 0) C dX5_taken_67 (by decide) ?_
            refine j_istore_n (i := 3) (lv' := [some (.ref (E.2.1 0)), some (.int x1), some (.int x2), some (.int ((sA 0).getD (Int32.toNatClampNeg x3) 0)), some (.int x4)]) C dX5_taken_68 rfl (hn 3 (by decide)) rfl ?_
            refine j_iinc (i := 4) (v := (x4 + (1 : Int32))) (lv' := [some (.ref (E.2.1 0)), some (.int x1), some (.int x2), some (.int ((sA 0).getD (Int32.toNatClampNeg x3) 0)), some (.int (x4 + (1 : Int32)))]) C dX5_taken_69 rfl rfl (hn 4 (by decide)) rfl ?_
            refine j_goto (tgt := 34) C dX5_taken_72 (by decide) ?_
            exact ih x1 x2 (((sA 0).getD (Int32.toNatClampNeg x3) 0)) ((x4 + (1 : Int32)))
          · refine j_aload_n C dX5_taken_53 rfl rfl ?_
            refine j_getR (j := 0) C dX5_taken_54 FC5 (XAt.S h0) (by decide) rfl (XAt.R_now h0) tw_426 ?_
            refine j_getR (j := 6) C dX5_taken_57 FC0 (FAt.S (XAt.P_now h0)) (by decide) rfl (FAt.R_number (XAt.P_now h0)) tw_146 ?_
            refine j_iload_n C dX5_taken_60 rfl rfl ?_
            refine j_iald C dX5_taken_61 (FAt.P_number (XAt.P_now h0)) ?_
            exact j_iret C dX5_taken_62
  unfold F_X5_taken
  refine j_iload_n C dX5_taken_0 rfl rfl ?_
  refine j_callS_i (st := []) C dX5_taken_1 (ct_X5_isKind (kγ κ) E M L x2) mi_X5_isKind tw_566 rfl rfl (Nat.le_of_ble_eq_true rfl) ⟨⟨rfl, rfl⟩, ⟨Nat.le_of_ble_eq_true rfl, Nat.le_of_ble_eq_true rfl⟩, ⟨Nat.zero_le _, Nat.zero_le _⟩⟩ (fun v1 => ?_)
  refine j_if_ne (tgt := 10) C dX5_taken_4 (by decide) ?_ ?_
  · refine j_aload_n C dX5_taken_10 rfl rfl ?_
    refine j_iload_n C dX5_taken_11 rfl rfl ?_
    refine j_callV_i (st := []) C dX5_taken_12 (ct_X5_isParty (kγ κ) E M L x1 h0) mi_X5_isParty tw_469 FC5 (XAt.S h0) rfl rfl (Nat.le_of_ble_eq_true rfl) ⟨⟨rfl, rfl⟩, ⟨Nat.le_of_ble_eq_true rfl, Nat.le_of_ble_eq_true rfl⟩, ⟨Nat.zero_le _, Nat.zero_le _⟩⟩ (fun v12 => ?_)
    refine j_if_ne (tgt := 21) C dX5_taken_15 (by decide) ?_ ?_
    · refine j_aload_n C dX5_taken_21 rfl rfl ?_
      refine j_getR (j := 0) C dX5_taken_22 FC5 (XAt.S h0) (by decide) rfl (XAt.R_now h0) tw_426 ?_
      refine j_getR (j := 5) C dX5_taken_25 FC0 (FAt.S (XAt.P_now h0)) (by decide) rfl (FAt.R_kind (XAt.P_now h0)) tw_144 ?_
      refine j_iload_n C dX5_taken_28 rfl rfl ?_
      refine j_iald C dX5_taken_29 (FAt.P_kind (XAt.P_now h0)) ?_
      refine j_istore_n (i := 3) (lv' := [some (.ref (E.2.1 0)), some (.int x1), some (.int x2), some (.int (M 2 (Int32.toNatClampNeg x1))), none]) C dX5_taken_30 rfl (hn 3 (by decide)) rfl ?_
      refine j_iconst (v := (0 : Int32)) C dX5_taken_31 rfl ?_
      refine j_pc (pc2 := 32) rfl ?_
      refine j_istore (i := 4) (lv' := [some (.ref (E.2.1 0)), some (.int x1), some (.int x2), some (.int (M 2 (Int32.toNatClampNeg x1))), some (.int (0 : Int32))]) C dX5_taken_32 (hn 4 (by decide)) rfl ?_
      exact k34 FU x1 x2 ((M 2 (Int32.toNatClampNeg x1))) ((0 : Int32))
    · refine j_bipush (v := (-11 : Int32)) C dX5_taken_18 (by decide) ?_
      exact j_iret C dX5_taken_20
  · refine j_bipush (v := (-2 : Int32)) C dX5_taken_7 (by decide) ?_
    exact j_iret C dX5_taken_9
