set_option maxRecDepth 100000 in
set_option maxHeartbeats 4000000 in
theorem ct_X5_isIn (γ : Gm) (E : Ev) (M : Mi) (L : Ml)  (x0 : Int64) (x2 : Int32)  : Ct γ yX5_isIn cX5_isIn 3 (some .boolean) ⟨0, 0, 0, 0⟩ [.long x0, .int x2] E M L (Q_i γ E M L) 0 0 (F_X5_isIn x0 x2) := by
  refine ct_of (own := RX5) (lv := [some (.long x0), none, some (.int x2)]) (by decide +kernel) rfl rfl (Nat.le_of_ble_eq_true rfl) (fun κ C hγ hN => ?_)
  subst hγ
  have hn : ∀ i, i < 3 → i < knL κ := fun i h => by rw [hN]; exact h
  unfold F_X5_isIn
  refine j_lload_n C dX5_isIn_0 rfl rfl ?_
  refine j_iload_n C dX5_isIn_1 rfl rfl ?_
  refine j_lushr C dX5_isIn_2 ?_
  refine j_lconst (v := (1 : Int64)) C dX5_isIn_3 rfl ?_
  refine j_land C dX5_isIn_4 ?_
  refine j_lconst (v := (0 : Int64)) C dX5_isIn_5 rfl ?_
  refine j_lcmp C dX5_isIn_6 ?_
  refine j_pc (pc2 := 7) rfl ?_
  refine j_if_eq (tgt := 14) C dX5_isIn_7 (by decide) ?_ ?_
  · refine j_iconst (v := (0 : Int32)) C dX5_isIn_14 rfl ?_
    exact j_zret C dX5_isIn_15
  · refine j_iconst (v := (1 : Int32)) C dX5_isIn_10 rfl ?_
    refine j_goto (tgt := 15) C dX5_isIn_11 (by decide) ?_
    exact j_zret C dX5_isIn_15
set_option maxRecDepth 100000 in
set_option maxHeartbeats 4000000 in
theorem ct_X0_isHollow (γ : Gm) (E : Ev) (M : Mi) (L : Ml) (b : Nat) (x1 : Int32) (h0 : FAt E b) : Ct γ yX0_isHollow cX0_isHollow 2 (some .boolean) ⟨1, 0, 0, 22⟩ [.ref (E.2.1 b), .int x1] E M L (Q_i γ E M L) 0 0 (F_X0_isHollow b M L x1) := by
  refine ct_of (own := RX0) (lv := [some (.ref (E.2.1 b)), some (.int x1)]) (by decide +kernel) rfl rfl (Nat.le_of_ble_eq_true rfl) (fun κ C hγ hN => ?_)
  subst hγ
  have hn : ∀ i, i < 2 → i < knL κ := fun i h => by rw [hN]; exact h
  unfold F_X0_isHollow
  refine j_aload_n C dX0_isHollow_0 rfl rfl ?_
  refine j_getL (j := 1) C dX0_isHollow_1 FC0 (FAt.S h0) (by decide) rfl tw_132 ?_
  refine j_iload_n C dX0_isHollow_4 rfl rfl ?_
  refine j_callN_i (st := []) C dX0_isHollow_5 (ct_X5_isIn (kγ κ) E M L (L b 1) x1) mi_X5_isIn (fun q => q.1) rfl rfl (Nat.le_of_ble_eq_true rfl) ⟨⟨rfl, rfl⟩, ⟨Nat.le_of_ble_eq_true rfl, Nat.le_of_ble_eq_true rfl⟩, ⟨Nat.zero_le _, Nat.zero_le _⟩⟩ (fun v5 => ?_)
  exact j_zret C dX0_isHollow_8
set_option maxRecDepth 100000 in
set_option maxHeartbeats 4000000 in
theorem ct_X0_whoIsOn (γ : Gm) (E : Ev) (M : Mi) (L : Ml) (b : Nat) (x1 : Int32) (h0 : FAt E b) : Ct γ yX0_whoIsOn cX0_whoIsOn 4 (some .int) ⟨0, 0, 0, 0⟩ [.ref (E.2.1 b), .int x1] E M L (Q_i γ E M L) 0 0 (F_X0_whoIsOn b M L x1) := by
  refine ct_of (own := RX0) (lv := [some (.ref (E.2.1 b)), some (.int x1), none, none]) (by decide +kernel) rfl rfl (Nat.le_of_ble_eq_true rfl) (fun κ C hγ hN => ?_)
  subst hγ
  have hn : ∀ i, i < 4 → i < knL κ := fun i h => by rw [hN]; exact h
  have k30 : ∀ (kf4 : Int32 → Int32 → Int32 → Option (Int32)), (∀ (x1 : Int32) (x2 : Int32) (x3 : Int32), JF κ (PQ κ (Q_i (kγ κ) E M L) 0 0) 4 [some (.ref (E.2.1 b)), some (.int x1), some (.int x2), some (.int x3)] [] E M L 0 0 (kf4 x1 x2 x3)) → ∀ (x1 : Int32) (x3 : Int32) (s0 : Int32) (s1 : Int32), JF κ (PQ κ (Q_i (kγ κ) E M L) 0 0) 30 [some (.ref (E.2.1 b)), some (.int x1), none, some (.int x3)] [.int s1, .int s0] E M L 0 0 (F_X0_whoIsOn_k30 b M L kf4 x1 x3 s0 s1) := by
    intro kf4 hkf4 x1 x3 s0 s1
    unfold F_X0_whoIsOn_k30
    refine j_ior C dX0_whoIsOn_30 ?_
    refine j_istore_n (i := 2) (lv' := [some (.ref (E.2.1 b)), some (.int x1), some (.int (s0 ||| s1)), some (.int x3)]) C dX0_whoIsOn_31 rfl (hn 2 (by decide)) rfl ?_
    refine j_iinc (i := 3) (v := (x3 + (1 : Int32))) (lv' := [some (.ref (E.2.1 b)), some (.int x1), some (.int (s0 ||| s1)), some (.int (x3 + (1 : Int32)))]) C dX0_whoIsOn_32 rfl rfl (hn 3 (by decide)) rfl ?_
    refine j_goto (tgt := 4) C dX0_whoIsOn_35 (by decide) ?_
    exact hkf4 x1 ((s0 ||| s1)) ((x3 + (1 : Int32)))
  have k4 : ∀ (n : Nat) (x1 : Int32) (x2 : Int32) (x3 : Int32), JF κ (PQ κ (Q_i (kγ κ) E M L) 0 0) 4 [some (.ref (E.2.1 b)), some (.int x1), some (.int x2), some (.int x3)] [] E M L 0 0 (F_X0_whoIsOn_k4 b M L n x1 x2 x3) := by
    intro n
    induction n with
    | zero => intros; exact jf_none
    | succ n ih =>
      intro x1 x2 x3
      unfold F_X0_whoIsOn_k4
      refine j_iload_n C dX0_whoIsOn_4 rfl rfl ?_
      refine j_aload_n C dX0_whoIsOn_5 rfl rfl ?_
      refine j_getI (j := 3) C dX0_whoIsOn_6 FC0 (FAt.S h0) (by decide) rfl tw_137 ?_
      refine j_icmp_ge (tgt := 38) C dX0_whoIsOn_9 (by decide) ?_ ?_
      · refine j_iload_n C dX0_whoIsOn_38 rfl rfl ?_
        exact j_iret C dX0_whoIsOn_39
      · refine j_iload_n C dX0_whoIsOn_12 rfl rfl ?_
        refine j_aload_n C dX0_whoIsOn_13 rfl rfl ?_
        refine j_getR (j := 7) C dX0_whoIsOn_14 FC0 (FAt.S h0) (by decide) rfl (FAt.R_on h0) tw_147 ?_
        refine j_iload_n C dX0_whoIsOn_17 rfl rfl ?_
        refine j_iald C dX0_whoIsOn_18 (FAt.P_on h0) ?_
        refine j_iload_n C dX0_whoIsOn_19 rfl rfl ?_
        refine j_icmp_ne (tgt := 29) C dX0_whoIsOn_20 (by decide) ?_ ?_
        · refine j_iconst (v := (0 : Int32)) C dX0_whoIsOn_29 rfl ?_
          refine j_mask [true, true, false, true] (lv' := [some (.ref (E.2.1 b)), some (.int x1), none, some (.int x3)]) rfl ?_
          exact k30 (F_X0_whoIsOn_k4 b M L n) ih x1 x3 x2 ((0 : Int32))
        · refine j_iconst (v := (1 : Int32)) C dX0_whoIsOn_23 rfl ?_
          refine j_iload_n C dX0_whoIsOn_24 rfl rfl ?_
          refine j_ishl C dX0_whoIsOn_25 ?_
          refine j_goto (tgt := 30) C dX0_whoIsOn_26 (by decide) ?_
          refine j_mask [true, true, false, true] (lv' := [some (.ref (E.2.1 b)), some (.int x1), none, some (.int x3)]) rfl ?_
          exact k30 (F_X0_whoIsOn_k4 b M L n) ih x1 x3 x2 ((ishl (1 : Int32) x3))
  unfold F_X0_whoIsOn
  refine j_iconst (v := (0 : Int32)) C dX0_whoIsOn_0 rfl ?_
  refine j_istore_n (i := 2) (lv' := [some (.ref (E.2.1 b)), some (.int x1), some (.int (0 : Int32)), none]) C dX0_whoIsOn_1 rfl (hn 2 (by decide)) rfl ?_
  refine j_iconst (v := (0 : Int32)) C dX0_whoIsOn_2 rfl ?_
  refine j_istore_n (i := 3) (lv' := [some (.ref (E.2.1 b)), some (.int x1), some (.int (0 : Int32)), some (.int (0 : Int32))]) C dX0_whoIsOn_3 rfl (hn 3 (by decide)) rfl ?_
  exact k4 FU x1 ((0 : Int32)) ((0 : Int32))
set_option maxRecDepth 100000 in
set_option maxHeartbeats 4000000 in
theorem ct_X5_isWithin (γ : Gm) (E : Ev) (M : Mi) (L : Ml)  (x0 : Int32) (x1 : Int32)  : Ct γ yX5_isWithin cX5_isWithin 2 (some .boolean) ⟨0, 0, 0, 0⟩ [.int x0, .int x1] E M L (Q_i γ E M L) 0 0 (F_X5_isWithin x0 x1) := by
  refine ct_of (own := RX5) (lv := [some (.int x0), some (.int x1)]) (by decide +kernel) rfl rfl (Nat.le_of_ble_eq_true rfl) (fun κ C hγ hN => ?_)
  subst hγ
  have hn : ∀ i, i < 2 → i < knL κ := fun i h => by rw [hN]; exact h
  unfold F_X5_isWithin
  refine j_iload_n C dX5_isWithin_0 rfl rfl ?_
  refine j_if_lt (tgt := 13) C dX5_isWithin_1 (by decide) ?_ ?_
  · refine j_iconst (v := (0 : Int32)) C dX5_isWithin_13 rfl ?_
    exact j_zret C dX5_isWithin_14
  · refine j_iload_n C dX5_isWithin_4 rfl rfl ?_
    refine j_iload_n C dX5_isWithin_5 rfl rfl ?_
    refine j_icmp_gt (tgt := 13) C dX5_isWithin_6 (by decide) ?_ ?_
    · refine j_iconst (v := (0 : Int32)) C dX5_isWithin_13 rfl ?_
      exact j_zret C dX5_isWithin_14
    · refine j_iconst (v := (1 : Int32)) C dX5_isWithin_9 rfl ?_
      refine j_goto (tgt := 14) C dX5_isWithin_10 (by decide) ?_
      exact j_zret C dX5_isWithin_14
set_option maxRecDepth 100000 in
set_option maxHeartbeats 4000000 in
theorem ct_X5_isTile (γ : Gm) (E : Ev) (M : Mi) (L : Ml)  (x0 : Int32)  : Ct γ yX5_isTile cX5_isTile 1 (some .boolean) ⟨1, 0, 0, 21⟩ [.int x0] E M L (Q_i γ E M L) 0 0 (F_X5_isTile x0) := by
  refine ct_of (own := RX5) (lv := [some (.int x0)]) (by decide +kernel) rfl rfl (Nat.le_of_ble_eq_true rfl) (fun κ C hγ hN => ?_)
  subst hγ
  have hn : ∀ i, i < 1 → i < knL κ := fun i h => by rw [hN]; exact h
  unfold F_X5_isTile
  refine j_iload_n C dX5_isTile_0 rfl rfl ?_
  refine j_bipush (v := (63 : Int32)) C dX5_isTile_1 (by decide) ?_
  refine j_callS_i (st := []) C dX5_isTile_3 (ct_X5_isWithin (kγ κ) E M L x0 (63 : Int32)) mi_X5_isWithin tw_459 rfl rfl (Nat.le_of_ble_eq_true rfl) ⟨⟨rfl, rfl⟩, ⟨Nat.le_of_ble_eq_true rfl, Nat.le_of_ble_eq_true rfl⟩, ⟨Nat.zero_le _, Nat.zero_le _⟩⟩ (fun v3 => ?_)
  exact j_zret C dX5_isTile_6
set_option maxRecDepth 100000 in
set_option maxHeartbeats 4000000 in
theorem ct_X0_isRed (γ : Gm) (E : Ev) (M : Mi) (L : Ml) (b : Nat) (x1 : Int32) (h0 : FAt E b) : Ct γ yX0_isRed cX0_isRed 2 (some .boolean) ⟨1, 0, 0, 22⟩ [.ref (E.2.1 b), .int x1] E M L (Q_i γ E M L) 0 0 (F_X0_isRed b M L x1) := by
  refine ct_of (own := RX0) (lv := [some (.ref (E.2.1 b)), some (.int x1)]) (by decide +kernel) rfl rfl (Nat.le_of_ble_eq_true rfl) (fun κ C hγ hN => ?_)
  subst hγ
  have hn : ∀ i, i < 2 → i < knL κ := fun i h => by rw [hN]; exact h
  unfold F_X0_isRed
  refine j_aload_n C dX0_isRed_0 rfl rfl ?_
  refine j_getL (j := 0) C dX0_isRed_1 FC0 (FAt.S h0) (by decide) rfl tw_130 ?_
  refine j_iload_n C dX0_isRed_4 rfl rfl ?_
  refine j_callN_i (st := []) C dX0_isRed_5 (ct_X5_isIn (kγ κ) E M L (L b 0) x1) mi_X5_isIn (fun q => q.1) rfl rfl (Nat.le_of_ble_eq_true rfl) ⟨⟨rfl, rfl⟩, ⟨Nat.le_of_ble_eq_true rfl, Nat.le_of_ble_eq_true rfl⟩, ⟨Nat.zero_le _, Nat.zero_le _⟩⟩ (fun v5 => ?_)
  exact j_zret C dX0_isRed_8
set_option maxRecDepth 100000 in
set_option maxHeartbeats 4000000 in
theorem ct_X0_isFoundBy (γ : Gm) (E : Ev) (M : Mi) (L : Ml) (b : Nat) (x1 : Int32) (h0 : FAt E b) : Ct γ yX0_isFoundBy cX0_isFoundBy 2 (some .int) ⟨2, 0, 0, 43⟩ [.ref (E.2.1 b), .int x1] E M L (Q_i γ E M L) 0 0 (F_X0_isFoundBy b M L x1) := by
  refine ct_of (own := RX0) (lv := [some (.ref (E.2.1 b)), some (.int x1)]) (by decide +kernel) rfl rfl (Nat.le_of_ble_eq_true rfl) (fun κ C hγ hN => ?_)
  subst hγ
  have hn : ∀ i, i < 2 → i < knL κ := fun i h => by rw [hN]; exact h
  unfold F_X0_isFoundBy
  refine j_aload_n C dX0_isFoundBy_0 rfl rfl ?_
  refine j_iload_n C dX0_isFoundBy_1 rfl rfl ?_
  refine j_callV_i (st := []) C dX0_isFoundBy_2 (ct_X0_isRed (kγ κ) E M L b x1 h0) mi_X0_isRed tw_560 FC0 (FAt.S h0) rfl rfl (Nat.le_of_ble_eq_true rfl) ⟨⟨rfl, rfl⟩, ⟨Nat.le_of_ble_eq_true rfl, Nat.le_of_ble_eq_true rfl⟩, ⟨Nat.zero_le _, Nat.zero_le _⟩⟩ (fun v2 => ?_)
  refine j_if_eq (tgt := 10) C dX0_isFoundBy_5 (by decide) ?_ ?_
  · refine j_iload_n C dX0_isFoundBy_10 rfl rfl ?_
    refine j_bipush (v := (8 : Int32)) C dX0_isFoundBy_11 (by decide) ?_
    refine j_iremc C dX0_isFoundBy_13 (by decide) ?_
    refine j_iload_n C dX0_isFoundBy_14 rfl rfl ?_
    refine j_bipush (v := (8 : Int32)) C dX0_isFoundBy_15 (by decide) ?_
    refine j_idivc C dX0_isFoundBy_17 (by decide) ?_
    refine j_iadd C dX0_isFoundBy_18 ?_
    refine j_pc (pc2 := 19) rfl ?_
    refine j_iconst (v := (2 : Int32)) C dX0_isFoundBy_19 rfl ?_
    refine j_iremc C dX0_isFoundBy_20 (by decide) ?_
    refine j_iconst (v := (1 : Int32)) C dX0_isFoundBy_21 rfl ?_
    refine j_icmp_ne (tgt := 29) C dX0_isFoundBy_22 (by decide) ?_ ?_
    · refine j_iconst (v := (0 : Int32)) C dX0_isFoundBy_29 rfl ?_
      exact j_iret C dX0_isFoundBy_30
    · refine j_iconst (v := (1 : Int32)) C dX0_isFoundBy_25 rfl ?_
      refine j_goto (tgt := 30) C dX0_isFoundBy_26 (by decide) ?_
      exact j_iret C dX0_isFoundBy_30
  · refine j_iconst (v := (2 : Int32)) C dX0_isFoundBy_8 rfl ?_
    exact j_iret C dX0_isFoundBy_9
set_option maxRecDepth 100000 in
set_option maxHeartbeats 4000000 in
theorem ct_X0_foundOf (γ : Gm) (E : Ev) (M : Mi) (L : Ml) (b : Nat) (x1 : Int32) (h0 : FAt E b) : Ct γ yX0_foundOf cX0_foundOf 3 (some .int) ⟨3, 0, 0, 64⟩ [.ref (E.2.1 b), .int x1] E M L (Q_i γ E M L) 0 0 (F_X0_foundOf b M L x1) := by
  refine ct_of (own := RX0) (lv := [some (.ref (E.2.1 b)), some (.int x1), none]) (by decide +kernel) rfl rfl (Nat.le_of_ble_eq_true rfl) (fun κ C hγ hN => ?_)
  subst hγ
  have hn : ∀ i, i < 3 → i < knL κ := fun i h => by rw [hN]; exact h
  unfold F_X0_foundOf
  refine j_aload_n C dX0_foundOf_0 rfl rfl ?_
  refine j_aload_n C dX0_foundOf_1 rfl rfl ?_
  refine j_getR (j := 7) C dX0_foundOf_2 FC0 (FAt.S h0) (by decide) rfl (FAt.R_on h0) tw_147 ?_
  refine j_iload_n C dX0_foundOf_5 rfl rfl ?_
  refine j_iald C dX0_foundOf_6 (FAt.P_on h0) ?_
  refine j_callV_i (st := []) C dX0_foundOf_7 (ct_X0_isFoundBy (kγ κ) E M L b (M (b + 3) (Int32.toNatClampNeg x1)) h0) mi_X0_isFoundBy tw_556 FC0 (FAt.S h0) rfl rfl (Nat.le_of_ble_eq_true rfl) ⟨⟨rfl, rfl⟩, ⟨Nat.le_of_ble_eq_true rfl, Nat.le_of_ble_eq_true rfl⟩, ⟨Nat.zero_le _, Nat.zero_le _⟩⟩ (fun v7 => ?_)
  refine j_istore_n (i := 2) (lv' := [some (.ref (E.2.1 b)), some (.int x1), some (.int v7)]) C dX0_foundOf_10 rfl (hn 2 (by decide)) rfl ?_
  refine j_pc (pc2 := 11) rfl ?_
  refine j_aload_n C dX0_foundOf_11 rfl rfl ?_
  refine j_getR (j := 5) C dX0_foundOf_12 FC0 (FAt.S h0) (by decide) rfl (FAt.R_kind h0) tw_143 ?_
  refine j_iload_n C dX0_foundOf_15 rfl rfl ?_
  refine j_iald C dX0_foundOf_16 (FAt.P_kind h0) ?_
  refine j_ite (fun h17_0 => ?_) (fun h17_0 => ?_)
  · refine j_tswHit (c := (1 : Int32)) (off := 35) (tgt := 52) C dX0_foundOf_17 h17_0 (by decide) (by decide) (by decide) (by decide) ?_
    refine j_aload_n C dX0_foundOf_52 rfl rfl ?_
    refine j_getR (j := 8) C dX0_foundOf_53 FC0 (FAt.S h0) (by decide) rfl (FAt.R_weary h0) tw_150 ?_
    refine j_iload_n C dX0_foundOf_56 rfl rfl ?_
    refine j_iald C dX0_foundOf_57 (FAt.P_weary h0) ?_
    refine j_iconst (v := (5 : Int32)) C dX0_foundOf_58 rfl ?_
    refine j_icmp_ge (tgt := 71) C dX0_foundOf_59 (by decide) ?_ ?_
    · refine j_iload_n C dX0_foundOf_71 rfl rfl ?_
      exact j_iret C dX0_foundOf_72
    · refine j_iload_n C dX0_foundOf_62 rfl rfl ?_
      refine j_iconst (v := (2 : Int32)) C dX0_foundOf_63 rfl ?_
      refine j_icmp_eq (tgt := 71) C dX0_foundOf_64 (by decide) ?_ ?_
      · refine j_iload_n C dX0_foundOf_71 rfl rfl ?_
        exact j_iret C dX0_foundOf_72
      · refine j_iconst (v := (1 : Int32)) C dX0_foundOf_67 rfl ?_
        refine j_goto (tgt := 72) C dX0_foundOf_68 (by decide) ?_
        exact j_iret C dX0_foundOf_72
  · skip
    refine j_ite (fun h17_1 => ?_) (fun h17_1 => ?_)
    · refine j_tswHit (c := (2 : Int32)) (off := 84) (tgt := 101) C dX0_foundOf_17 h17_1 (by decide) (by decide) (by decide) (by decide) ?_
      refine j_iload_n C dX0_foundOf_101 rfl rfl ?_
      exact j_iret C dX0_foundOf_102
    · skip
      refine j_ite (fun h17_2 => ?_) (fun h17_2 => ?_)
      · refine j_tswHit (c := (3 : Int32)) (off := 35) (tgt := 52) C dX0_foundOf_17 h17_2 (by decide) (by decide) (by decide) (by decide) ?_
        refine j_aload_n C dX0_foundOf_52 rfl rfl ?_
        refine j_getR (j := 8) C dX0_foundOf_53 FC0 (FAt.S h0) (by decide) rfl (FAt.R_weary h0) tw_150 ?_
        refine j_iload_n C dX0_foundOf_56 rfl rfl ?_
        refine j_iald C dX0_foundOf_57 (FAt.P_weary h0) ?_
        refine j_iconst (v := (5 : Int32)) C dX0_foundOf_58 rfl ?_
        refine j_icmp_ge (tgt := 71) C dX0_foundOf_59 (by decide) ?_ ?_
        · refine j_iload_n C dX0_foundOf_71 rfl rfl ?_
          exact j_iret C dX0_foundOf_72
        · refine j_iload_n C dX0_foundOf_62 rfl rfl ?_
          refine j_iconst (v := (2 : Int32)) C dX0_foundOf_63 rfl ?_
          refine j_icmp_eq (tgt := 71) C dX0_foundOf_64 (by decide) ?_ ?_
          · refine j_iload_n C dX0_foundOf_71 rfl rfl ?_
            exact j_iret C dX0_foundOf_72
          · refine j_iconst (v := (1 : Int32)) C dX0_foundOf_67 rfl ?_
            refine j_goto (tgt := 72) C dX0_foundOf_68 (by decide) ?_
            exact j_iret C dX0_foundOf_72
      · skip
        refine j_ite (fun h17_3 => ?_) (fun h17_3 => ?_)
        · refine j_tswHit (c := (4 : Int32)) (off := 56) (tgt := 73) C dX0_foundOf_17 h17_3 (by decide) (by decide) (by decide) (by decide) ?_
          refine j_iload_n C dX0_foundOf_73 rfl rfl ?_
          refine j_iconst (v := (2 : Int32)) C dX0_foundOf_74 rfl ?_
          refine j_icmp_ne (tgt := 82) C dX0_foundOf_75 (by decide) ?_ ?_
          · refine j_iconst (v := (0 : Int32)) C dX0_foundOf_82 rfl ?_
            exact j_iret C dX0_foundOf_83
          · refine j_iconst (v := (2 : Int32)) C dX0_foundOf_78 rfl ?_
            refine j_goto (tgt := 83) C dX0_foundOf_79 (by decide) ?_
            exact j_iret C dX0_foundOf_83
        · skip
          refine j_ite (fun h17_4 => ?_) (fun h17_4 => ?_)
          · refine j_tswHit (c := (5 : Int32)) (off := 67) (tgt := 84) C dX0_foundOf_17 h17_4 (by decide) (by decide) (by decide) (by decide) ?_
            refine j_aload_n C dX0_foundOf_84 rfl rfl ?_
            refine j_getR (j := 8) C dX0_foundOf_85 FC0 (FAt.S h0) (by decide) rfl (FAt.R_weary h0) tw_150 ?_
            refine j_iload_n C dX0_foundOf_88 rfl rfl ?_
            refine j_iald C dX0_foundOf_89 (FAt.P_weary h0) ?_
            refine j_bipush (v := (50 : Int32)) C dX0_foundOf_90 (by decide) ?_
            refine j_icmp_lt (tgt := 99) C dX0_foundOf_92 (by decide) ?_ ?_
            · refine j_iload_n C dX0_foundOf_99 rfl rfl ?_
              exact j_iret C dX0_foundOf_100
            · refine j_iconst (v := (2 : Int32)) C dX0_foundOf_95 rfl ?_
              refine j_goto (tgt := 100) C dX0_foundOf_96 (by decide) ?_
              exact j_iret C dX0_foundOf_100
          · skip
            refine j_tswDef (tgt := 101) C dX0_foundOf_17 (by have q0 := i_neq (1) (by decide) h17_0; have q1 := i_neq (2) (by decide) h17_1; have q2 := i_neq (3) (by decide) h17_2; have q3 := i_neq (4) (by decide) h17_3; have q4 := i_neq (5) (by decide) h17_4; omega) (by decide) ?_
            refine j_iload_n C dX0_foundOf_101 rfl rfl ?_
            exact j_iret C dX0_foundOf_102
set_option maxRecDepth 100000 in
set_option maxHeartbeats 4000000 in
theorem ct_X0_rests (γ : Gm) (E : Ev) (M : Mi) (L : Ml) (b : Nat) (x1 : Int32) (x2 : Int32) (h0 : FAt E b) : Ct γ yX0_rests cX0_rests 3 (some .int) ⟨0, 0, 0, 0⟩ [.ref (E.2.1 b), .int x1, .int x2] E M L (Q_i γ E M L) 0 0 (F_X0_rests b M L x1 x2) := by
  refine ct_of (own := RX0) (lv := [some (.ref (E.2.1 b)), some (.int x1), some (.int x2)]) (by decide +kernel) rfl rfl (Nat.le_of_ble_eq_true rfl) (fun κ C hγ hN => ?_)
  subst hγ
  have hn : ∀ i, i < 3 → i < knL κ := fun i h => by rw [hN]; exact h
  unfold F_X0_rests
  refine j_aload_n C dX0_rests_0 rfl rfl ?_
  refine j_getR (j := 5) C dX0_rests_1 FC0 (FAt.S h0) (by decide) rfl (FAt.R_kind h0) tw_143 ?_
  refine j_iload_n C dX0_rests_4 rfl rfl ?_
  refine j_iald C dX0_rests_5 (FAt.P_kind h0) ?_
  refine j_ite (fun h6_0 => ?_) (fun h6_0 => ?_)
  · refine j_tswHit (c := (2 : Int32)) (off := 30) (tgt := 36) C dX0_rests_6 h6_0 (by decide) (by decide) (by decide) (by decide) ?_
    refine j_iconst (v := (0 : Int32)) C dX0_rests_36 rfl ?_
    exact j_iret C dX0_rests_37
  · skip
    refine j_ite (fun h6_1 => ?_) (fun h6_1 => ?_)
    · refine j_tswHit (c := (3 : Int32)) (off := 32) (tgt := 38) C dX0_rests_6 h6_1 (by decide) (by decide) (by decide) (by decide) ?_
      refine j_iload_n C dX0_rests_38 rfl rfl ?_
      refine j_iconst (v := (2 : Int32)) C dX0_rests_39 rfl ?_
      refine j_idivc C dX0_rests_40 (by decide) ?_
      exact j_iret C dX0_rests_41
    · skip
      refine j_ite (fun h6_2 => ?_) (fun h6_2 => ?_)
      · refine j_tswHit (c := (4 : Int32)) (off := 36) (tgt := 42) C dX0_rests_6 h6_2 (by decide) (by decide) (by decide) (by decide) ?_
        refine j_aload_n C dX0_rests_42 rfl rfl ?_
        refine j_getR (j := 6) C dX0_rests_43 FC0 (FAt.S h0) (by decide) rfl (FAt.R_number h0) tw_145 ?_
        refine j_iload_n C dX0_rests_46 rfl rfl ?_
        refine j_iald C dX0_rests_47 (FAt.P_number h0) ?_
        exact j_iret C dX0_rests_48
      · skip
        refine j_ite (fun h6_3 => ?_) (fun h6_3 => ?_)
        · refine j_tswHit (c := (5 : Int32)) (off := 43) (tgt := 49) C dX0_rests_6 h6_3 (by decide) (by decide) (by decide) (by decide) ?_
          refine j_iconst (v := (2 : Int32)) C dX0_rests_49 rfl ?_
          refine j_iload_n C dX0_rests_50 rfl rfl ?_
          refine j_imul C dX0_rests_51 ?_
          exact j_iret C dX0_rests_52
        · skip
          refine j_tswDef (tgt := 53) C dX0_rests_6 (by have q0 := i_neq (2) (by decide) h6_0; have q1 := i_neq (3) (by decide) h6_1; have q2 := i_neq (4) (by decide) h6_2; have q3 := i_neq (5) (by decide) h6_3; omega) (by decide) ?_
          refine j_iload_n C dX0_rests_53 rfl rfl ?_
          exact j_iret C dX0_rests_54
set_option maxRecDepth 100000 in
set_option maxHeartbeats 4000000 in
theorem ct_J13_bitCount_95d88 (γ : Gm) (E : Ev) (M : Mi) (L : Ml)  (x0 : Int64)  : Ct γ yJ13_bitCount_95d88 cJ13_bitCount_95d88 2 (some .int) ⟨0, 0, 0, 0⟩ [.long x0] E M L (Q_i γ E M L) 0 0 (F_J13_bitCount_95d88 x0) := by
  refine ct_of (own := RJ13) (lv := [some (.long x0), none]) (by decide +kernel) rfl rfl (Nat.le_of_ble_eq_true rfl) (fun κ C hγ hN => ?_)
  subst hγ
  have hn : ∀ i, i < 2 → i < knL κ := fun i h => by rw [hN]; exact h
  unfold F_J13_bitCount_95d88
  refine j_lload_n C dJ13_bitCount_95d88_0 rfl rfl ?_
  refine j_lload_n C dJ13_bitCount_95d88_1 rfl rfl ?_
  refine j_iconst (v := (1 : Int32)) C dJ13_bitCount_95d88_2 rfl ?_
  refine j_lushr C dJ13_bitCount_95d88_3 ?_
  refine j_ldc2 (v := (6148914691236517205 : Int64)) C dJ13_bitCount_95d88_4 tw_520 ?_
  refine j_land C dJ13_bitCount_95d88_7 ?_
  refine j_lsub C dJ13_bitCount_95d88_8 ?_
  refine j_pc (pc2 := 9) rfl ?_
  refine j_nml (fun z9 => ?_)
  refine j_lstore_n (i := 0) (lv' := [some (.long z9), none]) C dJ13_bitCount_95d88_9 rfl (hn 1 (by decide)) rfl ?_
  refine j_lload_n C dJ13_bitCount_95d88_10 rfl rfl ?_
  refine j_ldc2 (v := (3689348814741910323 : Int64)) C dJ13_bitCount_95d88_11 tw_521 ?_
  refine j_land C dJ13_bitCount_95d88_14 ?_
  refine j_lload_n C dJ13_bitCount_95d88_15 rfl rfl ?_
  refine j_iconst (v := (2 : Int32)) C dJ13_bitCount_95d88_16 rfl ?_
  refine j_lushr C dJ13_bitCount_95d88_17 ?_
  refine j_ldc2 (v := (3689348814741910323 : Int64)) C dJ13_bitCount_95d88_18 tw_521 ?_
  refine j_pc (pc2 := 21) rfl ?_
  refine j_land C dJ13_bitCount_95d88_21 ?_
  refine j_ladd C dJ13_bitCount_95d88_22 ?_
  refine j_nml (fun z23 => ?_)
  refine j_lstore_n (i := 0) (lv' := [some (.long z23), none]) C dJ13_bitCount_95d88_23 rfl (hn 1 (by decide)) rfl ?_
  refine j_lload_n C dJ13_bitCount_95d88_24 rfl rfl ?_
  refine j_lload_n C dJ13_bitCount_95d88_25 rfl rfl ?_
  refine j_iconst (v := (4 : Int32)) C dJ13_bitCount_95d88_26 rfl ?_
  refine j_lushr C dJ13_bitCount_95d88_27 ?_
  refine j_ladd C dJ13_bitCount_95d88_28 ?_
  refine j_pc (pc2 := 29) rfl ?_
  refine j_ldc2 (v := (1085102592571150095 : Int64)) C dJ13_bitCount_95d88_29 tw_522 ?_
  refine j_land C dJ13_bitCount_95d88_32 ?_
  refine j_nml (fun z33 => ?_)
  refine j_lstore_n (i := 0) (lv' := [some (.long z33), none]) C dJ13_bitCount_95d88_33 rfl (hn 1 (by decide)) rfl ?_
  refine j_lload_n C dJ13_bitCount_95d88_34 rfl rfl ?_
  refine j_lload_n C dJ13_bitCount_95d88_35 rfl rfl ?_
  refine j_bipush (v := (8 : Int32)) C dJ13_bitCount_95d88_36 (by decide) ?_
  refine j_lushr C dJ13_bitCount_95d88_38 ?_
  refine j_ladd C dJ13_bitCount_95d88_39 ?_
  refine j_pc (pc2 := 40) rfl ?_
  refine j_lstore_n (i := 0) (lv' := [some (.long (z33 + (lushr z33 (8 : Int32)))), none]) C dJ13_bitCount_95d88_40 rfl (hn 1 (by decide)) rfl ?_
  refine j_lload_n C dJ13_bitCount_95d88_41 rfl rfl ?_
  refine j_lload_n C dJ13_bitCount_95d88_42 rfl rfl ?_
  refine j_bipush (v := (16 : Int32)) C dJ13_bitCount_95d88_43 (by decide) ?_
  refine j_lushr C dJ13_bitCount_95d88_45 ?_
  refine j_ladd C dJ13_bitCount_95d88_46 ?_
  refine j_nml (fun z47 => ?_)
  refine j_lstore_n (i := 0) (lv' := [some (.long z47), none]) C dJ13_bitCount_95d88_47 rfl (hn 1 (by decide)) rfl ?_
  refine j_lload_n C dJ13_bitCount_95d88_48 rfl rfl ?_
  refine j_pc (pc2 := 49) rfl ?_
  refine j_lload_n C dJ13_bitCount_95d88_49 rfl rfl ?_
  refine j_bipush (v := (32 : Int32)) C dJ13_bitCount_95d88_50 (by decide) ?_
  refine j_lushr C dJ13_bitCount_95d88_52 ?_
  refine j_ladd C dJ13_bitCount_95d88_53 ?_
  refine j_lstore_n (i := 0) (lv' := [some (.long (z47 + (lushr z47 (32 : Int32)))), none]) C dJ13_bitCount_95d88_54 rfl (hn 1 (by decide)) rfl ?_
  refine j_lload_n C dJ13_bitCount_95d88_55 rfl rfl ?_
  refine j_l2i C dJ13_bitCount_95d88_56 ?_
  refine j_bipush (v := (127 : Int32)) C dJ13_bitCount_95d88_57 (by decide) ?_
  refine j_pc (pc2 := 59) rfl ?_
  refine j_iand C dJ13_bitCount_95d88_59 ?_
  exact j_iret C dJ13_bitCount_95d88_60
set_option maxRecDepth 100000 in
set_option maxHeartbeats 4000000 in
theorem ct_X0_named (γ : Gm) (E : Ev) (M : Mi) (L : Ml) (b : Nat) (x1 : Int32) (x2 : Int32) (h0 : FAt E b) : Ct γ yX0_named cX0_named 3 (some .int) ⟨1, 0, 0, 21⟩ [.ref (E.2.1 b), .int x1, .int x2] E M L (Q_i γ E M L) 0 0 (F_X0_named b M L x1 x2) := by
  refine ct_of (own := RX0) (lv := [some (.ref (E.2.1 b)), some (.int x1), some (.int x2)]) (by decide +kernel) rfl rfl (Nat.le_of_ble_eq_true rfl) (fun κ C hγ hN => ?_)
  subst hγ
  have hn : ∀ i, i < 3 → i < knL κ := fun i h => by rw [hN]; exact h
  unfold F_X0_named
  refine j_iload_n C dX0_named_0 rfl rfl ?_
  refine j_ite (fun h1_0 => ?_) (fun h1_0 => ?_)
  · refine j_tswHit (c := (-5 : Int32)) (off := 69) (tgt := 70) C dX0_named_1 h1_0 (by decide) (by decide) (by decide) (by decide) ?_
    refine j_aload_n C dX0_named_70 rfl rfl ?_
    refine j_getI (j := 2) C dX0_named_71 FC0 (FAt.S h0) (by decide) rfl tw_134 ?_
    exact j_iret C dX0_named_74
  · skip
    refine j_ite (fun h1_1 => ?_) (fun h1_1 => ?_)
    · refine j_tswHit (c := (-4 : Int32)) (off := 62) (tgt := 63) C dX0_named_1 h1_1 (by decide) (by decide) (by decide) (by decide) ?_
      refine j_aload_n C dX0_named_63 rfl rfl ?_
      refine j_getR (j := 6) C dX0_named_64 FC0 (FAt.S h0) (by decide) rfl (FAt.R_number h0) tw_145 ?_
      refine j_iload_n C dX0_named_67 rfl rfl ?_
      refine j_iald C dX0_named_68 (FAt.P_number h0) ?_
      exact j_iret C dX0_named_69
    · skip
      refine j_ite (fun h1_2 => ?_) (fun h1_2 => ?_)
      · refine j_tswHit (c := (-3 : Int32)) (off := 52) (tgt := 53) C dX0_named_1 h1_2 (by decide) (by decide) (by decide) (by decide) ?_
        refine j_aload_n C dX0_named_53 rfl rfl ?_
        refine j_getR (j := 7) C dX0_named_54 FC0 (FAt.S h0) (by decide) rfl (FAt.R_on h0) tw_147 ?_
        refine j_iload_n C dX0_named_57 rfl rfl ?_
        refine j_iald C dX0_named_58 (FAt.P_on h0) ?_
        refine j_bipush (v := (8 : Int32)) C dX0_named_59 (by decide) ?_
        refine j_idivc C dX0_named_61 (by decide) ?_
        exact j_iret C dX0_named_62
      · skip
        refine j_ite (fun h1_3 => ?_) (fun h1_3 => ?_)
        · refine j_tswHit (c := (-2 : Int32)) (off := 42) (tgt := 43) C dX0_named_1 h1_3 (by decide) (by decide) (by decide) (by decide) ?_
          refine j_aload_n C dX0_named_43 rfl rfl ?_
          refine j_getR (j := 7) C dX0_named_44 FC0 (FAt.S h0) (by decide) rfl (FAt.R_on h0) tw_147 ?_
          refine j_iload_n C dX0_named_47 rfl rfl ?_
          refine j_iald C dX0_named_48 (FAt.P_on h0) ?_
          refine j_bipush (v := (8 : Int32)) C dX0_named_49 (by decide) ?_
          refine j_iremc C dX0_named_51 (by decide) ?_
          exact j_iret C dX0_named_52
        · skip
          refine j_ite (fun h1_4 => ?_) (fun h1_4 => ?_)
          · refine j_tswHit (c := (-1 : Int32)) (off := 35) (tgt := 36) C dX0_named_1 h1_4 (by decide) (by decide) (by decide) (by decide) ?_
            refine j_aload_n C dX0_named_36 rfl rfl ?_
            refine j_getR (j := 8) C dX0_named_37 FC0 (FAt.S h0) (by decide) rfl (FAt.R_weary h0) tw_150 ?_
            refine j_iload_n C dX0_named_40 rfl rfl ?_
            refine j_iald C dX0_named_41 (FAt.P_weary h0) ?_
            exact j_iret C dX0_named_42
          · skip
            refine j_tswDef (tgt := 75) C dX0_named_1 (by have q0 := i_neq (-5) (by decide) h1_0; have q1 := i_neq (-4) (by decide) h1_1; have q2 := i_neq (-3) (by decide) h1_2; have q3 := i_neq (-2) (by decide) h1_3; have q4 := i_neq (-1) (by decide) h1_4; omega) (by decide) ?_
            refine j_aload_n C dX0_named_75 rfl rfl ?_
            refine j_getL (j := 1) C dX0_named_76 FC0 (FAt.S h0) (by decide) rfl tw_132 ?_
            refine j_callS_i (st := []) C dX0_named_79 (ct_J13_bitCount_95d88 (kγ κ) E M L (L b 1)) mi_J13_bitCount_95d88 tw_517 rfl rfl (Nat.le_of_ble_eq_true rfl) ⟨⟨rfl, rfl⟩, ⟨Nat.le_of_ble_eq_true rfl, Nat.le_of_ble_eq_true rfl⟩, ⟨Nat.zero_le _, Nat.zero_le _⟩⟩ (fun v79 => ?_)
            exact j_iret C dX0_named_82
set_option maxRecDepth 100000 in
set_option maxHeartbeats 4000000 in
theorem ct_X5_bounded (γ : Gm) (E : Ev) (M : Mi) (L : Ml)  (x0 : Int32) (x1 : Int32) (x2 : Int32)  : Ct γ yX5_bounded cX5_bounded 3 (some .int) ⟨1, 0, 0, 40⟩ [.int x0, .int x1, .int x2] E M L (Q_i γ E M L) 0 0 (F_X5_bounded x0 x1 x2) := by
  refine ct_of (own := RX5) (lv := [some (.int x0), some (.int x1), some (.int x2)]) (by decide +kernel) rfl rfl (Nat.le_of_ble_eq_true rfl) (fun κ C hγ hN => ?_)
  subst hγ
  have hn : ∀ i, i < 3 → i < knL κ := fun i h => by rw [hN]; exact h
  unfold F_X5_bounded
  refine j_iload_n C dX5_bounded_0 rfl rfl ?_
  refine j_iload_n C dX5_bounded_1 rfl rfl ?_
  refine j_iload_n C dX5_bounded_2 rfl rfl ?_
  refine j_min C dX5_bounded_3 tw_529 tw_397 tw_112 tw_398 (Nat.le_of_ble_eq_true rfl) (Nat.le_of_ble_eq_true rfl) ⟨Nat.zero_le _, Nat.zero_le _⟩ ?_
  refine j_max C dX5_bounded_6 tw_530 tw_531 tw_112 tw_532 (Nat.le_of_ble_eq_true rfl) (Nat.le_of_ble_eq_true rfl) ⟨Nat.zero_le _, Nat.zero_le _⟩ ?_
  exact j_iret C dX5_bounded_9
set_option maxRecDepth 100000 in
set_option maxHeartbeats 4000000 in
theorem ct_X0_tires (γ : Gm) (E : Ev) (M : Mi) (L : Ml) (b : Nat) (x1 : Int32) (x2 : Int32) (h0 : FAt E b) : Ct γ yX0_tires cX0_tires 3 (some .int) ⟨0, 0, 0, 0⟩ [.ref (E.2.1 b), .int x1, .int x2] E M L (Q_i γ E M L) 0 0 (F_X0_tires b M L x1 x2) := by
  refine ct_of (own := RX0) (lv := [some (.ref (E.2.1 b)), some (.int x1), some (.int x2)]) (by decide +kernel) rfl rfl (Nat.le_of_ble_eq_true rfl) (fun κ C hγ hN => ?_)
  subst hγ
  have hn : ∀ i, i < 3 → i < knL κ := fun i h => by rw [hN]; exact h
  unfold F_X0_tires
  refine j_aload_n C dX0_tires_0 rfl rfl ?_
  refine j_getR (j := 5) C dX0_tires_1 FC0 (FAt.S h0) (by decide) rfl (FAt.R_kind h0) tw_143 ?_
  refine j_iload_n C dX0_tires_4 rfl rfl ?_
  refine j_iald C dX0_tires_5 (FAt.P_kind h0) ?_
  refine j_ite (fun h6_0 => ?_) (fun h6_0 => ?_)
  · refine j_tswHit (c := (1 : Int32)) (off := 34) (tgt := 40) C dX0_tires_6 h6_0 (by decide) (by decide) (by decide) (by decide) ?_
    refine j_iload_n C dX0_tires_40 rfl rfl ?_
    refine j_iconst (v := (2 : Int32)) C dX0_tires_41 rfl ?_
    refine j_idivc C dX0_tires_42 (by decide) ?_
    exact j_iret C dX0_tires_43
  · skip
    refine j_ite (fun h6_1 => ?_) (fun h6_1 => ?_)
    · refine j_tswHit (c := (2 : Int32)) (off := 38) (tgt := 44) C dX0_tires_6 h6_1 (by decide) (by decide) (by decide) (by decide) ?_
      refine j_iload_n C dX0_tires_44 rfl rfl ?_
      refine j_iconst (v := (1 : Int32)) C dX0_tires_45 rfl ?_
      refine j_iadd C dX0_tires_46 ?_
      exact j_iret C dX0_tires_47
    · skip
      refine j_ite (fun h6_2 => ?_) (fun h6_2 => ?_)
      · refine j_tswHit (c := (3 : Int32)) (off := 42) (tgt := 48) C dX0_tires_6 h6_2 (by decide) (by decide) (by decide) (by decide) ?_
        refine j_iload_n C dX0_tires_48 rfl rfl ?_
        refine j_iconst (v := (2 : Int32)) C dX0_tires_49 rfl ?_
        refine j_idivc C dX0_tires_50 (by decide) ?_
        refine j_aload_n C dX0_tires_51 rfl rfl ?_
        refine j_getR (j := 6) C dX0_tires_52 FC0 (FAt.S h0) (by decide) rfl (FAt.R_number h0) tw_145 ?_
        refine j_iload_n C dX0_tires_55 rfl rfl ?_
        refine j_iald C dX0_tires_56 (FAt.P_number h0) ?_
        refine j_pc (pc2 := 57) rfl ?_
        refine j_iadd C dX0_tires_57 ?_
        exact j_iret C dX0_tires_58
      · skip
        refine j_ite (fun h6_3 => ?_) (fun h6_3 => ?_)
        · refine j_tswHit (c := (4 : Int32)) (off := 53) (tgt := 59) C dX0_tires_6 h6_3 (by decide) (by decide) (by decide) (by decide) ?_
          refine j_iconst (v := (2 : Int32)) C dX0_tires_59 rfl ?_
          refine j_iload_n C dX0_tires_60 rfl rfl ?_
          refine j_iconst (v := (1 : Int32)) C dX0_tires_61 rfl ?_
          refine j_iadd C dX0_tires_62 ?_
          refine j_imul C dX0_tires_63 ?_
          exact j_iret C dX0_tires_64
        · skip
          refine j_ite (fun h6_4 => ?_) (fun h6_4 => ?_)
          · refine j_tswHit (c := (5 : Int32)) (off := 59) (tgt := 65) C dX0_tires_6 h6_4 (by decide) (by decide) (by decide) (by decide) ?_
            refine j_iload_n C dX0_tires_65 rfl rfl ?_
            refine j_bipush (v := (10 : Int32)) C dX0_tires_66 (by decide) ?_
            refine j_iadd C dX0_tires_68 ?_
            exact j_iret C dX0_tires_69
          · skip
            refine j_tswDef (tgt := 70) C dX0_tires_6 (by have q0 := i_neq (1) (by decide) h6_0; have q1 := i_neq (2) (by decide) h6_1; have q2 := i_neq (3) (by decide) h6_2; have q3 := i_neq (4) (by decide) h6_3; have q4 := i_neq (5) (by decide) h6_4; omega) (by decide) ?_
            refine j_iload_n C dX0_tires_70 rfl rfl ?_
            exact j_iret C dX0_tires_71
set_option maxRecDepth 100000 in
set_option maxHeartbeats 4000000 in
theorem ct_J9_floorMod_7cf53 (γ : Gm) (E : Ev) (M : Mi) (L : Ml)  (x0 : Int32) (x1 : Int32)  : Ct γ yJ9_floorMod_7cf53 cJ9_floorMod_7cf53 3 (some .int) ⟨0, 0, 0, 0⟩ [.int x0, .int x1] E M L (Q_i γ E M L) 0 0 (F_J9_floorMod_7cf53 x0 x1) := by
  refine ct_ofF (own := RJ9) (lv := [some (.int x0), some (.int x1), none]) (by decide +kernel) rfl rfl (Nat.le_of_ble_eq_true rfl) (fun κ C hγ hN => ?_)
  subst hγ
  have hn : ∀ i, i < 3 → i < knL κ := fun i h => by rw [hN]; exact h
  unfold F_J9_floorMod_7cf53
  refine j_iload_n C dJ9_floorMod_7cf53_0 rfl rfl ?_
  refine j_iload_n C dJ9_floorMod_7cf53_1 rfl rfl ?_
  refine j_irem C dJ9_floorMod_7cf53_2 ?_
  refine j_istore_n (i := 2) (lv' := [some (.int x0), some (.int x1), some (.int (irm x0 x1))]) C dJ9_floorMod_7cf53_3 rfl (hn 2 (by decide)) rfl ?_
  refine j_iload_n C dJ9_floorMod_7cf53_4 rfl rfl ?_
  refine j_iload_n C dJ9_floorMod_7cf53_5 rfl rfl ?_
  refine j_ixor C dJ9_floorMod_7cf53_6 ?_
  refine j_pc (pc2 := 7) rfl ?_
  refine j_if_ge (tgt := 18) C dJ9_floorMod_7cf53_7 (by decide) ?_ ?_
  · refine j_iload_n C dJ9_floorMod_7cf53_18 rfl rfl ?_
    exact j_iret C dJ9_floorMod_7cf53_19
  · refine j_iload_n C dJ9_floorMod_7cf53_10 rfl rfl ?_
    refine j_if_eq (tgt := 18) C dJ9_floorMod_7cf53_11 (by decide) ?_ ?_
    · refine j_iload_n C dJ9_floorMod_7cf53_18 rfl rfl ?_
      exact j_iret C dJ9_floorMod_7cf53_19
    · refine j_iload_n C dJ9_floorMod_7cf53_14 rfl rfl ?_
      refine j_iload_n C dJ9_floorMod_7cf53_15 rfl rfl ?_
      refine j_iadd C dJ9_floorMod_7cf53_16 ?_
      exact j_iret C dJ9_floorMod_7cf53_17
set_option maxRecDepth 100000 in
set_option maxHeartbeats 4000000 in
theorem ct_X5_isKind (γ : Gm) (E : Ev) (M : Mi) (L : Ml)  (x0 : Int32)  : Ct γ yX5_isKind cX5_isKind 1 (some .boolean) ⟨1, 0, 0, 21⟩ [.int x0] E M L (Q_i γ E M L) 0 0 (F_X5_isKind x0) := by
  refine ct_of (own := RX5) (lv := [some (.int x0)]) (by decide +kernel) rfl rfl (Nat.le_of_ble_eq_true rfl) (fun κ C hγ hN => ?_)
  subst hγ
  have hn : ∀ i, i < 1 → i < knL κ := fun i h => by rw [hN]; exact h
  unfold F_X5_isKind
  refine j_iload_n C dX5_isKind_0 rfl rfl ?_
  refine j_iconst (v := (5 : Int32)) C dX5_isKind_1 rfl ?_
  refine j_callS_i (st := []) C dX5_isKind_2 (ct_X5_isWithin (kγ κ) E M L x0 (5 : Int32)) mi_X5_isWithin tw_459 rfl rfl (Nat.le_of_ble_eq_true rfl) ⟨⟨rfl, rfl⟩, ⟨Nat.le_of_ble_eq_true rfl, Nat.le_of_ble_eq_true rfl⟩, ⟨Nat.zero_le _, Nat.zero_le _⟩⟩ (fun v2 => ?_)
  exact j_zret C dX5_isKind_5
set_option maxRecDepth 100000 in
set_option maxHeartbeats 4000000 in
theorem ct_X0_leapsBy (γ : Gm) (E : Ev) (M : Mi) (L : Ml) (b : Nat) (x1 : Int32) (x2 : Int32) (h0 : FAt E b) : Ct γ yX0_leapsBy cX0_leapsBy 3 (some .boolean) ⟨0, 0, 0, 0⟩ [.ref (E.2.1 b), .int x1, .int x2] E M L (Q_i γ E M L) 0 0 (F_X0_leapsBy b M L x1 x2) := by
  refine ct_of (own := RX0) (lv := [some (.ref (E.2.1 b)), some (.int x1), some (.int x2)]) (by decide +kernel) rfl rfl (Nat.le_of_ble_eq_true rfl) (fun κ C hγ hN => ?_)
  subst hγ
  have hn : ∀ i, i < 3 → i < knL κ := fun i h => by rw [hN]; exact h
  unfold F_X0_leapsBy
  refine j_aload_n C dX0_leapsBy_0 rfl rfl ?_
  refine j_getR (j := 5) C dX0_leapsBy_1 FC0 (FAt.S h0) (by decide) rfl (FAt.R_kind h0) tw_143 ?_
  refine j_iload_n C dX0_leapsBy_4 rfl rfl ?_
  refine j_iald C dX0_leapsBy_5 (FAt.P_kind h0) ?_
  refine j_ite (fun h6_0 => ?_) (fun h6_0 => ?_)
  · refine j_tswHit (c := (2 : Int32)) (off := 30) (tgt := 36) C dX0_leapsBy_6 h6_0 (by decide) (by decide) (by decide) (by decide) ?_
    refine j_iload_n C dX0_leapsBy_36 rfl rfl ?_
    refine j_iconst (v := (2 : Int32)) C dX0_leapsBy_37 rfl ?_
    refine j_iremc C dX0_leapsBy_38 (by decide) ?_
    refine j_if_ne (tgt := 46) C dX0_leapsBy_39 (by decide) ?_ ?_
    · refine j_iconst (v := (0 : Int32)) C dX0_leapsBy_46 rfl ?_
      exact j_zret C dX0_leapsBy_47
    · refine j_iconst (v := (1 : Int32)) C dX0_leapsBy_42 rfl ?_
      refine j_goto (tgt := 47) C dX0_leapsBy_43 (by decide) ?_
      exact j_zret C dX0_leapsBy_47
  · skip
    refine j_ite (fun h6_1 => ?_) (fun h6_1 => ?_)
    · refine j_tswHit (c := (3 : Int32)) (off := 42) (tgt := 48) C dX0_leapsBy_6 h6_1 (by decide) (by decide) (by decide) (by decide) ?_
      refine j_iload_n C dX0_leapsBy_48 rfl rfl ?_
      refine j_aload_n C dX0_leapsBy_49 rfl rfl ?_
      refine j_getR (j := 6) C dX0_leapsBy_50 FC0 (FAt.S h0) (by decide) rfl (FAt.R_number h0) tw_145 ?_
      refine j_iload_n C dX0_leapsBy_53 rfl rfl ?_
      refine j_iald C dX0_leapsBy_54 (FAt.P_number h0) ?_
      refine j_icmp_eq (tgt := 62) C dX0_leapsBy_55 (by decide) ?_ ?_
      · refine j_iconst (v := (0 : Int32)) C dX0_leapsBy_62 rfl ?_
        exact j_zret C dX0_leapsBy_63
      · refine j_iconst (v := (1 : Int32)) C dX0_leapsBy_58 rfl ?_
        refine j_goto (tgt := 63) C dX0_leapsBy_59 (by decide) ?_
        exact j_zret C dX0_leapsBy_63
    · skip
      refine j_ite (fun h6_2 => ?_) (fun h6_2 => ?_)
      · refine j_tswHit (c := (4 : Int32)) (off := 58) (tgt := 64) C dX0_leapsBy_6 h6_2 (by decide) (by decide) (by decide) (by decide) ?_
        refine j_iload_n C dX0_leapsBy_64 rfl rfl ?_
        refine j_iconst (v := (2 : Int32)) C dX0_leapsBy_65 rfl ?_
        refine j_iremc C dX0_leapsBy_66 (by decide) ?_
        refine j_if_ne (tgt := 83) C dX0_leapsBy_67 (by decide) ?_ ?_
        · refine j_iconst (v := (0 : Int32)) C dX0_leapsBy_83 rfl ?_
          exact j_zret C dX0_leapsBy_84
        · refine j_aload_n C dX0_leapsBy_70 rfl rfl ?_
          refine j_getI (j := 2) C dX0_leapsBy_71 FC0 (FAt.S h0) (by decide) rfl tw_134 ?_
          refine j_iconst (v := (2 : Int32)) C dX0_leapsBy_74 rfl ?_
          refine j_iremc C dX0_leapsBy_75 (by decide) ?_
          refine j_if_ne (tgt := 83) C dX0_leapsBy_76 (by decide) ?_ ?_
          · refine j_iconst (v := (0 : Int32)) C dX0_leapsBy_83 rfl ?_
            exact j_zret C dX0_leapsBy_84
          · refine j_iconst (v := (1 : Int32)) C dX0_leapsBy_79 rfl ?_
            refine j_goto (tgt := 84) C dX0_leapsBy_80 (by decide) ?_
            exact j_zret C dX0_leapsBy_84
      · skip
        refine j_ite (fun h6_3 => ?_) (fun h6_3 => ?_)
        · refine j_tswHit (c := (5 : Int32)) (off := 79) (tgt := 85) C dX0_leapsBy_6 h6_3 (by decide) (by decide) (by decide) (by decide) ?_
          refine j_aload_n C dX0_leapsBy_85 rfl rfl ?_
          refine j_getR (j := 8) C dX0_leapsBy_86 FC0 (FAt.S h0) (by decide) rfl (FAt.R_weary h0) tw_150 ?_
          refine j_iload_n C dX0_leapsBy_89 rfl rfl ?_
          refine j_iald C dX0_leapsBy_90 (FAt.P_weary h0) ?_
          refine j_bipush (v := (50 : Int32)) C dX0_leapsBy_91 (by decide) ?_
          refine j_icmp_ge (tgt := 100) C dX0_leapsBy_93 (by decide) ?_ ?_
          · refine j_iconst (v := (0 : Int32)) C dX0_leapsBy_100 rfl ?_
            exact j_zret C dX0_leapsBy_101
          · refine j_iconst (v := (1 : Int32)) C dX0_leapsBy_96 rfl ?_
            refine j_goto (tgt := 101) C dX0_leapsBy_97 (by decide) ?_
            exact j_zret C dX0_leapsBy_101
        · skip
          refine j_tswDef (tgt := 102) C dX0_leapsBy_6 (by have q0 := i_neq (2) (by decide) h6_0; have q1 := i_neq (3) (by decide) h6_1; have q2 := i_neq (4) (by decide) h6_2; have q3 := i_neq (5) (by decide) h6_3; omega) (by decide) ?_
          refine j_iconst (v := (1 : Int32)) C dX0_leapsBy_102 rfl ?_
          exact j_zret C dX0_leapsBy_103
set_option maxRecDepth 100000 in
set_option maxHeartbeats 4000000 in
theorem ct_X0_landing (γ : Gm) (E : Ev) (M : Mi) (L : Ml) (b : Nat) (x1 : Int32) (x2 : Int32) (x3 : Int32) (h0 : FAt E b) : Ct γ yX0_landing cX0_landing 8 (some .int) ⟨2, 0, 0, 43⟩ [.ref (E.2.1 b), .int x1, .int x2, .int x3] E M L (Q_i γ E M L) 0 0 (F_X0_landing b M L x1 x2 x3) := by
  refine ct_of (own := RX0) (lv := [some (.ref (E.2.1 b)), some (.int x1), some (.int x2), some (.int x3), none, none, none, none]) (by decide +kernel) rfl rfl (Nat.le_of_ble_eq_true rfl) (fun κ C hγ hN => ?_)
  subst hγ
  have hn : ∀ i, i < 8 → i < knL κ := fun i h => by rw [hN]; exact h
  have k96 : ∀ (x2 : Int32) (x4 : Int32) (x5 : Int32), JF κ (PQ κ (Q_i (kγ κ) E M L) 0 0) 96 [some (.ref (E.2.1 b)), none, some (.int x2), none, some (.int x4), some (.int x5), none, none] [] E M L 0 0 (F_X0_landing_k96 b M L x2 x4 x5) := by
    intro x2 x4 x5
    unfold F_X0_landing_k96
    refine j_iload_n C dX0_landing_96 rfl rfl ?_
    refine j_bipush (v := (8 : Int32)) C dX0_landing_97 (by decide) ?_
    refine j_iremc C dX0_landing_99 (by decide) ?_
    refine j_iload C dX0_landing_100 rfl ?_
    refine j_iadd C dX0_landing_102 ?_
    refine j_istore (i := 6) (lv' := [some (.ref (E.2.1 b)), none, some (.int x2), none, some (.int x4), some (.int x5), some (.int ((irm x2 (8 : Int32)) + x4)), none]) C dX0_landing_103 (hn 6 (by decide)) rfl ?_
    refine j_iload_n C dX0_landing_105 rfl rfl ?_
    refine j_pc (pc2 := 106) rfl ?_
    refine j_bipush (v := (8 : Int32)) C dX0_landing_106 (by decide) ?_
    refine j_idivc C dX0_landing_108 (by decide) ?_
    refine j_iload C dX0_landing_109 rfl ?_
    refine j_iadd C dX0_landing_111 ?_
    refine j_istore (i := 7) (lv' := [some (.ref (E.2.1 b)), none, some (.int x2), none, some (.int x4), some (.int x5), some (.int ((irm x2 (8 : Int32)) + x4)), some (.int ((x2 / (8 : Int32)) + x5))]) C dX0_landing_112 (hn 7 (by decide)) rfl ?_
    refine j_iload C dX0_landing_114 rfl ?_
    refine j_bipush (v := (7 : Int32)) C dX0_landing_116 (by decide) ?_
    refine j_callN_i (st := []) C dX0_landing_118 (ct_X5_isWithin (kγ κ) E M L ((irm x2 (8 : Int32)) + x4) (7 : Int32)) mi_X5_isWithin (fun q => q.2.2.2.2.2.2.2.2.2.1) rfl rfl (Nat.le_of_ble_eq_true rfl) ⟨⟨rfl, rfl⟩, ⟨Nat.le_of_ble_eq_true rfl, Nat.le_of_ble_eq_true rfl⟩, ⟨Nat.zero_le _, Nat.zero_le _⟩⟩ (fun v118 => ?_)
    refine j_pc (pc2 := 121) rfl ?_
    refine j_if_eq (tgt := 149) C dX0_landing_121 (by decide) ?_ ?_
    · refine j_iconst (v := (-1 : Int32)) C dX0_landing_149 rfl ?_
      exact j_iret C dX0_landing_150
    · refine j_iload C dX0_landing_124 rfl ?_
      refine j_bipush (v := (7 : Int32)) C dX0_landing_126 (by decide) ?_
      refine j_callN_i (st := []) C dX0_landing_128 (ct_X5_isWithin (kγ κ) E M L ((x2 / (8 : Int32)) + x5) (7 : Int32)) mi_X5_isWithin (fun q => q.2.2.2.2.2.2.2.2.2.1) rfl rfl (Nat.le_of_ble_eq_true rfl) ⟨⟨rfl, rfl⟩, ⟨Nat.le_of_ble_eq_true rfl, Nat.le_of_ble_eq_true rfl⟩, ⟨Nat.zero_le _, Nat.zero_le _⟩⟩ (fun v128 => ?_)
      refine j_if_eq (tgt := 149) C dX0_landing_131 (by decide) ?_ ?_
      · refine j_iconst (v := (-1 : Int32)) C dX0_landing_149 rfl ?_
        exact j_iret C dX0_landing_150
      · refine j_aload_n C dX0_landing_134 rfl rfl ?_
        refine j_bipush (v := (8 : Int32)) C dX0_landing_135 (by decide) ?_
        refine j_iload C dX0_landing_137 rfl ?_
        refine j_imul C dX0_landing_139 ?_
        refine j_iload C dX0_landing_140 rfl ?_
        refine j_iadd C dX0_landing_142 ?_
        refine j_callV_i (st := []) C dX0_landing_143 (ct_X0_isHollow (kγ κ) E M L b (((8 : Int32) * ((x2 / (8 : Int32)) + x5)) + ((irm x2 (8 : Int32)) + x4)) h0) mi_X0_isHollow tw_595 FC0 (FAt.S h0) rfl rfl (Nat.le_of_ble_eq_true rfl) ⟨⟨rfl, rfl⟩, ⟨Nat.le_of_ble_eq_true rfl, Nat.le_of_ble_eq_true rfl⟩, ⟨Nat.zero_le _, Nat.zero_le _⟩⟩ (fun v143 => ?_)
        refine j_pc (pc2 := 146) rfl ?_
        refine j_if_eq (tgt := 151) C dX0_landing_146 (by decide) ?_ ?_
        · refine j_bipush (v := (8 : Int32)) C dX0_landing_151 (by decide) ?_
          refine j_iload C dX0_landing_153 rfl ?_
          refine j_imul C dX0_landing_155 ?_
          refine j_iload C dX0_landing_156 rfl ?_
          refine j_iadd C dX0_landing_158 ?_
          exact j_iret C dX0_landing_159
        · refine j_iconst (v := (-1 : Int32)) C dX0_landing_149 rfl ?_
          exact j_iret C dX0_landing_150
  have k45 : ∀ (x2 : Int32) (x3 : Int32), JF κ (PQ κ (Q_i (kγ κ) E M L) 0 0) 45 [some (.ref (E.2.1 b)), none, some (.int x2), some (.int x3), none, none, none, none] [] E M L 0 0 (F_X0_landing_k45 b M L x2 x3) := by
    intro x2 x3
    unfold F_X0_landing_k45
    refine j_getsN (i := 3) C dX0_landing_45 (by decide) (fun q => q.2.2.2.2.2.1) ?_
    refine j_iload_n C dX0_landing_48 rfl rfl ?_
    refine j_tald (i := 3) C dX0_landing_49 (by decide) ?_
    refine j_istore (i := 4) (lv' := [some (.ref (E.2.1 b)), none, some (.int x2), some (.int x3), some (.int ((sA 3).getD (Int32.toNatClampNeg x3) 0)), none, none, none]) C dX0_landing_50 (hn 4 (by decide)) rfl ?_
    refine j_getsN (i := 4) C dX0_landing_52 (by decide) (fun q => q.2.2.2.2.2.2.1) ?_
    refine j_iload_n C dX0_landing_55 rfl rfl ?_
    refine j_tald (i := 4) C dX0_landing_56 (by decide) ?_
    refine j_pc (pc2 := 57) rfl ?_
    refine j_istore (i := 5) (lv' := [some (.ref (E.2.1 b)), none, some (.int x2), some (.int x3), some (.int ((sA 3).getD (Int32.toNatClampNeg x3) 0)), some (.int ((sA 4).getD (Int32.toNatClampNeg x3) 0)), none, none]) C dX0_landing_57 (hn 5 (by decide)) rfl ?_
    refine j_goto (tgt := 96) C dX0_landing_59 (by decide) ?_
    refine j_mask [true, false, true, false, true, true, false, false] (lv' := [some (.ref (E.2.1 b)), none, some (.int x2), none, some (.int ((sA 3).getD (Int32.toNatClampNeg x3) 0)), some (.int ((sA 4).getD (Int32.toNatClampNeg x3) 0)), none, none]) rfl ?_
    exact k96 x2 (((sA 3).getD (Int32.toNatClampNeg x3) 0)) (((sA 4).getD (Int32.toNatClampNeg x3) 0))
  have k82 : ∀ (x2 : Int32) (x3 : Int32), JF κ (PQ κ (Q_i (kγ κ) E M L) 0 0) 82 [some (.ref (E.2.1 b)), none, some (.int x2), some (.int x3), none, none, none, none] [] E M L 0 0 (F_X0_landing_k82 b M L x2 x3) := by
    intro x2 x3
    unfold F_X0_landing_k82
    refine j_getsN (i := 5) C dX0_landing_82 (by decide) (fun q => q.2.2.2.2.2.2.2.1) ?_
    refine j_iload_n C dX0_landing_85 rfl rfl ?_
    refine j_tald (i := 5) C dX0_landing_86 (by decide) ?_
    refine j_istore (i := 4) (lv' := [some (.ref (E.2.1 b)), none, some (.int x2), some (.int x3), some (.int ((sA 5).getD (Int32.toNatClampNeg x3) 0)), none, none, none]) C dX0_landing_87 (hn 4 (by decide)) rfl ?_
    refine j_getsN (i := 6) C dX0_landing_89 (by decide) (fun q => q.2.2.2.2.2.2.2.2.1) ?_
    refine j_iload_n C dX0_landing_92 rfl rfl ?_
    refine j_tald (i := 6) C dX0_landing_93 (by decide) ?_
    refine j_pc (pc2 := 94) rfl ?_
    refine j_istore (i := 5) (lv' := [some (.ref (E.2.1 b)), none, some (.int x2), some (.int x3), some (.int ((sA 5).getD (Int32.toNatClampNeg x3) 0)), some (.int ((sA 6).getD (Int32.toNatClampNeg x3) 0)), none, none]) C dX0_landing_94 (hn 5 (by decide)) rfl ?_
    refine j_mask [true, false, true, false, true, true, false, false] (lv' := [some (.ref (E.2.1 b)), none, some (.int x2), none, some (.int ((sA 5).getD (Int32.toNatClampNeg x3) 0)), some (.int ((sA 6).getD (Int32.toNatClampNeg x3) 0)), none, none]) rfl ?_
    exact k96 x2 (((sA 5).getD (Int32.toNatClampNeg x3) 0)) (((sA 6).getD (Int32.toNatClampNeg x3) 0))
  unfold F_X0_landing
  refine j_aload_n C dX0_landing_0 rfl rfl ?_
  refine j_iload_n C dX0_landing_1 rfl rfl ?_
  refine j_iload_n C dX0_landing_2 rfl rfl ?_
  refine j_callV_i (st := []) C dX0_landing_3 (ct_X0_leapsBy (kγ κ) E M L b x1 x3 h0) mi_X0_leapsBy tw_578 FC0 (FAt.S h0) rfl rfl (Nat.le_of_ble_eq_true rfl) ⟨⟨rfl, rfl⟩, ⟨Nat.le_of_ble_eq_true rfl, Nat.le_of_ble_eq_true rfl⟩, ⟨Nat.zero_le _, Nat.zero_le _⟩⟩ (fun v3 => ?_)
  refine j_if_ne (tgt := 11) C dX0_landing_6 (by decide) ?_ ?_
  · refine j_getsN (i := 1) C dX0_landing_11 (by decide) (fun q => q.2.2.2.1) ?_
    refine j_iload_n C dX0_landing_14 rfl rfl ?_
    refine j_tald (i := 1) C dX0_landing_15 (by decide) ?_
    refine j_istore (i := 4) (lv' := [some (.ref (E.2.1 b)), some (.int x1), some (.int x2), some (.int x3), some (.int ((sA 1).getD (Int32.toNatClampNeg x3) 0)), none, none, none]) C dX0_landing_16 (hn 4 (by decide)) rfl ?_
    refine j_getsN (i := 2) C dX0_landing_18 (by decide) (fun q => q.2.2.2.2.1) ?_
    refine j_iload_n C dX0_landing_21 rfl rfl ?_
    refine j_tald (i := 2) C dX0_landing_22 (by decide) ?_
    refine j_pc (pc2 := 23) rfl ?_
    refine j_istore (i := 5) (lv' := [some (.ref (E.2.1 b)), some (.int x1), some (.int x2), some (.int x3), some (.int ((sA 1).getD (Int32.toNatClampNeg x3) 0)), some (.int ((sA 2).getD (Int32.toNatClampNeg x3) 0)), none, none]) C dX0_landing_23 (hn 5 (by decide)) rfl ?_
    refine j_aload_n C dX0_landing_25 rfl rfl ?_
    refine j_getR (j := 5) C dX0_landing_26 FC0 (FAt.S h0) (by decide) rfl (FAt.R_kind h0) tw_143 ?_
    refine j_iload_n C dX0_landing_29 rfl rfl ?_
    refine j_iald C dX0_landing_30 (FAt.P_kind h0) ?_
    refine j_iconst (v := (1 : Int32)) C dX0_landing_31 rfl ?_
    refine j_icmp_eq (tgt := 45) C dX0_landing_32 (by decide) ?_ ?_
    · refine j_mask [true, false, true, true, false, false, false, false] (lv' := [some (.ref (E.2.1 b)), none, some (.int x2), some (.int x3), none, none, none, none]) rfl ?_
      exact k45 x2 x3
    · refine j_aload_n C dX0_landing_35 rfl rfl ?_
      refine j_getR (j := 5) C dX0_landing_36 FC0 (FAt.S h0) (by decide) rfl (FAt.R_kind h0) tw_143 ?_
      refine j_iload_n C dX0_landing_39 rfl rfl ?_
      refine j_iald C dX0_landing_40 (FAt.P_kind h0) ?_
      refine j_iconst (v := (3 : Int32)) C dX0_landing_41 rfl ?_
      refine j_icmp_ne (tgt := 62) C dX0_landing_42 (by decide) ?_ ?_
      · refine j_aload_n C dX0_landing_62 rfl rfl ?_
        refine j_getR (j := 5) C dX0_landing_63 FC0 (FAt.S h0) (by decide) rfl (FAt.R_kind h0) tw_143 ?_
        refine j_iload_n C dX0_landing_66 rfl rfl ?_
        refine j_iald C dX0_landing_67 (FAt.P_kind h0) ?_
        refine j_iconst (v := (2 : Int32)) C dX0_landing_68 rfl ?_
        refine j_icmp_eq (tgt := 82) C dX0_landing_69 (by decide) ?_ ?_
        · refine j_mask [true, false, true, true, false, false, false, false] (lv' := [some (.ref (E.2.1 b)), none, some (.int x2), some (.int x3), none, none, none, none]) rfl ?_
          exact k82 x2 x3
        · refine j_aload_n C dX0_landing_72 rfl rfl ?_
          refine j_getR (j := 5) C dX0_landing_73 FC0 (FAt.S h0) (by decide) rfl (FAt.R_kind h0) tw_143 ?_
          refine j_iload_n C dX0_landing_76 rfl rfl ?_
          refine j_iald C dX0_landing_77 (FAt.P_kind h0) ?_
          refine j_iconst (v := (4 : Int32)) C dX0_landing_78 rfl ?_
          refine j_icmp_ne (tgt := 96) C dX0_landing_79 (by decide) ?_ ?_
          · refine j_mask [true, false, true, false, true, true, false, false] (lv' := [some (.ref (E.2.1 b)), none, some (.int x2), none, some (.int ((sA 1).getD (Int32.toNatClampNeg x3) 0)), some (.int ((sA 2).getD (Int32.toNatClampNeg x3) 0)), none, none]) rfl ?_
            exact k96 x2 (((sA 1).getD (Int32.toNatClampNeg x3) 0)) (((sA 2).getD (Int32.toNatClampNeg x3) 0))
          · refine j_mask [true, false, true, true, false, false, false, false] (lv' := [some (.ref (E.2.1 b)), none, some (.int x2), some (.int x3), none, none, none, none]) rfl ?_
            exact k82 x2 x3
      · refine j_mask [true, false, true, true, false, false, false, false] (lv' := [some (.ref (E.2.1 b)), none, some (.int x2), some (.int x3), none, none, none, none]) rfl ?_
        exact k45 x2 x3
  · refine j_iconst (v := (-1 : Int32)) C dX0_landing_9 rfl ?_
    exact j_iret C dX0_landing_10
set_option maxRecDepth 100000 in
set_option maxHeartbeats 4000000 in
theorem ct_X0_stoodOn (γ : Gm) (E : Ev) (M : Mi) (L : Ml) (b : Nat)  (h0 : FAt E b) : Ct γ yX0_stoodOn cX0_stoodOn 4 (some .long) ⟨0, 0, 0, 0⟩ [.ref (E.2.1 b)] E M L (Q_l γ E M L) 0 0 (F_X0_stoodOn b M L) := by
  refine ct_of (own := RX0) (lv := [some (.ref (E.2.1 b)), none, none, none]) (by decide +kernel) rfl rfl (Nat.le_of_ble_eq_true rfl) (fun κ C hγ hN => ?_)
  subst hγ
  have hn : ∀ i, i < 4 → i < knL κ := fun i h => by rw [hN]; exact h
  have k4 : ∀ (n : Nat) (x1 : Int64) (x3 : Int32), JF κ (PQ κ (Q_l (kγ κ) E M L) 0 0) 4 [some (.ref (E.2.1 b)), some (.long x1), none, some (.int x3)] [] E M L 0 0 (F_X0_stoodOn_k4 b M L n x1 x3) := by
    intro n
    induction n with
    | zero => intros; exact jf_none
    | succ n ih =>
      intro x1 x3
      unfold F_X0_stoodOn_k4
      refine j_iload_n C dX0_stoodOn_4 rfl rfl ?_
      refine j_aload_n C dX0_stoodOn_5 rfl rfl ?_
      refine j_getI (j := 3) C dX0_stoodOn_6 FC0 (FAt.S h0) (by decide) rfl tw_137 ?_
      refine j_icmp_ge (tgt := 29) C dX0_stoodOn_9 (by decide) ?_ ?_
      · refine j_lload_n C dX0_stoodOn_29 rfl rfl ?_
        exact j_lret C dX0_stoodOn_30
      · refine j_lload_n C dX0_stoodOn_12 rfl rfl ?_
        refine j_lconst (v := (1 : Int64)) C dX0_stoodOn_13 rfl ?_
        refine j_aload_n C dX0_stoodOn_14 rfl rfl ?_
        refine j_getR (j := 7) C dX0_stoodOn_15 FC0 (FAt.S h0) (by decide) rfl (FAt.R_on h0) tw_147 ?_
        refine j_iload_n C dX0_stoodOn_18 rfl rfl ?_
        refine j_iald C dX0_stoodOn_19 (FAt.P_on h0) ?_
        refine j_lshl C dX0_stoodOn_20 ?_
        refine j_pc (pc2 := 21) rfl ?_
        refine j_lor C dX0_stoodOn_21 ?_
        refine j_nml (fun z22 => ?_)
        refine j_lstore_n (i := 1) (lv' := [some (.ref (E.2.1 b)), some (.long z22), none, some (.int x3)]) C dX0_stoodOn_22 rfl (hn 2 (by decide)) rfl ?_
        refine j_iinc (i := 3) (v := (x3 + (1 : Int32))) (lv' := [some (.ref (E.2.1 b)), some (.long z22), none, some (.int (x3 + (1 : Int32)))]) C dX0_stoodOn_23 rfl rfl (hn 3 (by decide)) rfl ?_
        refine j_goto (tgt := 4) C dX0_stoodOn_26 (by decide) ?_
        exact ih z22 ((x3 + (1 : Int32)))
  unfold F_X0_stoodOn
  refine j_lconst (v := (0 : Int64)) C dX0_stoodOn_0 rfl ?_
  refine j_lstore_n (i := 1) (lv' := [some (.ref (E.2.1 b)), some (.long (0 : Int64)), none, none]) C dX0_stoodOn_1 rfl (hn 2 (by decide)) rfl ?_
  refine j_iconst (v := (0 : Int32)) C dX0_stoodOn_2 rfl ?_
  refine j_istore_n (i := 3) (lv' := [some (.ref (E.2.1 b)), some (.long (0 : Int64)), none, some (.int (0 : Int32))]) C dX0_stoodOn_3 rfl (hn 3 (by decide)) rfl ?_
  exact k4 FU ((0 : Int64)) ((0 : Int32))
set_option maxRecDepth 100000 in
set_option maxHeartbeats 4000000 in
theorem ct_X0_become (γ : Gm) (E : Ev) (M : Mi) (L : Ml) (b : Nat) (c1 : Nat)  (h0 : FAt E b) (h1 : FAt E c1) : Ct γ yX0_become cX0_become 2 none ⟨1, 0, 0, 80⟩ [.ref (E.2.1 b), .ref (E.2.1 c1)] E M L (Q_vw γ E) 0 0 (F_X0_become b c1 M L) := by
  refine ct_of (own := RX0) (lv := [some (.ref (E.2.1 b)), some (.ref (E.2.1 c1))]) (by decide +kernel) rfl rfl (Nat.le_of_ble_eq_true rfl) (fun κ C hγ hN => ?_)
  subst hγ
  have hn : ∀ i, i < 2 → i < knL κ := fun i h => by rw [hN]; exact h
  unfold F_X0_become
  refine j_aload_n C dX0_become_0 rfl rfl ?_
  refine j_aload_n C dX0_become_1 rfl rfl ?_
  refine j_getL (j := 0) C dX0_become_2 FC0 (FAt.S h1) (by decide) rfl tw_130 ?_
  refine j_putL (j := 0) C dX0_become_5 FC0 (FAt.S h0) (by decide) rfl rfl rfl rfl tw_130 ?_
  refine j_aload_n C dX0_become_8 rfl rfl ?_
  refine j_aload_n C dX0_become_9 rfl rfl ?_
  refine j_getL (j := 1) C dX0_become_10 FC0 (FAt.S h1) (by decide) rfl tw_132 ?_
  refine j_pc (pc2 := 13) rfl ?_
  refine j_putL (j := 1) C dX0_become_13 FC0 (FAt.S h0) (by decide) rfl rfl rfl rfl tw_132 ?_
  refine j_aload_n C dX0_become_16 rfl rfl ?_
  refine j_aload_n C dX0_become_17 rfl rfl ?_
  refine j_getI (j := 2) C dX0_become_18 FC0 (FAt.S h1) (by decide) rfl tw_134 ?_
  refine j_putI (j := 2) C dX0_become_21 FC0 (FAt.S h0) (by decide) rfl rfl rfl rfl tw_134 ?_
  refine j_aload_n C dX0_become_24 rfl rfl ?_
  refine j_aload_n C dX0_become_25 rfl rfl ?_
  refine j_getI (j := 3) C dX0_become_26 FC0 (FAt.S h1) (by decide) rfl tw_137 ?_
  refine j_pc (pc2 := 29) rfl ?_
  refine j_putI (j := 3) C dX0_become_29 FC0 (FAt.S h0) (by decide) rfl rfl rfl rfl tw_137 ?_
  refine j_aload_n C dX0_become_32 rfl rfl ?_
  refine j_aload_n C dX0_become_33 rfl rfl ?_
  refine j_getI (j := 4) C dX0_become_34 FC0 (FAt.S h1) (by decide) rfl tw_140 ?_
  refine j_putI (j := 4) C dX0_become_37 FC0 (FAt.S h0) (by decide) rfl rfl rfl rfl tw_140 ?_
  refine j_aload_n C dX0_become_40 rfl rfl ?_
  refine j_getR (j := 5) C dX0_become_41 FC0 (FAt.S h1) (by decide) rfl (FAt.R_kind h1) tw_143 ?_
  refine j_iconst (v := (0 : Int32)) C dX0_become_44 rfl ?_
  refine j_pc (pc2 := 45) rfl ?_
  refine j_aload_n C dX0_become_45 rfl rfl ?_
  refine j_getR (j := 5) C dX0_become_46 FC0 (FAt.S h0) (by decide) rfl (FAt.R_kind h0) tw_143 ?_
  refine j_iconst (v := (0 : Int32)) C dX0_become_49 rfl ?_
  refine j_iconst (v := (5 : Int32)) C dX0_become_50 rfl ?_
  refine j_copyi C dX0_become_51 (FAt.P_kind h1) (FAt.P_kind h0) tw_647 tw_401 tw_400 tw_113 (Nat.le_of_ble_eq_true rfl) (Nat.le_of_ble_eq_true rfl) ?_
  refine j_aload_n C dX0_become_54 rfl rfl ?_
  refine j_getR (j := 6) C dX0_become_55 FC0 (FAt.S h1) (by decide) rfl (FAt.R_number h1) tw_145 ?_
  refine j_iconst (v := (0 : Int32)) C dX0_become_58 rfl ?_
  refine j_pc (pc2 := 59) rfl ?_
  refine j_aload_n C dX0_become_59 rfl rfl ?_
  refine j_getR (j := 6) C dX0_become_60 FC0 (FAt.S h0) (by decide) rfl (FAt.R_number h0) tw_145 ?_
  refine j_iconst (v := (0 : Int32)) C dX0_become_63 rfl ?_
  refine j_iconst (v := (5 : Int32)) C dX0_become_64 rfl ?_
  refine j_copyi C dX0_become_65 (FAt.P_number h1) (FAt.P_number h0) tw_647 tw_401 tw_400 tw_113 (Nat.le_of_ble_eq_true rfl) (Nat.le_of_ble_eq_true rfl) ?_
  refine j_aload_n C dX0_become_68 rfl rfl ?_
  refine j_getR (j := 7) C dX0_become_69 FC0 (FAt.S h1) (by decide) rfl (FAt.R_on h1) tw_147 ?_
  refine j_iconst (v := (0 : Int32)) C dX0_become_72 rfl ?_
  refine j_pc (pc2 := 73) rfl ?_
  refine j_aload_n C dX0_become_73 rfl rfl ?_
  refine j_getR (j := 7) C dX0_become_74 FC0 (FAt.S h0) (by decide) rfl (FAt.R_on h0) tw_147 ?_
  refine j_iconst (v := (0 : Int32)) C dX0_become_77 rfl ?_
  refine j_iconst (v := (5 : Int32)) C dX0_become_78 rfl ?_
  refine j_copyi C dX0_become_79 (FAt.P_on h1) (FAt.P_on h0) tw_647 tw_401 tw_400 tw_113 (Nat.le_of_ble_eq_true rfl) (Nat.le_of_ble_eq_true rfl) ?_
  refine j_aload_n C dX0_become_82 rfl rfl ?_
  refine j_getR (j := 8) C dX0_become_83 FC0 (FAt.S h1) (by decide) rfl (FAt.R_weary h1) tw_150 ?_
  refine j_iconst (v := (0 : Int32)) C dX0_become_86 rfl ?_
  refine j_pc (pc2 := 87) rfl ?_
  refine j_aload_n C dX0_become_87 rfl rfl ?_
  refine j_getR (j := 8) C dX0_become_88 FC0 (FAt.S h0) (by decide) rfl (FAt.R_weary h0) tw_150 ?_
  refine j_iconst (v := (0 : Int32)) C dX0_become_91 rfl ?_
  refine j_iconst (v := (5 : Int32)) C dX0_become_92 rfl ?_
  refine j_copyi C dX0_become_93 (FAt.P_weary h1) (FAt.P_weary h0) tw_647 tw_401 tw_400 tw_113 (Nat.le_of_ble_eq_true rfl) (Nat.le_of_ble_eq_true rfl) ?_
  exact j_vretw C dX0_become_96
set_option maxRecDepth 100000 in
set_option maxHeartbeats 4000000 in
theorem ct_X0_howManyFound (γ : Gm) (E : Ev) (M : Mi) (L : Ml) (b : Nat) (x1 : Int32) (h0 : FAt E b) : Ct γ yX0_howManyFound cX0_howManyFound 4 (some .int) ⟨4, 0, 0, 86⟩ [.ref (E.2.1 b), .int x1] E M L (Q_i γ E M L) 0 0 (F_X0_howManyFound b M L x1) := by
  refine ct_of (own := RX0) (lv := [some (.ref (E.2.1 b)), some (.int x1), none, none]) (by decide +kernel) rfl rfl (Nat.le_of_ble_eq_true rfl) (fun κ C hγ hN => ?_)
  subst hγ
  have hn : ∀ i, i < 4 → i < knL κ := fun i h => by rw [hN]; exact h
  have k27 : ∀ (kf4 : Int32 → Int32 → Int32 → Option (Int32)), (∀ (x1 : Int32) (x2 : Int32) (x3 : Int32), JF κ (PQ κ (Q_i (kγ κ) E M L) 0 0) 4 [some (.ref (E.2.1 b)), some (.int x1), some (.int x2), some (.int x3)] [] E M L 0 0 (kf4 x1 x2 x3)) → ∀ (x1 : Int32) (x3 : Int32) (s0 : Int32) (s1 : Int32), JF κ (PQ κ (Q_i (kγ κ) E M L) 0 0) 27 [some (.ref (E.2.1 b)), some (.int x1), none, some (.int x3)] [.int s1, .int s0] E M L 0 0 (F_X0_howManyFound_k27 b M L kf4 x1 x3 s0 s1) := by
    intro kf4 hkf4 x1 x3 s0 s1
    unfold F_X0_howManyFound_k27
    refine j_iadd C dX0_howManyFound_27 ?_
    refine j_istore_n (i := 2) (lv' := [some (.ref (E.2.1 b)), some (.int x1), some (.int (s0 + s1)), some (.int x3)]) C dX0_howManyFound_28 rfl (hn 2 (by decide)) rfl ?_
    refine j_iinc (i := 3) (v := (x3 + (1 : Int32))) (lv' := [some (.ref (E.2.1 b)), some (.int x1), some (.int (s0 + s1)), some (.int (x3 + (1 : Int32)))]) C dX0_howManyFound_29 rfl rfl (hn 3 (by decide)) rfl ?_
    refine j_goto (tgt := 4) C dX0_howManyFound_32 (by decide) ?_
    exact hkf4 x1 ((s0 + s1)) ((x3 + (1 : Int32)))
  have k4 : ∀ (n : Nat) (x1 : Int32) (x2 : Int32) (x3 : Int32), JF κ (PQ κ (Q_i (kγ κ) E M L) 0 0) 4 [some (.ref (E.2.1 b)), some (.int x1), some (.int x2), some (.int x3)] [] E M L 0 0 (F_X0_howManyFound_k4 b M L n x1 x2 x3) := by
    intro n
    induction n with
    | zero => intros; exact jf_none
    | succ n ih =>
      intro x1 x2 x3
      unfold F_X0_howManyFound_k4
      refine j_iload_n C dX0_howManyFound_4 rfl rfl ?_
      refine j_aload_n C dX0_howManyFound_5 rfl rfl ?_
      refine j_getI (j := 3) C dX0_howManyFound_6 FC0 (FAt.S h0) (by decide) rfl tw_137 ?_
      refine j_icmp_ge (tgt := 35) C dX0_howManyFound_9 (by decide) ?_ ?_
      · refine j_iload_n C dX0_howManyFound_35 rfl rfl ?_
        exact j_iret C dX0_howManyFound_36
      · refine j_iload_n C dX0_howManyFound_12 rfl rfl ?_
        refine j_aload_n C dX0_howManyFound_13 rfl rfl ?_
        refine j_iload_n C dX0_howManyFound_14 rfl rfl ?_
        refine j_callV_i (st := [.int x2]) C dX0_howManyFound_15 (ct_X0_foundOf (kγ κ) E M L b x3 h0) mi_X0_foundOf tw_652 FC0 (FAt.S h0) rfl rfl (Nat.le_of_ble_eq_true rfl) ⟨⟨rfl, rfl⟩, ⟨Nat.le_of_ble_eq_true rfl, Nat.le_of_ble_eq_true rfl⟩, ⟨Nat.zero_le _, Nat.zero_le _⟩⟩ (fun v15 => ?_)
        refine j_iload_n C dX0_howManyFound_18 rfl rfl ?_
        refine j_icmp_ne (tgt := 26) C dX0_howManyFound_19 (by decide) ?_ ?_
        · refine j_iconst (v := (0 : Int32)) C dX0_howManyFound_26 rfl ?_
          refine j_mask [true, true, false, true] (lv' := [some (.ref (E.2.1 b)), some (.int x1), none, some (.int x3)]) rfl ?_
          exact k27 (F_X0_howManyFound_k4 b M L n) ih x1 x3 x2 ((0 : Int32))
        · refine j_iconst (v := (1 : Int32)) C dX0_howManyFound_22 rfl ?_
          refine j_goto (tgt := 27) C dX0_howManyFound_23 (by decide) ?_
          refine j_mask [true, true, false, true] (lv' := [some (.ref (E.2.1 b)), some (.int x1), none, some (.int x3)]) rfl ?_
          exact k27 (F_X0_howManyFound_k4 b M L n) ih x1 x3 x2 ((1 : Int32))
  unfold F_X0_howManyFound
  refine j_iconst (v := (0 : Int32)) C dX0_howManyFound_0 rfl ?_
  refine j_istore_n (i := 2) (lv' := [some (.ref (E.2.1 b)), some (.int x1), some (.int (0 : Int32)), none]) C dX0_howManyFound_1 rfl (hn 2 (by decide)) rfl ?_
  refine j_iconst (v := (0 : Int32)) C dX0_howManyFound_2 rfl ?_
  refine j_istore_n (i := 3) (lv' := [some (.ref (E.2.1 b)), some (.int x1), some (.int (0 : Int32)), some (.int (0 : Int32))]) C dX0_howManyFound_3 rfl (hn 3 (by decide)) rfl ?_
  exact k4 FU x1 ((0 : Int32)) ((0 : Int32))
set_option maxRecDepth 100000 in
set_option maxHeartbeats 4000000 in
theorem ct_X0_aLeapFurther (γ : Gm) (E : Ev) (M : Mi) (L : Ml) (b : Nat) (x1 : Int32) (x2 : Int64) (h0 : FAt E b) : Ct γ yX0_aLeapFurther cX0_aLeapFurther 9 (some .long) ⟨3, 0, 0, 70⟩ [.ref (E.2.1 b), .int x1, .long x2] E M L (Q_l γ E M L) 0 0 (F_X0_aLeapFurther b M L x1 x2) := by
  refine ct_of (own := RX0) (lv := [some (.ref (E.2.1 b)), some (.int x1), some (.long x2), none, none, none, none, none, none]) (by decide +kernel) rfl rfl (Nat.le_of_ble_eq_true rfl) (fun κ C hγ hN => ?_)
  subst hγ
  have hn : ∀ i, i < 9 → i < knL κ := fun i h => by rw [hN]; exact h
  have k68 : ∀ (kf6 : Int32 → Int64 → Int64 → Int32 → Option (Int64)), (∀ (x1 : Int32) (x2 : Int64) (x4 : Int64) (x6 : Int32), JF κ (PQ κ (Q_l (kγ κ) E M L) 0 0) 6 [some (.ref (E.2.1 b)), some (.int x1), some (.long x2), none, some (.long x4), none, some (.int x6), none, none] [] E M L 0 0 (kf6 x1 x2 x4 x6)) → ∀ (x1 : Int32) (x2 : Int64) (x4 : Int64) (x6 : Int32), JF κ (PQ κ (Q_l (kγ κ) E M L) 0 0) 68 [some (.ref (E.2.1 b)), some (.int x1), some (.long x2), none, some (.long x4), none, some (.int x6), none, none] [] E M L 0 0 (F_X0_aLeapFurther_k68 b M L kf6 x1 x2 x4 x6) := by
    intro kf6 hkf6 x1 x2 x4 x6
    unfold F_X0_aLeapFurther_k68
    refine j_iinc (i := 6) (v := (x6 + (1 : Int32))) (lv' := [some (.ref (E.2.1 b)), some (.int x1), some (.long x2), none, some (.long x4), none, some (.int (x6 + (1 : Int32))), none, none]) C dX0_aLeapFurther_68 rfl rfl (hn 6 (by decide)) rfl ?_
    refine j_goto (tgt := 6) C dX0_aLeapFurther_71 (by decide) ?_
    exact hkf6 x1 x2 x4 ((x6 + (1 : Int32)))
  have k59 : ∀ (kf16 : Int32 → Int64 → Int64 → Int32 → Int32 → Option (Int64)), (∀ (x1 : Int32) (x2 : Int64) (x4 : Int64) (x6 : Int32) (x7 : Int32), JF κ (PQ κ (Q_l (kγ κ) E M L) 0 0) 16 [some (.ref (E.2.1 b)), some (.int x1), some (.long x2), none, some (.long x4), none, some (.int x6), some (.int x7), none] [] E M L 0 0 (kf16 x1 x2 x4 x6 x7)) → ∀ (x1 : Int32) (x2 : Int64) (x6 : Int32) (x7 : Int32) (s0 : Int64) (s1 : Int64), JF κ (PQ κ (Q_l (kγ κ) E M L) 0 0) 59 [some (.ref (E.2.1 b)), some (.int x1), some (.long x2), none, none, none, some (.int x6), some (.int x7), none] [.long s1, .long s0] E M L 0 0 (F_X0_aLeapFurther_k59 b M L kf16 x1 x2 x6 x7 s0 s1) := by
    intro kf16 hkf16 x1 x2 x6 x7 s0 s1
    unfold F_X0_aLeapFurther_k59
    refine j_lor C dX0_aLeapFurther_59 ?_
    refine j_lstore (i := 4) (lv' := [some (.ref (E.2.1 b)), some (.int x1), some (.long x2), none, some (.long (s0 ||| s1)), none, some (.int x6), some (.int x7), none]) C dX0_aLeapFurther_60 (hn 5 (by decide)) rfl ?_
    refine j_iinc (i := 7) (v := (x7 + (1 : Int32))) (lv' := [some (.ref (E.2.1 b)), some (.int x1), some (.long x2), none, some (.long (s0 ||| s1)), none, some (.int x6), some (.int (x7 + (1 : Int32))), none]) C dX0_aLeapFurther_62 rfl rfl (hn 7 (by decide)) rfl ?_
    refine j_goto (tgt := 16) C dX0_aLeapFurther_65 (by decide) ?_
    exact hkf16 x1 x2 ((s0 ||| s1)) x6 ((x7 + (1 : Int32)))
  have k16 : ∀ (kf6 : Int32 → Int64 → Int64 → Int32 → Option (Int64)), (∀ (x1 : Int32) (x2 : Int64) (x4 : Int64) (x6 : Int32), JF κ (PQ κ (Q_l (kγ κ) E M L) 0 0) 6 [some (.ref (E.2.1 b)), some (.int x1), some (.long x2), none, some (.long x4), none, some (.int x6), none, none] [] E M L 0 0 (kf6 x1 x2 x4 x6)) → ∀ (n : Nat) (x1 : Int32) (x2 : Int64) (x4 : Int64) (x6 : Int32) (x7 : Int32), JF κ (PQ κ (Q_l (kγ κ) E M L) 0 0) 16 [some (.ref (E.2.1 b)), some (.int x1), some (.long x2), none, some (.long x4), none, some (.int x6), some (.int x7), none] [] E M L 0 0 (F_X0_aLeapFurther_k16 b M L kf6 n x1 x2 x4 x6 x7) := by
    intro kf6 hkf6
    intro n
    induction n with
    | zero => intros; exact jf_none
    | succ n ih =>
      intro x1 x2 x4 x6 x7
      unfold F_X0_aLeapFurther_k16
      refine j_iload C dX0_aLeapFurther_16 rfl ?_
      refine j_bipush (v := (8 : Int32)) C dX0_aLeapFurther_18 (by decide) ?_
      refine j_icmp_ge (tgt := 68) C dX0_aLeapFurther_20 (by decide) ?_ ?_
      · refine j_mask [true, true, true, false, true, false, true, false, false] (lv' := [some (.ref (E.2.1 b)), some (.int x1), some (.long x2), none, some (.long x4), none, some (.int x6), none, none]) rfl ?_
        exact k68 kf6 hkf6 x1 x2 x4 x6
      · refine j_lload_n C dX0_aLeapFurther_23 rfl rfl ?_
        refine j_iload C dX0_aLeapFurther_24 rfl ?_
        refine j_callN_i (st := []) C dX0_aLeapFurther_26 (ct_X5_isIn (kγ κ) E M L x2 x6) mi_X5_isIn (fun q => q.1) rfl rfl (Nat.le_of_ble_eq_true rfl) ⟨⟨rfl, rfl⟩, ⟨Nat.le_of_ble_eq_true rfl, Nat.le_of_ble_eq_true rfl⟩, ⟨Nat.zero_le _, Nat.zero_le _⟩⟩ (fun v26 => ?_)
        refine j_if_eq (tgt := 68) C dX0_aLeapFurther_29 (by decide) ?_ ?_
        · refine j_mask [true, true, true, false, true, false, true, false, false] (lv' := [some (.ref (E.2.1 b)), some (.int x1), some (.long x2), none, some (.long x4), none, some (.int x6), none, none]) rfl ?_
          exact k68 kf6 hkf6 x1 x2 x4 x6
        · refine j_aload_n C dX0_aLeapFurther_32 rfl rfl ?_
          refine j_iload_n C dX0_aLeapFurther_33 rfl rfl ?_
          refine j_iload C dX0_aLeapFurther_34 rfl ?_
          refine j_iload C dX0_aLeapFurther_36 rfl ?_
          refine j_callV_i (st := []) C dX0_aLeapFurther_38 (ct_X0_landing (kγ κ) E M L b x1 x6 x7 h0) mi_X0_landing tw_669 FC0 (FAt.S h0) rfl rfl (Nat.le_of_ble_eq_true rfl) ⟨⟨rfl, rfl⟩, ⟨Nat.le_of_ble_eq_true rfl, Nat.le_of_ble_eq_true rfl⟩, ⟨Nat.zero_le _, Nat.zero_le _⟩⟩ (fun v38 => ?_)
          refine j_istore (i := 8) (lv' := [some (.ref (E.2.1 b)), some (.int x1), some (.long x2), none, some (.long x4), none, some (.int x6), some (.int x7), some (.int v38)]) C dX0_aLeapFurther_41 (hn 8 (by decide)) rfl ?_
          refine j_lload C dX0_aLeapFurther_43 rfl ?_
          refine j_pc (pc2 := 45) rfl ?_
          refine j_iload C dX0_aLeapFurther_45 rfl ?_
          refine j_iconst (v := (-1 : Int32)) C dX0_aLeapFurther_47 rfl ?_
          refine j_icmp_ne (tgt := 55) C dX0_aLeapFurther_48 (by decide) ?_ ?_
          · refine j_lconst (v := (1 : Int64)) C dX0_aLeapFurther_55 rfl ?_
            refine j_iload C dX0_aLeapFurther_56 rfl ?_
            refine j_lshl C dX0_aLeapFurther_58 ?_
            refine j_mask [true, true, true, false, false, false, true, true, false] (lv' := [some (.ref (E.2.1 b)), some (.int x1), some (.long x2), none, none, none, some (.int x6), some (.int x7), none]) rfl ?_
            exact k59 (F_X0_aLeapFurther_k16 b M L kf6 n) ih x1 x2 x6 x7 x4 ((lshl (1 : Int64) v38))
          · refine j_lconst (v := (0 : Int64)) C dX0_aLeapFurther_51 rfl ?_
            refine j_goto (tgt := 59) C dX0_aLeapFurther_52 (by decide) ?_
            refine j_mask [true, true, true, false, false, false, true, true, false] (lv' := [some (.ref (E.2.1 b)), some (.int x1), some (.long x2), none, none, none, some (.int x6), some (.int x7), none]) rfl ?_
            exact k59 (F_X0_aLeapFurther_k16 b M L kf6 n) ih x1 x2 x6 x7 x4 ((0 : Int64))
  have k6 : ∀ (n : Nat) (x1 : Int32) (x2 : Int64) (x4 : Int64) (x6 : Int32), JF κ (PQ κ (Q_l (kγ κ) E M L) 0 0) 6 [some (.ref (E.2.1 b)), some (.int x1), some (.long x2), none, some (.long x4), none, some (.int x6), none, none] [] E M L 0 0 (F_X0_aLeapFurther_k6 b M L n x1 x2 x4 x6) := by
    intro n
    induction n with
    | zero => intros; exact jf_none
    | succ n ih =>
      intro x1 x2 x4 x6
      unfold F_X0_aLeapFurther_k6
      refine j_iload C dX0_aLeapFurther_6 rfl ?_
      refine j_bipush (v := (64 : Int32)) C dX0_aLeapFurther_8 (by decide) ?_
      refine j_icmp_ge (tgt := 74) C dX0_aLeapFurther_10 (by decide) ?_ ?_
      · refine j_lload C dX0_aLeapFurther_74 rfl ?_
        exact j_lret C dX0_aLeapFurther_76
      · refine j_iconst (v := (0 : Int32)) C dX0_aLeapFurther_13 rfl ?_
        refine j_istore (i := 7) (lv' := [some (.ref (E.2.1 b)), some (.int x1), some (.long x2), none, some (.long x4), none, some (.int x6), some (.int (0 : Int32)), none]) C dX0_aLeapFurther_14 (hn 7 (by decide)) rfl ?_
        exact k16 (F_X0_aLeapFurther_k6 b M L n) ih FU x1 x2 x4 x6 ((0 : Int32))
  unfold F_X0_aLeapFurther
  refine j_lload_n C dX0_aLeapFurther_0 rfl rfl ?_
  refine j_lstore (i := 4) (lv' := [some (.ref (E.2.1 b)), some (.int x1), some (.long x2), none, some (.long x2), none, none, none, none]) C dX0_aLeapFurther_1 (hn 5 (by decide)) rfl ?_
  refine j_iconst (v := (0 : Int32)) C dX0_aLeapFurther_3 rfl ?_
  refine j_istore (i := 6) (lv' := [some (.ref (E.2.1 b)), some (.int x1), some (.long x2), none, some (.long x2), none, some (.int (0 : Int32)), none, none]) C dX0_aLeapFurther_4 (hn 6 (by decide)) rfl ?_
  exact k6 FU x1 x2 x2 ((0 : Int32))
set_option maxRecDepth 100000 in
set_option maxHeartbeats 4000000 in
theorem ct_X5_inLowestTerms (γ : Gm) (E : Ev) (M : Mi) (L : Ml)  (x0 : Int32) (x1 : Int32) (x2 : Int32)  : Ct γ yX5_inLowestTerms cX5_inLowestTerms 7 (some .long) ⟨1, 0, 0, 40⟩ [.int x0, .int x1, .int x2] E M L (Q_l γ E M L) 0 0 (F_X5_inLowestTerms x0 x1 x2) := by
  refine ct_of (own := RX5) (lv := [some (.int x0), some (.int x1), some (.int x2), none, none, none, none]) (by decide +kernel) rfl rfl (Nat.le_of_ble_eq_true rfl) (fun κ C hγ hN => ?_)
  subst hγ
  have hn : ∀ i, i < 7 → i < knL κ := fun i h => by rw [hN]; exact h
  have k48 : ∀ (x3 : Int32) (s0 : Int32), JF κ (PQ κ (Q_l (kγ κ) E M L) 0 0) 48 [none, none, none, some (.int x3), none, none, none] [.int s0] E M L 0 0 (F_X5_inLowestTerms_k48  x3 s0) := by
    intro x3 s0
    unfold F_X5_inLowestTerms_k48
    refine j_iconst (v := (1 : Int32)) C dX5_inLowestTerms_48 rfl ?_
    refine j_iload_n C dX5_inLowestTerms_49 rfl rfl ?_
    refine j_max C dX5_inLowestTerms_50 tw_530 tw_531 tw_112 tw_532 (Nat.le_of_ble_eq_true rfl) (Nat.le_of_ble_eq_true rfl) ⟨Nat.zero_le _, Nat.zero_le _⟩ ?_
    refine j_idiv C dX5_inLowestTerms_53 ?_
    refine j_i2l C dX5_inLowestTerms_54 ?_
    exact j_lret C dX5_inLowestTerms_55
  have k39 : ∀ (x0 : Int32) (x1 : Int32) (x2 : Int32) (x3 : Int32), JF κ (PQ κ (Q_l (kγ κ) E M L) 0 0) 39 [some (.int x0), some (.int x1), some (.int x2), some (.int x3), none, none, none] [] E M L 0 0 (F_X5_inLowestTerms_k39  x0 x1 x2 x3) := by
    intro x0 x1 x2 x3
    unfold F_X5_inLowestTerms_k39
    refine j_iload_n C dX5_inLowestTerms_39 rfl rfl ?_
    refine j_if_ne (tgt := 47) C dX5_inLowestTerms_40 (by decide) ?_ ?_
    · refine j_iload_n C dX5_inLowestTerms_47 rfl rfl ?_
      refine j_mask [false, false, false, true, false, false, false] (lv' := [none, none, none, some (.int x3), none, none, none]) rfl ?_
      exact k48 x3 x1
    · refine j_iload_n C dX5_inLowestTerms_43 rfl rfl ?_
      refine j_goto (tgt := 48) C dX5_inLowestTerms_44 (by decide) ?_
      refine j_mask [false, false, false, true, false, false, false] (lv' := [none, none, none, some (.int x3), none, none, none]) rfl ?_
      exact k48 x3 x0
  have k8 : ∀ (n : Nat) (x0 : Int32) (x1 : Int32) (x2 : Int32) (x3 : Int32) (x4 : Int32) (x5 : Int32), JF κ (PQ κ (Q_l (kγ κ) E M L) 0 0) 8 [some (.int x0), some (.int x1), some (.int x2), some (.int x3), some (.int x4), some (.int x5), none] [] E M L 0 0 (F_X5_inLowestTerms_k8  n x0 x1 x2 x3 x4 x5) := by
    intro n
    induction n with
    | zero => intros; exact jf_none
    | succ n ih =>
      intro x0 x1 x2 x3 x4 x5
      unfold F_X5_inLowestTerms_k8
      refine j_iload C dX5_inLowestTerms_8 rfl ?_
      refine j_bipush (v := (64 : Int32)) C dX5_inLowestTerms_10 (by decide) ?_
      refine j_icmp_ge (tgt := 39) C dX5_inLowestTerms_12 (by decide) ?_ ?_
      · refine j_mask [true, true, true, true, false, false, false] (lv' := [some (.int x0), some (.int x1), some (.int x2), some (.int x3), none, none, none]) rfl ?_
        exact k39 x0 x1 x2 x3
      · refine j_iload C dX5_inLowestTerms_15 rfl ?_
        refine j_if_eq (tgt := 39) C dX5_inLowestTerms_17 (by decide) ?_ ?_
        · refine j_mask [true, true, true, true, false, false, false] (lv' := [some (.int x0), some (.int x1), some (.int x2), some (.int x3), none, none, none]) rfl ?_
          exact k39 x0 x1 x2 x3
        · refine j_iload_n C dX5_inLowestTerms_20 rfl rfl ?_
          refine j_iload C dX5_inLowestTerms_21 rfl ?_
          refine j_irem C dX5_inLowestTerms_23 ?_
          refine j_istore (i := 6) (lv' := [some (.int x0), some (.int x1), some (.int x2), some (.int x3), some (.int x4), some (.int x5), some (.int (irm x3 x4))]) C dX5_inLowestTerms_24 (hn 6 (by decide)) rfl ?_
          refine j_iload C dX5_inLowestTerms_26 rfl ?_
          refine j_istore_n (i := 3) (lv' := [some (.int x0), some (.int x1), some (.int x2), some (.int x4), some (.int x4), some (.int x5), some (.int (irm x3 x4))]) C dX5_inLowestTerms_28 rfl (hn 3 (by decide)) rfl ?_
          refine j_iload C dX5_inLowestTerms_29 rfl ?_
          refine j_pc (pc2 := 31) rfl ?_
          refine j_istore (i := 4) (lv' := [some (.int x0), some (.int x1), some (.int x2), some (.int x4), some (.int (irm x3 x4)), some (.int x5), some (.int (irm x3 x4))]) C dX5_inLowestTerms_31 (hn 4 (by decide)) rfl ?_
          refine j_iinc (i := 5) (v := (x5 + (1 : Int32))) (lv' := [some (.int x0), some (.int x1), some (.int x2), some (.int x4), some (.int (irm x3 x4)), some (.int (x5 + (1 : Int32))), some (.int (irm x3 x4))]) C dX5_inLowestTerms_33 rfl rfl (hn 5 (by decide)) rfl ?_
          refine j_goto (tgt := 8) C dX5_inLowestTerms_36 (by decide) ?_
          refine j_mask [true, true, true, true, true, true, false] (lv' := [some (.int x0), some (.int x1), some (.int x2), some (.int x4), some (.int (irm x3 x4)), some (.int (x5 + (1 : Int32))), none]) rfl ?_
          exact ih x0 x1 x2 x4 ((irm x3 x4)) ((x5 + (1 : Int32)))
  unfold F_X5_inLowestTerms
  refine j_iload_n C dX5_inLowestTerms_0 rfl rfl ?_
  refine j_istore_n (i := 3) (lv' := [some (.int x0), some (.int x1), some (.int x2), some (.int x1), none, none, none]) C dX5_inLowestTerms_1 rfl (hn 3 (by decide)) rfl ?_
  refine j_iload_n C dX5_inLowestTerms_2 rfl rfl ?_
  refine j_istore (i := 4) (lv' := [some (.int x0), some (.int x1), some (.int x2), some (.int x1), some (.int x0), none, none]) C dX5_inLowestTerms_3 (hn 4 (by decide)) rfl ?_
  refine j_iconst (v := (0 : Int32)) C dX5_inLowestTerms_5 rfl ?_
  refine j_istore (i := 5) (lv' := [some (.int x0), some (.int x1), some (.int x2), some (.int x1), some (.int x0), some (.int (0 : Int32)), none]) C dX5_inLowestTerms_6 (hn 5 (by decide)) rfl ?_
  exact k8 FU x0 x1 x2 x1 x0 ((0 : Int32))
set_option maxRecDepth 100000 in
set_option maxHeartbeats 4000000 in
theorem ct_J7_fill_53178 (γ : Gm) (E : Ev) (M : Mi) (L : Ml) (a0 n0 : Nat) (x1 : Int32) (ha0 : E.1[a0]? = some (.inr (0, n0))) : Ct γ yJ7_fill_53178 cJ7_fill_53178 4 none ⟨0, 0, 0, 0⟩ [.ref (E.2.1 a0), .int x1] E M L (Q_vw γ E) 0 0 (F_J7_fill_53178 a0 n0 M L x1) := by
  refine ct_of (own := RJ7) (lv := [some (.ref (E.2.1 a0)), some (.int x1), none, none]) (by decide +kernel) rfl rfl (Nat.le_of_ble_eq_true rfl) (fun κ C hγ hN => ?_)
  subst hγ
  have hn : ∀ i, i < 4 → i < knL κ := fun i h => by rw [hN]; exact h
  have k5 : ∀ (n : Nat) (M : Mi) (L : Ml) (x1 : Int32) (x2 : Int32) (x3 : Int32), JF κ (PQ κ (Q_vw (kγ κ) E) 0 0) 5 [some (.ref (E.2.1 a0)), some (.int x1), some (.int x2), some (.int x3)] [] E M L 0 0 (F_J7_fill_53178_k5 a0 n0 n M L x1 x2 x3) := by
    intro n
    induction n with
    | zero => intros; exact jf_none
    | succ n ih =>
      intro M L x1 x2 x3
      unfold F_J7_fill_53178_k5
      refine j_iload_n C dJ7_fill_53178_5 rfl rfl ?_
      refine j_iload_n C dJ7_fill_53178_6 rfl rfl ?_
      refine j_icmp_ge (tgt := 20) C dJ7_fill_53178_7 (by decide) ?_ ?_
      · exact j_vretw C dJ7_fill_53178_20
      · refine j_aload_n C dJ7_fill_53178_10 rfl rfl ?_
        refine j_iload_n C dJ7_fill_53178_11 rfl rfl ?_
        refine j_iload_n C dJ7_fill_53178_12 rfl rfl ?_
        refine j_iast C dJ7_fill_53178_13 ha0 ?_
        refine j_iinc (i := 2) (v := (x2 + (1 : Int32))) (lv' := [some (.ref (E.2.1 a0)), some (.int x1), some (.int (x2 + (1 : Int32))), some (.int x3)]) C dJ7_fill_53178_14 rfl rfl (hn 2 (by decide)) rfl ?_
        refine j_goto (tgt := 5) C dJ7_fill_53178_17 (by decide) ?_
        exact ih ((up2 M a0 (Int32.toNatClampNeg x2) x1)) L x1 ((x2 + (1 : Int32))) x3
  unfold F_J7_fill_53178
  refine j_iconst (v := (0 : Int32)) C dJ7_fill_53178_0 rfl ?_
  refine j_istore_n (i := 2) (lv' := [some (.ref (E.2.1 a0)), some (.int x1), some (.int (0 : Int32)), none]) C dJ7_fill_53178_1 rfl (hn 2 (by decide)) rfl ?_
  refine j_aload_n C dJ7_fill_53178_2 rfl rfl ?_
  refine j_alen C dJ7_fill_53178_3 ha0 ?_
  refine j_istore_n (i := 3) (lv' := [some (.ref (E.2.1 a0)), some (.int x1), some (.int (0 : Int32)), some (.int (nI n0))]) C dJ7_fill_53178_4 rfl (hn 3 (by decide)) rfl ?_
  exact k5 FU M L x1 ((0 : Int32)) ((nI n0))
set_option maxRecDepth 100000 in
set_option maxHeartbeats 4000000 in
theorem ct_X0_whereDrawn (γ : Gm) (E : Ev) (M : Mi) (L : Ml) (b : Nat) (x1 : Int32) (x2 : Int32) (x3 : Int32) (h0 : FAt E b) : Ct γ yX0_whereDrawn cX0_whereDrawn 8 (some .int) ⟨3, 0, 0, 70⟩ [.ref (E.2.1 b), .int x1, .int x2, .int x3] E M L (Q_i γ E M L) 0 0 (F_X0_whereDrawn b M L x1 x2 x3) := by
  refine ct_of (own := RX0) (lv := [some (.ref (E.2.1 b)), some (.int x1), some (.int x2), some (.int x3), none, none, none, none]) (by decide +kernel) rfl rfl (Nat.le_of_ble_eq_true rfl) (fun κ C hγ hN => ?_)
  subst hγ
  have hn : ∀ i, i < 8 → i < knL κ := fun i h => by rw [hN]; exact h
  have k61 : ∀ (kf14 : Int32 → Int32 → Int32 → Int32 → Int32 → Option (Int32)), (∀ (x2 : Int32) (x3 : Int32) (x4 : Int32) (x5 : Int32) (x6 : Int32), JF κ (PQ κ (Q_i (kγ κ) E M L) 0 0) 14 [some (.ref (E.2.1 b)), none, some (.int x2), some (.int x3), some (.int x4), some (.int x5), some (.int x6), none] [] E M L 0 0 (kf14 x2 x3 x4 x5 x6)) → ∀ (x2 : Int32) (x3 : Int32) (x4 : Int32) (x6 : Int32) (s0 : Int32), JF κ (PQ κ (Q_i (kγ κ) E M L) 0 0) 61 [some (.ref (E.2.1 b)), none, some (.int x2), some (.int x3), some (.int x4), none, some (.int x6), none] [.int s0] E M L 0 0 (F_X0_whereDrawn_k61 b M L kf14 x2 x3 x4 x6 s0) := by
    intro kf14 hkf14 x2 x3 x4 x6 s0
    unfold F_X0_whereDrawn_k61
    refine j_istore (i := 5) (lv' := [some (.ref (E.2.1 b)), none, some (.int x2), some (.int x3), some (.int x4), some (.int s0), some (.int x6), none]) C dX0_whereDrawn_61 (hn 5 (by decide)) rfl ?_
    refine j_iinc (i := 6) (v := (x6 + (1 : Int32))) (lv' := [some (.ref (E.2.1 b)), none, some (.int x2), some (.int x3), some (.int x4), some (.int s0), some (.int (x6 + (1 : Int32))), none]) C dX0_whereDrawn_63 rfl rfl (hn 6 (by decide)) rfl ?_
    refine j_goto (tgt := 14) C dX0_whereDrawn_66 (by decide) ?_
    exact hkf14 x2 x3 x4 s0 ((x6 + (1 : Int32)))
  have k14 : ∀ (n : Nat) (x2 : Int32) (x3 : Int32) (x4 : Int32) (x5 : Int32) (x6 : Int32), JF κ (PQ κ (Q_i (kγ κ) E M L) 0 0) 14 [some (.ref (E.2.1 b)), none, some (.int x2), some (.int x3), some (.int x4), some (.int x5), some (.int x6), none] [] E M L 0 0 (F_X0_whereDrawn_k14 b M L n x2 x3 x4 x5 x6) := by
    intro n
    induction n with
    | zero => intros; exact jf_none
    | succ n ih =>
      intro x2 x3 x4 x5 x6
      unfold F_X0_whereDrawn_k14
      refine j_iload C dX0_whereDrawn_14 rfl ?_
      refine j_iload_n C dX0_whereDrawn_16 rfl rfl ?_
      refine j_icmp_ge (tgt := 69) C dX0_whereDrawn_17 (by decide) ?_ ?_
      · refine j_iload C dX0_whereDrawn_69 rfl ?_
        exact j_iret C dX0_whereDrawn_71
      · refine j_iload C dX0_whereDrawn_20 rfl ?_
        refine j_ldc (v := (1103515245 : Int32)) C dX0_whereDrawn_22 tw_750 ?_
        refine j_imul C dX0_whereDrawn_24 ?_
        refine j_sipush (v := (12345 : Int32)) C dX0_whereDrawn_25 (by decide) ?_
        refine j_iadd C dX0_whereDrawn_28 ?_
        refine j_nmi (fun z29 => ?_)
        refine j_istore (i := 4) (lv' := [some (.ref (E.2.1 b)), none, some (.int x2), some (.int x3), some (.int z29), some (.int x5), some (.int x6), none]) C dX0_whereDrawn_29 (hn 4 (by decide)) rfl ?_
        refine j_aload_n C dX0_whereDrawn_31 rfl rfl ?_
        refine j_pc (pc2 := 32) rfl ?_
        refine j_iload_n C dX0_whereDrawn_32 rfl rfl ?_
        refine j_iload C dX0_whereDrawn_33 rfl ?_
        refine j_iload C dX0_whereDrawn_35 rfl ?_
        refine j_bipush (v := (9 : Int32)) C dX0_whereDrawn_37 (by decide) ?_
        refine j_iushr C dX0_whereDrawn_39 ?_
        refine j_bipush (v := (8 : Int32)) C dX0_whereDrawn_40 (by decide) ?_
        refine j_iremc C dX0_whereDrawn_42 (by decide) ?_
        refine j_callV_i (st := []) C dX0_whereDrawn_43 (ct_X0_landing (kγ κ) E M L b x2 x5 (irm (iushr z29 (9 : Int32)) (8 : Int32)) h0) mi_X0_landing tw_669 FC0 (FAt.S h0) rfl rfl (Nat.le_of_ble_eq_true rfl) ⟨⟨rfl, rfl⟩, ⟨Nat.le_of_ble_eq_true rfl, Nat.le_of_ble_eq_true rfl⟩, ⟨Nat.zero_le _, Nat.zero_le _⟩⟩ (fun v43 => ?_)
        refine j_pc (pc2 := 46) rfl ?_
        refine j_istore (i := 7) (lv' := [some (.ref (E.2.1 b)), none, some (.int x2), some (.int x3), some (.int z29), some (.int x5), some (.int x6), some (.int v43)]) C dX0_whereDrawn_46 (hn 7 (by decide)) rfl ?_
        refine j_iload C dX0_whereDrawn_48 rfl ?_
        refine j_iconst (v := (-1 : Int32)) C dX0_whereDrawn_50 rfl ?_
        refine j_icmp_ne (tgt := 59) C dX0_whereDrawn_51 (by decide) ?_ ?_
        · refine j_iload C dX0_whereDrawn_59 rfl ?_
          refine j_mask [true, false, true, true, true, false, true, false] (lv' := [some (.ref (E.2.1 b)), none, some (.int x2), some (.int x3), some (.int z29), none, some (.int x6), none]) rfl ?_
          exact k61 (F_X0_whereDrawn_k14 b M L n) ih x2 x3 z29 x6 v43
        · refine j_iload C dX0_whereDrawn_54 rfl ?_
          refine j_goto (tgt := 61) C dX0_whereDrawn_56 (by decide) ?_
          refine j_mask [true, false, true, true, true, false, true, false] (lv' := [some (.ref (E.2.1 b)), none, some (.int x2), some (.int x3), some (.int z29), none, some (.int x6), none]) rfl ?_
          exact k61 (F_X0_whereDrawn_k14 b M L n) ih x2 x3 z29 x6 x5
  unfold F_X0_whereDrawn
  refine j_iload_n C dX0_whereDrawn_0 rfl rfl ?_
  refine j_istore (i := 4) (lv' := [some (.ref (E.2.1 b)), some (.int x1), some (.int x2), some (.int x3), some (.int x1), none, none, none]) C dX0_whereDrawn_1 (hn 4 (by decide)) rfl ?_
  refine j_aload_n C dX0_whereDrawn_3 rfl rfl ?_
  refine j_getR (j := 7) C dX0_whereDrawn_4 FC0 (FAt.S h0) (by decide) rfl (FAt.R_on h0) tw_147 ?_
  refine j_iload_n C dX0_whereDrawn_7 rfl rfl ?_
  refine j_iald C dX0_whereDrawn_8 (FAt.P_on h0) ?_
  refine j_istore (i := 5) (lv' := [some (.ref (E.2.1 b)), some (.int x1), some (.int x2), some (.int x3), some (.int x1), some (.int (M (b + 3) (Int32.toNatClampNeg x2))), none, none]) C dX0_whereDrawn_9 (hn 5 (by decide)) rfl ?_
  refine j_pc (pc2 := 11) rfl ?_
  refine j_iconst (v := (0 : Int32)) C dX0_whereDrawn_11 rfl ?_
  refine j_istore (i := 6) (lv' := [some (.ref (E.2.1 b)), some (.int x1), some (.int x2), some (.int x3), some (.int x1), some (.int (M (b + 3) (Int32.toNatClampNeg x2))), some (.int (0 : Int32)), none]) C dX0_whereDrawn_12 (hn 6 (by decide)) rfl ?_
  refine j_mask [true, false, true, true, true, true, true, false] (lv' := [some (.ref (E.2.1 b)), none, some (.int x2), some (.int x3), some (.int x1), some (.int (M (b + 3) (Int32.toNatClampNeg x2))), some (.int (0 : Int32)), none]) rfl ?_
  exact k14 FU x2 x3 x1 ((M (b + 3) (Int32.toNatClampNeg x2))) ((0 : Int32))
