set_option maxRecDepth 100000 in
set_option maxHeartbeats 4000000 in
theorem ct_X6_says (γ : Gm) (E : Ev) (M : Mi) (L : Ml)  (x1 : Int32) (x2 : Int32) (h0 : MAt E) : Ct γ yX6_says cX6_says 3 (some .int) ⟨42, 0, 0, 930⟩ [.ref (E.2.1 0), .int x1, .int x2] E M L (Q_iw γ E) 0 0 (F_X6_says M L x1 x2) := by
  refine ct_of (own := RX6) (lv := [some (.ref (E.2.1 0)), some (.int x1), some (.int x2)]) (by decide +kernel) rfl rfl (Nat.le_of_ble_eq_true rfl) (fun κ C hγ hN => ?_)
  subst hγ
  have hn : ∀ i, i < 3 → i < knL κ := fun i h => by rw [hN]; exact h
  have k88 : ∀ (M : Mi) (L : Ml) (s0 : Int32) (s1 : Int32), JF κ (PQ κ (Q_iw (kγ κ) E) 0 0) 88 [none, none, none] [.int s1, .int s0] E M L 0 0 (F_X6_says_k88  M L s0 s1) := by
    intro M L s0 s1
    unfold F_X6_says_k88
    refine j_bipush (v := (99 : Int32)) C dX6_says_88 (by decide) ?_
    refine j_callS_i (st := []) C dX6_says_90 (ct_X6_within (kγ κ) E M L s0 s1 (99 : Int32)) mi_X6_within tw_1169 rfl rfl (Nat.le_of_ble_eq_true rfl) ⟨⟨rfl, rfl⟩, ⟨Nat.le_of_ble_eq_true rfl, Nat.le_of_ble_eq_true rfl⟩, ⟨Nat.zero_le _, Nat.zero_le _⟩⟩ (fun v90 => ?_)
    exact j_iretw C dX6_says_93
  unfold F_X6_says
  refine j_aload_n C dX6_says_0 rfl rfl ?_
  refine j_aload_n C dX6_says_1 rfl rfl ?_
  refine j_getR (j := 10) C dX6_says_2 FC6 (MAt.S h0) (by decide) rfl (MAt.R_rows h0) tw_813 ?_
  refine j_iconst (v := (4 : Int32)) C dX6_says_5 rfl ?_
  refine j_iload_n C dX6_says_6 rfl rfl ?_
  refine j_imul C dX6_says_7 ?_
  refine j_iconst (v := (2 : Int32)) C dX6_says_8 rfl ?_
  refine j_pc (pc2 := 9) rfl ?_
  refine j_iadd C dX6_says_9 ?_
  refine j_iald C dX6_says_10 (MAt.P_rows h0) ?_
  refine j_putI (j := 13) C dX6_says_11 FC6 (MAt.S h0) (by decide) rfl rfl rfl rfl tw_816 ?_
  refine j_aload_n C dX6_says_14 rfl rfl ?_
  refine j_aload_n C dX6_says_15 rfl rfl ?_
  refine j_iload_n C dX6_says_16 rfl rfl ?_
  refine j_callV_i (st := [.ref (E.2.1 0)]) C dX6_says_17 (ct_X6_onOf (kγ κ) E (up2 M 0 13 (M 4 (Int32.toNatClampNeg (((4 : Int32) * x2) + (2 : Int32))))) L x2 h0) mi_X6_onOf tw_955 FC6 (MAt.S h0) rfl rfl (Nat.le_of_ble_eq_true rfl) ⟨⟨rfl, rfl⟩, ⟨Nat.le_of_ble_eq_true rfl, Nat.le_of_ble_eq_true rfl⟩, ⟨Nat.zero_le _, Nat.zero_le _⟩⟩ (fun v17 => ?_)
  refine j_bipush (v := (8 : Int32)) C dX6_says_20 (by decide) ?_
  refine j_pc (pc2 := 22) rfl ?_
  refine j_iremc C dX6_says_22 (by decide) ?_
  refine j_putI (j := 14) C dX6_says_23 FC6 (MAt.S h0) (by decide) rfl rfl rfl rfl tw_817 ?_
  refine j_aload_n C dX6_says_26 rfl rfl ?_
  refine j_aload_n C dX6_says_27 rfl rfl ?_
  refine j_iload_n C dX6_says_28 rfl rfl ?_
  refine j_callV_i (st := [.ref (E.2.1 0)]) C dX6_says_29 (ct_X6_onOf (kγ κ) E (up2 (up2 M 0 13 (M 4 (Int32.toNatClampNeg (((4 : Int32) * x2) + (2 : Int32))))) 0 14 (irm v17 (8 : Int32))) L x2 h0) mi_X6_onOf tw_955 FC6 (MAt.S h0) rfl rfl (Nat.le_of_ble_eq_true rfl) ⟨⟨rfl, rfl⟩, ⟨Nat.le_of_ble_eq_true rfl, Nat.le_of_ble_eq_true rfl⟩, ⟨Nat.zero_le _, Nat.zero_le _⟩⟩ (fun v29 => ?_)
  refine j_bipush (v := (8 : Int32)) C dX6_says_32 (by decide) ?_
  refine j_idivc C dX6_says_34 (by decide) ?_
  refine j_pc (pc2 := 35) rfl ?_
  refine j_putI (j := 15) C dX6_says_35 FC6 (MAt.S h0) (by decide) rfl rfl rfl rfl tw_818 ?_
  refine j_aload_n C dX6_says_38 rfl rfl ?_
  refine j_aload_n C dX6_says_39 rfl rfl ?_
  refine j_getR (j := 10) C dX6_says_40 FC6 (MAt.S h0) (by decide) rfl (MAt.R_rows h0) tw_813 ?_
  refine j_iconst (v := (4 : Int32)) C dX6_says_43 rfl ?_
  refine j_iload_n C dX6_says_44 rfl rfl ?_
  refine j_imul C dX6_says_45 ?_
  refine j_iald C dX6_says_46 (MAt.P_rows h0) ?_
  refine j_pc (pc2 := 47) rfl ?_
  refine j_putI (j := 16) C dX6_says_47 FC6 (MAt.S h0) (by decide) rfl rfl rfl rfl tw_819 ?_
  refine j_aload_n C dX6_says_50 rfl rfl ?_
  refine j_aload_n C dX6_says_51 rfl rfl ?_
  refine j_getI (j := 7) C dX6_says_52 FC6 (MAt.S h0) (by decide) rfl tw_810 ?_
  refine j_putI (j := 17) C dX6_says_55 FC6 (MAt.S h0) (by decide) rfl rfl rfl rfl tw_820 ?_
  refine j_aload_n C dX6_says_58 rfl rfl ?_
  refine j_aload_n C dX6_says_59 rfl rfl ?_
  refine j_getL (j := 9) C dX6_says_60 FC6 (MAt.S h0) (by decide) rfl tw_812 ?_
  refine j_pc (pc2 := 63) rfl ?_
  refine j_callS_i (st := [.ref (E.2.1 0)]) C dX6_says_63 (ct_X6_bitsOf (kγ κ) E (up2 (up2 (up2 (up2 (up2 M 0 13 (M 4 (Int32.toNatClampNeg (((4 : Int32) * x2) + (2 : Int32))))) 0 14 (irm v17 (8 : Int32))) 0 15 (v29 / (8 : Int32))) 0 16 ((up2 (up2 (up2 M 0 13 (M 4 (Int32.toNatClampNeg (((4 : Int32) * x2) + (2 : Int32))))) 0 14 (irm v17 (8 : Int32))) 0 15 (v29 / (8 : Int32))) 4 (Int32.toNatClampNeg ((4 : Int32) * x2)))) 0 17 ((up2 (up2 (up2 (up2 M 0 13 (M 4 (Int32.toNatClampNeg (((4 : Int32) * x2) + (2 : Int32))))) 0 14 (irm v17 (8 : Int32))) 0 15 (v29 / (8 : Int32))) 0 16 ((up2 (up2 (up2 M 0 13 (M 4 (Int32.toNatClampNeg (((4 : Int32) * x2) + (2 : Int32))))) 0 14 (irm v17 (8 : Int32))) 0 15 (v29 / (8 : Int32))) 4 (Int32.toNatClampNeg ((4 : Int32) * x2)))) 0 7)) L (L 0 9)) mi_X6_bitsOf tw_975 rfl rfl (Nat.le_of_ble_eq_true rfl) ⟨⟨rfl, rfl⟩, ⟨Nat.le_of_ble_eq_true rfl, Nat.le_of_ble_eq_true rfl⟩, ⟨Nat.zero_le _, Nat.zero_le _⟩⟩ (fun v63 => ?_)
  refine j_putI (j := 18) C dX6_says_66 FC6 (MAt.S h0) (by decide) rfl rfl rfl rfl tw_821 ?_
  refine j_aload_n C dX6_says_69 rfl rfl ?_
  refine j_aload_n C dX6_says_70 rfl rfl ?_
  refine j_getI (j := 4) C dX6_says_71 FC6 (MAt.S h0) (by decide) rfl tw_807 ?_
  refine j_iload_n C dX6_says_74 rfl rfl ?_
  refine j_callV_iw (st := []) C dX6_says_75 (ct_X6_read (kγ κ) E (up2 (up2 (up2 (up2 (up2 (up2 M 0 13 (M 4 (Int32.toNatClampNeg (((4 : Int32) * x2) + (2 : Int32))))) 0 14 (irm v17 (8 : Int32))) 0 15 (v29 / (8 : Int32))) 0 16 ((up2 (up2 (up2 M 0 13 (M 4 (Int32.toNatClampNeg (((4 : Int32) * x2) + (2 : Int32))))) 0 14 (irm v17 (8 : Int32))) 0 15 (v29 / (8 : Int32))) 4 (Int32.toNatClampNeg ((4 : Int32) * x2)))) 0 17 ((up2 (up2 (up2 (up2 M 0 13 (M 4 (Int32.toNatClampNeg (((4 : Int32) * x2) + (2 : Int32))))) 0 14 (irm v17 (8 : Int32))) 0 15 (v29 / (8 : Int32))) 0 16 ((up2 (up2 (up2 M 0 13 (M 4 (Int32.toNatClampNeg (((4 : Int32) * x2) + (2 : Int32))))) 0 14 (irm v17 (8 : Int32))) 0 15 (v29 / (8 : Int32))) 4 (Int32.toNatClampNeg ((4 : Int32) * x2)))) 0 7)) 0 18 v63) L ((up2 (up2 (up2 (up2 (up2 (up2 M 0 13 (M 4 (Int32.toNatClampNeg (((4 : Int32) * x2) + (2 : Int32))))) 0 14 (irm v17 (8 : Int32))) 0 15 (v29 / (8 : Int32))) 0 16 ((up2 (up2 (up2 M 0 13 (M 4 (Int32.toNatClampNeg (((4 : Int32) * x2) + (2 : Int32))))) 0 14 (irm v17 (8 : Int32))) 0 15 (v29 / (8 : Int32))) 4 (Int32.toNatClampNeg ((4 : Int32) * x2)))) 0 17 ((up2 (up2 (up2 (up2 M 0 13 (M 4 (Int32.toNatClampNeg (((4 : Int32) * x2) + (2 : Int32))))) 0 14 (irm v17 (8 : Int32))) 0 15 (v29 / (8 : Int32))) 0 16 ((up2 (up2 (up2 M 0 13 (M 4 (Int32.toNatClampNeg (((4 : Int32) * x2) + (2 : Int32))))) 0 14 (irm v17 (8 : Int32))) 0 15 (v29 / (8 : Int32))) 4 (Int32.toNatClampNeg ((4 : Int32) * x2)))) 0 7)) 0 18 v63) 0 4) x1 h0) mi_X6_read tw_978 FC6 (MAt.S h0) rfl rfl (Nat.le_of_ble_eq_true rfl) ⟨⟨rfl, rfl⟩, ⟨Nat.le_of_ble_eq_true rfl, Nat.le_of_ble_eq_true rfl⟩, ⟨Nat.zero_le _, Nat.zero_le _⟩⟩ (fun r75 => ?_)
  refine j_iload_n C dX6_says_78 rfl rfl ?_
  refine j_pc (pc2 := 79) rfl ?_
  refine j_if_ne (tgt := 87) C dX6_says_79 (by decide) ?_ ?_
  · refine j_iconst (v := (0 : Int32)) C dX6_says_87 rfl ?_
    refine j_mask [false, false, false] (lv' := [none, none, none]) rfl ?_
    exact k88 r75.2.1 r75.2.2 r75.1 ((0 : Int32))
  · refine j_bipush (v := (-99 : Int32)) C dX6_says_82 (by decide) ?_
    refine j_goto (tgt := 88) C dX6_says_84 (by decide) ?_
    refine j_mask [false, false, false] (lv' := [none, none, none]) rfl ?_
    exact k88 r75.2.1 r75.2.2 r75.1 ((-99 : Int32))
set_option maxRecDepth 100000 in
set_option maxHeartbeats 4000000 in
theorem ct_X6_restsOf (γ : Gm) (E : Ev) (M : Mi) (L : Ml)  (x1 : Int32) (h0 : MAt E) : Ct γ yX6_restsOf cX6_restsOf 4 (some .int) ⟨43, 0, 0, 952⟩ [.ref (E.2.1 0), .int x1] E M L (Q_iw γ E) 0 0 (F_X6_restsOf M L x1) := by
  refine ct_of (own := RX6) (lv := [some (.ref (E.2.1 0)), some (.int x1), none, none]) (by decide +kernel) rfl rfl (Nat.le_of_ble_eq_true rfl) (fun κ C hγ hN => ?_)
  subst hγ
  have hn : ∀ i, i < 4 → i < knL κ := fun i h => by rw [hN]; exact h
  have k21 : ∀ (M : Mi) (L : Ml) (x1 : Int32) (x2 : Int32), JF κ (PQ κ (Q_iw (kγ κ) E) 0 0) 21 [some (.ref (E.2.1 0)), some (.int x1), some (.int x2), none] [] E M L 0 0 (F_X6_restsOf_k21  M L x1 x2) := by
    intro M L x1 x2
    unfold F_X6_restsOf_k21
    refine j_iload_n C dX6_restsOf_21 rfl rfl ?_
    refine j_iconst (v := (4 : Int32)) C dX6_restsOf_22 rfl ?_
    refine j_icmp_ne (tgt := 37) C dX6_restsOf_23 (by decide) ?_ ?_
    · refine j_iconst (v := (0 : Int32)) C dX6_restsOf_37 rfl ?_
      exact j_iretw C dX6_restsOf_38
    · refine j_aload_n C dX6_restsOf_26 rfl rfl ?_
      refine j_getR (j := 10) C dX6_restsOf_27 FC6 (MAt.S h0) (by decide) rfl (MAt.R_rows h0) tw_813 ?_
      refine j_iconst (v := (4 : Int32)) C dX6_restsOf_30 rfl ?_
      refine j_iload_n C dX6_restsOf_31 rfl rfl ?_
      refine j_imul C dX6_restsOf_32 ?_
      refine j_iald C dX6_restsOf_33 (MAt.P_rows h0) ?_
      refine j_goto (tgt := 38) C dX6_restsOf_34 (by decide) ?_
      exact j_iretw C dX6_restsOf_38
  have k69 : ∀ (M : Mi) (L : Ml) (s0 : Int32), JF κ (PQ κ (Q_iw (kγ κ) E) 0 0) 69 [none, none, none, none] [.int s0] E M L 0 0 (F_X6_restsOf_k69  M L s0) := by
    intro M L s0
    unfold F_X6_restsOf_k69
    refine j_iconst (v := (0 : Int32)) C dX6_restsOf_69 rfl ?_
    refine j_bipush (v := (99 : Int32)) C dX6_restsOf_70 (by decide) ?_
    refine j_callS_i (st := []) C dX6_restsOf_72 (ct_X6_within (kγ κ) E M L s0 (0 : Int32) (99 : Int32)) mi_X6_within tw_1169 rfl rfl (Nat.le_of_ble_eq_true rfl) ⟨⟨rfl, rfl⟩, ⟨Nat.le_of_ble_eq_true rfl, Nat.le_of_ble_eq_true rfl⟩, ⟨Nat.zero_le _, Nat.zero_le _⟩⟩ (fun v72 => ?_)
    exact j_iretw C dX6_restsOf_75
  unfold F_X6_restsOf
  refine j_aload_n C dX6_restsOf_0 rfl rfl ?_
  refine j_getR (j := 10) C dX6_restsOf_1 FC6 (MAt.S h0) (by decide) rfl (MAt.R_rows h0) tw_813 ?_
  refine j_iconst (v := (4 : Int32)) C dX6_restsOf_4 rfl ?_
  refine j_iload_n C dX6_restsOf_5 rfl rfl ?_
  refine j_imul C dX6_restsOf_6 ?_
  refine j_iconst (v := (3 : Int32)) C dX6_restsOf_7 rfl ?_
  refine j_iadd C dX6_restsOf_8 ?_
  refine j_pc (pc2 := 9) rfl ?_
  refine j_iald C dX6_restsOf_9 (MAt.P_rows h0) ?_
  refine j_nmi (fun z10 => ?_)
  refine j_istore_n (i := 2) (lv' := [some (.ref (E.2.1 0)), some (.int x1), some (.int z10), none]) C dX6_restsOf_10 rfl (hn 2 (by decide)) rfl ?_
  refine j_iload_n C dX6_restsOf_11 rfl rfl ?_
  refine j_iconst (v := (2 : Int32)) C dX6_restsOf_12 rfl ?_
  refine j_icmp_eq (tgt := 21) C dX6_restsOf_13 (by decide) ?_ ?_
  · exact k21 M L x1 z10
  · refine j_iload_n C dX6_restsOf_16 rfl rfl ?_
    refine j_iconst (v := (4 : Int32)) C dX6_restsOf_17 rfl ?_
    refine j_icmp_ne (tgt := 39) C dX6_restsOf_18 (by decide) ?_ ?_
    · refine j_aload_n C dX6_restsOf_39 rfl rfl ?_
      refine j_iconst (v := (2 : Int32)) C dX6_restsOf_40 rfl ?_
      refine j_iload_n C dX6_restsOf_41 rfl rfl ?_
      refine j_callV_iw (st := []) C dX6_restsOf_42 (ct_X6_says (kγ κ) E M L (2 : Int32) x1 h0) mi_X6_says tw_971 FC6 (MAt.S h0) rfl rfl (Nat.le_of_ble_eq_true rfl) ⟨⟨rfl, rfl⟩, ⟨Nat.le_of_ble_eq_true rfl, Nat.le_of_ble_eq_true rfl⟩, ⟨Nat.zero_le _, Nat.zero_le _⟩⟩ (fun r42 => ?_)
      refine j_istore_n (i := 3) (lv' := [some (.ref (E.2.1 0)), some (.int x1), some (.int z10), some (.int r42.1)]) C dX6_restsOf_45 rfl (hn 3 (by decide)) rfl ?_
      refine j_iload_n C dX6_restsOf_46 rfl rfl ?_
      refine j_iconst (v := (3 : Int32)) C dX6_restsOf_47 rfl ?_
      refine j_pc (pc2 := 48) rfl ?_
      refine j_icmp_ne (tgt := 57) C dX6_restsOf_48 (by decide) ?_ ?_
      · refine j_iload_n C dX6_restsOf_57 rfl rfl ?_
        refine j_iconst (v := (5 : Int32)) C dX6_restsOf_58 rfl ?_
        refine j_icmp_ne (tgt := 68) C dX6_restsOf_59 (by decide) ?_ ?_
        · refine j_iload_n C dX6_restsOf_68 rfl rfl ?_
          refine j_mask [false, false, false, false] (lv' := [none, none, none, none]) rfl ?_
          exact k69 r42.2.1 r42.2.2 r42.1
        · refine j_iconst (v := (2 : Int32)) C dX6_restsOf_62 rfl ?_
          refine j_iload_n C dX6_restsOf_63 rfl rfl ?_
          refine j_imul C dX6_restsOf_64 ?_
          refine j_goto (tgt := 69) C dX6_restsOf_65 (by decide) ?_
          refine j_mask [false, false, false, false] (lv' := [none, none, none, none]) rfl ?_
          exact k69 r42.2.1 r42.2.2 (((2 : Int32) * r42.1))
      · refine j_iload_n C dX6_restsOf_51 rfl rfl ?_
        refine j_iconst (v := (2 : Int32)) C dX6_restsOf_52 rfl ?_
        refine j_idivc C dX6_restsOf_53 (by decide) ?_
        refine j_goto (tgt := 69) C dX6_restsOf_54 (by decide) ?_
        refine j_mask [false, false, false, false] (lv' := [none, none, none, none]) rfl ?_
        exact k69 r42.2.1 r42.2.2 ((r42.1 / (2 : Int32)))
    · exact k21 M L x1 z10
set_option maxRecDepth 100000 in
set_option maxHeartbeats 4000000 in
theorem ct_X6_tiresOf (γ : Gm) (E : Ev) (M : Mi) (L : Ml)  (x1 : Int32) (h0 : MAt E) : Ct γ yX6_tiresOf cX6_tiresOf 4 (some .int) ⟨43, 0, 0, 952⟩ [.ref (E.2.1 0), .int x1] E M L (Q_iw γ E) 0 0 (F_X6_tiresOf M L x1) := by
  refine ct_of (own := RX6) (lv := [some (.ref (E.2.1 0)), some (.int x1), none, none]) (by decide +kernel) rfl rfl (Nat.le_of_ble_eq_true rfl) (fun κ C hγ hN => ?_)
  subst hγ
  have hn : ∀ i, i < 4 → i < knL κ := fun i h => by rw [hN]; exact h
  have k86 : ∀ (M : Mi) (L : Ml) (s0 : Int32), JF κ (PQ κ (Q_iw (kγ κ) E) 0 0) 86 [none, none, none, none] [.int s0] E M L 0 0 (F_X6_tiresOf_k86  M L s0) := by
    intro M L s0
    unfold F_X6_tiresOf_k86
    refine j_iconst (v := (0 : Int32)) C dX6_tiresOf_86 rfl ?_
    refine j_bipush (v := (99 : Int32)) C dX6_tiresOf_87 (by decide) ?_
    refine j_callS_i (st := []) C dX6_tiresOf_89 (ct_X6_within (kγ κ) E M L s0 (0 : Int32) (99 : Int32)) mi_X6_within tw_1169 rfl rfl (Nat.le_of_ble_eq_true rfl) ⟨⟨rfl, rfl⟩, ⟨Nat.le_of_ble_eq_true rfl, Nat.le_of_ble_eq_true rfl⟩, ⟨Nat.zero_le _, Nat.zero_le _⟩⟩ (fun v89 => ?_)
    exact j_iretw C dX6_tiresOf_92
  unfold F_X6_tiresOf
  refine j_aload_n C dX6_tiresOf_0 rfl rfl ?_
  refine j_getR (j := 10) C dX6_tiresOf_1 FC6 (MAt.S h0) (by decide) rfl (MAt.R_rows h0) tw_813 ?_
  refine j_iconst (v := (4 : Int32)) C dX6_tiresOf_4 rfl ?_
  refine j_iload_n C dX6_tiresOf_5 rfl rfl ?_
  refine j_imul C dX6_tiresOf_6 ?_
  refine j_iconst (v := (3 : Int32)) C dX6_tiresOf_7 rfl ?_
  refine j_iadd C dX6_tiresOf_8 ?_
  refine j_pc (pc2 := 9) rfl ?_
  refine j_iald C dX6_tiresOf_9 (MAt.P_rows h0) ?_
  refine j_nmi (fun z10 => ?_)
  refine j_istore_n (i := 2) (lv' := [some (.ref (E.2.1 0)), some (.int x1), some (.int z10), none]) C dX6_tiresOf_10 rfl (hn 2 (by decide)) rfl ?_
  refine j_aload_n C dX6_tiresOf_11 rfl rfl ?_
  refine j_iconst (v := (1 : Int32)) C dX6_tiresOf_12 rfl ?_
  refine j_iload_n C dX6_tiresOf_13 rfl rfl ?_
  refine j_callV_iw (st := []) C dX6_tiresOf_14 (ct_X6_says (kγ κ) E M L (1 : Int32) x1 h0) mi_X6_says tw_971 FC6 (MAt.S h0) rfl rfl (Nat.le_of_ble_eq_true rfl) ⟨⟨rfl, rfl⟩, ⟨Nat.le_of_ble_eq_true rfl, Nat.le_of_ble_eq_true rfl⟩, ⟨Nat.zero_le _, Nat.zero_le _⟩⟩ (fun r14 => ?_)
  refine j_istore_n (i := 3) (lv' := [some (.ref (E.2.1 0)), some (.int x1), some (.int z10), some (.int r14.1)]) C dX6_tiresOf_17 rfl (hn 3 (by decide)) rfl ?_
  refine j_iload_n C dX6_tiresOf_18 rfl rfl ?_
  refine j_pc (pc2 := 19) rfl ?_
  refine j_iconst (v := (1 : Int32)) C dX6_tiresOf_19 rfl ?_
  refine j_icmp_ne (tgt := 29) C dX6_tiresOf_20 (by decide) ?_ ?_
  · refine j_iload_n C dX6_tiresOf_29 rfl rfl ?_
    refine j_iconst (v := (2 : Int32)) C dX6_tiresOf_30 rfl ?_
    refine j_icmp_ne (tgt := 40) C dX6_tiresOf_31 (by decide) ?_ ?_
    · refine j_iload_n C dX6_tiresOf_40 rfl rfl ?_
      refine j_iconst (v := (3 : Int32)) C dX6_tiresOf_41 rfl ?_
      refine j_icmp_ne (tgt := 60) C dX6_tiresOf_42 (by decide) ?_ ?_
      · refine j_iload_n C dX6_tiresOf_60 rfl rfl ?_
        refine j_iconst (v := (4 : Int32)) C dX6_tiresOf_61 rfl ?_
        refine j_icmp_ne (tgt := 73) C dX6_tiresOf_62 (by decide) ?_ ?_
        · refine j_iload_n C dX6_tiresOf_73 rfl rfl ?_
          refine j_iconst (v := (5 : Int32)) C dX6_tiresOf_74 rfl ?_
          refine j_icmp_ne (tgt := 85) C dX6_tiresOf_75 (by decide) ?_ ?_
          · refine j_iload_n C dX6_tiresOf_85 rfl rfl ?_
            refine j_mask [false, false, false, false] (lv' := [none, none, none, none]) rfl ?_
            exact k86 r14.2.1 r14.2.2 r14.1
          · refine j_iload_n C dX6_tiresOf_78 rfl rfl ?_
            refine j_bipush (v := (10 : Int32)) C dX6_tiresOf_79 (by decide) ?_
            refine j_iadd C dX6_tiresOf_81 ?_
            refine j_goto (tgt := 86) C dX6_tiresOf_82 (by decide) ?_
            refine j_mask [false, false, false, false] (lv' := [none, none, none, none]) rfl ?_
            exact k86 r14.2.1 r14.2.2 ((r14.1 + (10 : Int32)))
        · refine j_iconst (v := (2 : Int32)) C dX6_tiresOf_65 rfl ?_
          refine j_iload_n C dX6_tiresOf_66 rfl rfl ?_
          refine j_iconst (v := (1 : Int32)) C dX6_tiresOf_67 rfl ?_
          refine j_iadd C dX6_tiresOf_68 ?_
          refine j_imul C dX6_tiresOf_69 ?_
          refine j_goto (tgt := 86) C dX6_tiresOf_70 (by decide) ?_
          refine j_mask [false, false, false, false] (lv' := [none, none, none, none]) rfl ?_
          exact k86 r14.2.1 r14.2.2 (((2 : Int32) * (r14.1 + (1 : Int32))))
      · refine j_iload_n C dX6_tiresOf_45 rfl rfl ?_
        refine j_iconst (v := (2 : Int32)) C dX6_tiresOf_46 rfl ?_
        refine j_idivc C dX6_tiresOf_47 (by decide) ?_
        refine j_aload_n C dX6_tiresOf_48 rfl rfl ?_
        refine j_getR (j := 10) C dX6_tiresOf_49 FC6 (MAt.S h0) (by decide) rfl (MAt.R_rows h0) tw_813 ?_
        refine j_iconst (v := (4 : Int32)) C dX6_tiresOf_52 rfl ?_
        refine j_iload_n C dX6_tiresOf_53 rfl rfl ?_
        refine j_pc (pc2 := 54) rfl ?_
        refine j_imul C dX6_tiresOf_54 ?_
        refine j_iald C dX6_tiresOf_55 (MAt.P_rows h0) ?_
        refine j_iadd C dX6_tiresOf_56 ?_
        refine j_goto (tgt := 86) C dX6_tiresOf_57 (by decide) ?_
        refine j_mask [false, false, false, false] (lv' := [none, none, none, none]) rfl ?_
        exact k86 r14.2.1 r14.2.2 (((r14.1 / (2 : Int32)) + (r14.2.1 4 (Int32.toNatClampNeg ((4 : Int32) * x1)))))
    · refine j_iload_n C dX6_tiresOf_34 rfl rfl ?_
      refine j_iconst (v := (1 : Int32)) C dX6_tiresOf_35 rfl ?_
      refine j_iadd C dX6_tiresOf_36 ?_
      refine j_goto (tgt := 86) C dX6_tiresOf_37 (by decide) ?_
      refine j_mask [false, false, false, false] (lv' := [none, none, none, none]) rfl ?_
      exact k86 r14.2.1 r14.2.2 ((r14.1 + (1 : Int32)))
  · refine j_iload_n C dX6_tiresOf_23 rfl rfl ?_
    refine j_iconst (v := (2 : Int32)) C dX6_tiresOf_24 rfl ?_
    refine j_idivc C dX6_tiresOf_25 (by decide) ?_
    refine j_goto (tgt := 86) C dX6_tiresOf_26 (by decide) ?_
    refine j_mask [false, false, false, false] (lv' := [none, none, none, none]) rfl ?_
    exact k86 r14.2.1 r14.2.2 ((r14.1 / (2 : Int32)))
set_option maxRecDepth 100000 in
set_option maxHeartbeats 4000000 in
theorem ct_X6_turnOf (γ : Gm) (E : Ev) (M : Mi) (L : Ml)  (x1 : Int32) (h0 : MAt E) : Ct γ yX6_turnOf cX6_turnOf 3 (some .int) ⟨43, 0, 0, 952⟩ [.ref (E.2.1 0), .int x1] E M L (Q_iw γ E) 0 0 (F_X6_turnOf M L x1) := by
  refine ct_of (own := RX6) (lv := [some (.ref (E.2.1 0)), some (.int x1), none]) (by decide +kernel) rfl rfl (Nat.le_of_ble_eq_true rfl) (fun κ C hγ hN => ?_)
  subst hγ
  have hn : ∀ i, i < 3 → i < knL κ := fun i h => by rw [hN]; exact h
  unfold F_X6_turnOf
  refine j_aload_n C dX6_turnOf_0 rfl rfl ?_
  refine j_iconst (v := (0 : Int32)) C dX6_turnOf_1 rfl ?_
  refine j_iload_n C dX6_turnOf_2 rfl rfl ?_
  refine j_callV_iw (st := []) C dX6_turnOf_3 (ct_X6_says (kγ κ) E M L (0 : Int32) x1 h0) mi_X6_says tw_971 FC6 (MAt.S h0) rfl rfl (Nat.le_of_ble_eq_true rfl) ⟨⟨rfl, rfl⟩, ⟨Nat.le_of_ble_eq_true rfl, Nat.le_of_ble_eq_true rfl⟩, ⟨Nat.zero_le _, Nat.zero_le _⟩⟩ (fun r3 => ?_)
  refine j_bipush (v := (8 : Int32)) C dX6_turnOf_6 (by decide) ?_
  refine j_iremc C dX6_turnOf_8 (by decide) ?_
  refine j_istore_n (i := 2) (lv' := [some (.ref (E.2.1 0)), some (.int x1), some (.int (irm r3.1 (8 : Int32)))]) C dX6_turnOf_9 rfl (hn 2 (by decide)) rfl ?_
  refine j_pc (pc2 := 10) rfl ?_
  refine j_iload_n C dX6_turnOf_10 rfl rfl ?_
  refine j_if_ge (tgt := 21) C dX6_turnOf_11 (by decide) ?_ ?_
  · refine j_iload_n C dX6_turnOf_21 rfl rfl ?_
    exact j_iretw C dX6_turnOf_22
  · refine j_iload_n C dX6_turnOf_14 rfl rfl ?_
    refine j_bipush (v := (8 : Int32)) C dX6_turnOf_15 (by decide) ?_
    refine j_iadd C dX6_turnOf_17 ?_
    refine j_goto (tgt := 22) C dX6_turnOf_18 (by decide) ?_
    exact j_iretw C dX6_turnOf_22
set_option maxRecDepth 100000 in
set_option maxHeartbeats 4000000 in
theorem ct_X6_whoOn (γ : Gm) (E : Ev) (M : Mi) (L : Ml)  (x1 : Int32) (h0 : MAt E) : Ct γ yX6_whoOn cX6_whoOn 4 (some .int) ⟨1, 0, 0, 21⟩ [.ref (E.2.1 0), .int x1] E M L (Q_i γ E M L) 0 0 (F_X6_whoOn M L x1) := by
  refine ct_of (own := RX6) (lv := [some (.ref (E.2.1 0)), some (.int x1), none, none]) (by decide +kernel) rfl rfl (Nat.le_of_ble_eq_true rfl) (fun κ C hγ hN => ?_)
  subst hγ
  have hn : ∀ i, i < 4 → i < knL κ := fun i h => by rw [hN]; exact h
  have k27 : ∀ (kf4 : Int32 → Int32 → Int32 → Option (Int32)), (∀ (x1 : Int32) (x2 : Int32) (x3 : Int32), JF κ (PQ κ (Q_i (kγ κ) E M L) 0 0) 4 [some (.ref (E.2.1 0)), some (.int x1), some (.int x2), some (.int x3)] [] E M L 0 0 (kf4 x1 x2 x3)) → ∀ (x1 : Int32) (x3 : Int32) (s0 : Int32) (s1 : Int32), JF κ (PQ κ (Q_i (kγ κ) E M L) 0 0) 27 [some (.ref (E.2.1 0)), some (.int x1), none, some (.int x3)] [.int s1, .int s0] E M L 0 0 (F_X6_whoOn_k27 M L kf4 x1 x3 s0 s1) := by
    intro kf4 hkf4 x1 x3 s0 s1
    unfold F_X6_whoOn_k27
    refine j_iload_n C dX6_whoOn_27 rfl rfl ?_
    refine j_ishl C dX6_whoOn_28 ?_
    refine j_ior C dX6_whoOn_29 ?_
    refine j_istore_n (i := 2) (lv' := [some (.ref (E.2.1 0)), some (.int x1), some (.int (s0 ||| (ishl s1 x3))), some (.int x3)]) C dX6_whoOn_30 rfl (hn 2 (by decide)) rfl ?_
    refine j_iinc (i := 3) (v := (x3 + (1 : Int32))) (lv' := [some (.ref (E.2.1 0)), some (.int x1), some (.int (s0 ||| (ishl s1 x3))), some (.int (x3 + (1 : Int32)))]) C dX6_whoOn_31 rfl rfl (hn 3 (by decide)) rfl ?_
    refine j_goto (tgt := 4) C dX6_whoOn_34 (by decide) ?_
    exact hkf4 x1 ((s0 ||| (ishl s1 x3))) ((x3 + (1 : Int32)))
  have k4 : ∀ (n : Nat) (x1 : Int32) (x2 : Int32) (x3 : Int32), JF κ (PQ κ (Q_i (kγ κ) E M L) 0 0) 4 [some (.ref (E.2.1 0)), some (.int x1), some (.int x2), some (.int x3)] [] E M L 0 0 (F_X6_whoOn_k4 M L n x1 x2 x3) := by
    intro n
    induction n with
    | zero => intros; exact jf_none
    | succ n ih =>
      intro x1 x2 x3
      unfold F_X6_whoOn_k4
      refine j_iload_n C dX6_whoOn_4 rfl rfl ?_
      refine j_aload_n C dX6_whoOn_5 rfl rfl ?_
      refine j_getI (j := 11) C dX6_whoOn_6 FC6 (MAt.S h0) (by decide) rfl tw_814 ?_
      refine j_icmp_ge (tgt := 37) C dX6_whoOn_9 (by decide) ?_ ?_
      · refine j_iload_n C dX6_whoOn_37 rfl rfl ?_
        exact j_iret C dX6_whoOn_38
      · refine j_iload_n C dX6_whoOn_12 rfl rfl ?_
        refine j_aload_n C dX6_whoOn_13 rfl rfl ?_
        refine j_iload_n C dX6_whoOn_14 rfl rfl ?_
        refine j_callV_i (st := [.int x2]) C dX6_whoOn_15 (ct_X6_onOf (kγ κ) E M L x3 h0) mi_X6_onOf tw_955 FC6 (MAt.S h0) rfl rfl (Nat.le_of_ble_eq_true rfl) ⟨⟨rfl, rfl⟩, ⟨Nat.le_of_ble_eq_true rfl, Nat.le_of_ble_eq_true rfl⟩, ⟨Nat.zero_le _, Nat.zero_le _⟩⟩ (fun v15 => ?_)
        refine j_iload_n C dX6_whoOn_18 rfl rfl ?_
        refine j_icmp_ne (tgt := 26) C dX6_whoOn_19 (by decide) ?_ ?_
        · refine j_iconst (v := (0 : Int32)) C dX6_whoOn_26 rfl ?_
          refine j_mask [true, true, false, true] (lv' := [some (.ref (E.2.1 0)), some (.int x1), none, some (.int x3)]) rfl ?_
          exact k27 (F_X6_whoOn_k4 M L n) ih x1 x3 x2 ((0 : Int32))
        · refine j_iconst (v := (1 : Int32)) C dX6_whoOn_22 rfl ?_
          refine j_goto (tgt := 27) C dX6_whoOn_23 (by decide) ?_
          refine j_mask [true, true, false, true] (lv' := [some (.ref (E.2.1 0)), some (.int x1), none, some (.int x3)]) rfl ?_
          exact k27 (F_X6_whoOn_k4 M L n) ih x1 x3 x2 ((1 : Int32))
  unfold F_X6_whoOn
  refine j_iconst (v := (0 : Int32)) C dX6_whoOn_0 rfl ?_
  refine j_istore_n (i := 2) (lv' := [some (.ref (E.2.1 0)), some (.int x1), some (.int (0 : Int32)), none]) C dX6_whoOn_1 rfl (hn 2 (by decide)) rfl ?_
  refine j_iconst (v := (0 : Int32)) C dX6_whoOn_2 rfl ?_
  refine j_istore_n (i := 3) (lv' := [some (.ref (E.2.1 0)), some (.int x1), some (.int (0 : Int32)), some (.int (0 : Int32))]) C dX6_whoOn_3 rfl (hn 3 (by decide)) rfl ?_
  exact k4 FU x1 ((0 : Int32)) ((0 : Int32))
set_option maxRecDepth 100000 in
set_option maxHeartbeats 4000000 in
theorem ct_X6_told (γ : Gm) (E : Ev) (M : Mi) (L : Ml)  (x1 : Int32) (x2 : Int32) (h0 : MAt E) : Ct γ yX6_told cX6_told 3 (some .int) ⟨44, 0, 0, 975⟩ [.ref (E.2.1 0), .int x1, .int x2] E M L (Q_iw γ E) 0 0 (F_X6_told M L x1 x2) := by
  refine ct_of (own := RX6) (lv := [some (.ref (E.2.1 0)), some (.int x1), some (.int x2)]) (by decide +kernel) rfl rfl (Nat.le_of_ble_eq_true rfl) (fun κ C hγ hN => ?_)
  subst hγ
  have hn : ∀ i, i < 3 → i < knL κ := fun i h => by rw [hN]; exact h
  have k57 : ∀ (M : Mi) (L : Ml) (x1 : Int32) (s0 : Int64), JF κ (PQ κ (Q_iw (kγ κ) E) 0 0) 57 [none, some (.int x1), none] [.long s0] E M L 0 0 (F_X6_told_k57  M L x1 s0) := by
    intro M L x1 s0
    unfold F_X6_told_k57
    refine j_iload_n C dX6_told_57 rfl rfl ?_
    refine j_callS_i (st := []) C dX6_told_58 (ct_X6_has (kγ κ) E M L s0 x1) mi_X6_has tw_959 rfl rfl (Nat.le_of_ble_eq_true rfl) ⟨⟨rfl, rfl⟩, ⟨Nat.le_of_ble_eq_true rfl, Nat.le_of_ble_eq_true rfl⟩, ⟨Nat.zero_le _, Nat.zero_le _⟩⟩ (fun v58 => ?_)
    refine j_if_eq (tgt := 68) C dX6_told_61 (by decide) ?_ ?_
    · refine j_iconst (v := (0 : Int32)) C dX6_told_68 rfl ?_
      exact j_iretw C dX6_told_69
    · refine j_iconst (v := (1 : Int32)) C dX6_told_64 rfl ?_
      refine j_goto (tgt := 69) C dX6_told_65 (by decide) ?_
      exact j_iretw C dX6_told_69
  unfold F_X6_told
  refine j_iload_n C dX6_told_0 rfl rfl ?_
  refine j_i2l C dX6_told_1 ?_
  refine j_lconst (v := (0 : Int64)) C dX6_told_2 rfl ?_
  refine j_ldc2 (v := (11 : Int64)) C dX6_told_3 tw_966 ?_
  refine j_callS_i (st := []) C dX6_told_6 (ct_X6_in (kγ κ) E M L (Int32.toInt64 x2) (0 : Int64) (11 : Int64)) mi_X6_in tw_933 rfl rfl (Nat.le_of_ble_eq_true rfl) ⟨⟨rfl, rfl⟩, ⟨Nat.le_of_ble_eq_true rfl, Nat.le_of_ble_eq_true rfl⟩, ⟨Nat.zero_le _, Nat.zero_le _⟩⟩ (fun v6 => ?_)
  refine j_if_eq (tgt := 21) C dX6_told_9 (by decide) ?_ ?_
  · refine j_sipush (v := (-1000 : Int32)) C dX6_told_21 (by decide) ?_
    exact j_iretw C dX6_told_24
  · refine j_aload_n C dX6_told_12 rfl rfl ?_
    refine j_iload_n C dX6_told_13 rfl rfl ?_
    refine j_iload_n C dX6_told_14 rfl rfl ?_
    refine j_callV_i (st := []) C dX6_told_15 (ct_X6_isOf (kγ κ) E M L x2 x1 h0) mi_X6_isOf tw_936 FC6 (MAt.S h0) rfl rfl (Nat.le_of_ble_eq_true rfl) ⟨⟨rfl, rfl⟩, ⟨Nat.le_of_ble_eq_true rfl, Nat.le_of_ble_eq_true rfl⟩, ⟨Nat.zero_le _, Nat.zero_le _⟩⟩ (fun v15 => ?_)
    refine j_if_ne (tgt := 25) C dX6_told_18 (by decide) ?_ ?_
    · refine j_iload_n C dX6_told_25 rfl rfl ?_
      refine j_iconst (v := (3 : Int32)) C dX6_told_26 rfl ?_
      refine j_icmp_ge (tgt := 70) C dX6_told_27 (by decide) ?_ ?_
      · refine j_iload_n C dX6_told_70 rfl rfl ?_
        refine j_bipush (v := (7 : Int32)) C dX6_told_71 (by decide) ?_
        refine j_icmp_ge (tgt := 89) C dX6_told_73 (by decide) ?_ ?_
        · refine j_iload_n C dX6_told_89 rfl rfl ?_
          refine j_bipush (v := (7 : Int32)) C dX6_told_90 (by decide) ?_
          refine j_icmp_ne (tgt := 103) C dX6_told_92 (by decide) ?_ ?_
          · refine j_iload_n C dX6_told_103 rfl rfl ?_
            refine j_bipush (v := (8 : Int32)) C dX6_told_104 (by decide) ?_
            refine j_icmp_ne (tgt := 117) C dX6_told_106 (by decide) ?_ ?_
            · refine j_iload_n C dX6_told_117 rfl rfl ?_
              refine j_bipush (v := (9 : Int32)) C dX6_told_118 (by decide) ?_
              refine j_icmp_ne (tgt := 131) C dX6_told_120 (by decide) ?_ ?_
              · refine j_iload_n C dX6_told_131 rfl rfl ?_
                refine j_bipush (v := (10 : Int32)) C dX6_told_132 (by decide) ?_
                refine j_icmp_ne (tgt := 145) C dX6_told_134 (by decide) ?_ ?_
                · refine j_aload_n C dX6_told_145 rfl rfl ?_
                  refine j_iload_n C dX6_told_146 rfl rfl ?_
                  refine j_callV_i (st := []) C dX6_told_147 (ct_X6_whoOn (kγ κ) E M L x1 h0) mi_X6_whoOn tw_951 FC6 (MAt.S h0) rfl rfl (Nat.le_of_ble_eq_true rfl) ⟨⟨rfl, rfl⟩, ⟨Nat.le_of_ble_eq_true rfl, Nat.le_of_ble_eq_true rfl⟩, ⟨Nat.zero_le _, Nat.zero_le _⟩⟩ (fun v147 => ?_)
                  exact j_iretw C dX6_told_150
                · refine j_aload_n C dX6_told_137 rfl rfl ?_
                  refine j_iload_n C dX6_told_138 rfl rfl ?_
                  refine j_callV_i (st := []) C dX6_told_139 (ct_X6_foundOf (kγ κ) E M L x1 h0) mi_X6_foundOf tw_1180 FC6 (MAt.S h0) rfl rfl (Nat.le_of_ble_eq_true rfl) ⟨⟨rfl, rfl⟩, ⟨Nat.le_of_ble_eq_true rfl, Nat.le_of_ble_eq_true rfl⟩, ⟨Nat.zero_le _, Nat.zero_le _⟩⟩ (fun v139 => ?_)
                  refine j_goto (tgt := 150) C dX6_told_142 (by decide) ?_
                  exact j_iretw C dX6_told_150
              · refine j_aload_n C dX6_told_123 rfl rfl ?_
                refine j_iload_n C dX6_told_124 rfl rfl ?_
                refine j_callV_iw (st := []) C dX6_told_125 (ct_X6_restsOf (kγ κ) E M L x1 h0) mi_X6_restsOf tw_1176 FC6 (MAt.S h0) rfl rfl (Nat.le_of_ble_eq_true rfl) ⟨⟨rfl, rfl⟩, ⟨Nat.le_of_ble_eq_true rfl, Nat.le_of_ble_eq_true rfl⟩, ⟨Nat.zero_le _, Nat.zero_le _⟩⟩ (fun r125 => ?_)
                refine j_goto (tgt := 150) C dX6_told_128 (by decide) ?_
                exact j_iretw C dX6_told_150
            · refine j_aload_n C dX6_told_109 rfl rfl ?_
              refine j_iload_n C dX6_told_110 rfl rfl ?_
              refine j_callV_iw (st := []) C dX6_told_111 (ct_X6_tiresOf (kγ κ) E M L x1 h0) mi_X6_tiresOf tw_1172 FC6 (MAt.S h0) rfl rfl (Nat.le_of_ble_eq_true rfl) ⟨⟨rfl, rfl⟩, ⟨Nat.le_of_ble_eq_true rfl, Nat.le_of_ble_eq_true rfl⟩, ⟨Nat.zero_le _, Nat.zero_le _⟩⟩ (fun r111 => ?_)
              refine j_goto (tgt := 150) C dX6_told_114 (by decide) ?_
              exact j_iretw C dX6_told_150
          · refine j_aload_n C dX6_told_95 rfl rfl ?_
            refine j_iload_n C dX6_told_96 rfl rfl ?_
            refine j_callV_iw (st := []) C dX6_told_97 (ct_X6_turnOf (kγ κ) E M L x1 h0) mi_X6_turnOf tw_967 FC6 (MAt.S h0) rfl rfl (Nat.le_of_ble_eq_true rfl) ⟨⟨rfl, rfl⟩, ⟨Nat.le_of_ble_eq_true rfl, Nat.le_of_ble_eq_true rfl⟩, ⟨Nat.zero_le _, Nat.zero_le _⟩⟩ (fun r97 => ?_)
            refine j_goto (tgt := 150) C dX6_told_100 (by decide) ?_
            exact j_iretw C dX6_told_150
        · refine j_aload_n C dX6_told_76 rfl rfl ?_
          refine j_getR (j := 10) C dX6_told_77 FC6 (MAt.S h0) (by decide) rfl (MAt.R_rows h0) tw_813 ?_
          refine j_iconst (v := (4 : Int32)) C dX6_told_80 rfl ?_
          refine j_iload_n C dX6_told_81 rfl rfl ?_
          refine j_imul C dX6_told_82 ?_
          refine j_iload_n C dX6_told_83 rfl rfl ?_
          refine j_iadd C dX6_told_84 ?_
          refine j_pc (pc2 := 85) rfl ?_
          refine j_iconst (v := (3 : Int32)) C dX6_told_85 rfl ?_
          refine j_isub C dX6_told_86 ?_
          refine j_iald C dX6_told_87 (MAt.P_rows h0) ?_
          exact j_iretw C dX6_told_88
      · refine j_iload_n C dX6_told_30 rfl rfl ?_
        refine j_if_ne (tgt := 41) C dX6_told_31 (by decide) ?_ ?_
        · refine j_iload_n C dX6_told_41 rfl rfl ?_
          refine j_iconst (v := (1 : Int32)) C dX6_told_42 rfl ?_
          refine j_icmp_ne (tgt := 53) C dX6_told_43 (by decide) ?_ ?_
          · refine j_aload_n C dX6_told_53 rfl rfl ?_
            refine j_getL (j := 9) C dX6_told_54 FC6 (MAt.S h0) (by decide) rfl tw_812 ?_
            refine j_mask [false, true, false] (lv' := [none, some (.int x1), none]) rfl ?_
            exact k57 M L x1 ((L 0 9))
          · refine j_aload_n C dX6_told_46 rfl rfl ?_
            refine j_getL (j := 8) C dX6_told_47 FC6 (MAt.S h0) (by decide) rfl tw_811 ?_
            refine j_goto (tgt := 57) C dX6_told_50 (by decide) ?_
            refine j_mask [false, true, false] (lv' := [none, some (.int x1), none]) rfl ?_
            exact k57 M L x1 ((L 0 8))
        · refine j_aload_n C dX6_told_34 rfl rfl ?_
          refine j_getI (j := 7) C dX6_told_35 FC6 (MAt.S h0) (by decide) rfl tw_810 ?_
          refine j_goto (tgt := 69) C dX6_told_38 (by decide) ?_
          exact j_iretw C dX6_told_69
    · refine j_sipush (v := (-1000 : Int32)) C dX6_told_21 (by decide) ?_
      exact j_iretw C dX6_told_24
set_option maxRecDepth 100000 in
set_option maxHeartbeats 4000000 in
theorem ct_X6_set (γ : Gm) (E : Ev) (M : Mi) (L : Ml)  (x1 : Int32) (x2 : Int32) (x3 : Int32) (h0 : MAt E) : Ct γ yX6_set cX6_set 5 (some .int) ⟨45, 0, 0, 997⟩ [.ref (E.2.1 0), .int x1, .int x2, .int x3] E M L (Q_iw γ E) 0 0 (F_X6_set M L x1 x2 x3) := by
  refine ct_of (own := RX6) (lv := [some (.ref (E.2.1 0)), some (.int x1), some (.int x2), some (.int x3), none]) (by decide +kernel) rfl rfl (Nat.le_of_ble_eq_true rfl) (fun κ C hγ hN => ?_)
  subst hγ
  have hn : ∀ i, i < 5 → i < knL κ := fun i h => by rw [hN]; exact h
  have k70 : ∀ (M : Mi) (L : Ml) (x1 : Int32) (x2 : Int32) (x3 : Int32), JF κ (PQ κ (Q_iw (kγ κ) E) 0 0) 70 [some (.ref (E.2.1 0)), some (.int x1), some (.int x2), some (.int x3), none] [] E M L 0 0 (F_X6_set_k70  M L x1 x2 x3) := by
    intro M L x1 x2 x3
    unfold F_X6_set_k70
    refine j_aload_n C dX6_set_70 rfl rfl ?_
    refine j_iload_n C dX6_set_71 rfl rfl ?_
    refine j_iload_n C dX6_set_72 rfl rfl ?_
    refine j_callV_iw (st := []) C dX6_set_73 (ct_X6_told (kγ κ) E M L x2 x1 h0) mi_X6_told tw_962 FC6 (MAt.S h0) rfl rfl (Nat.le_of_ble_eq_true rfl) ⟨⟨rfl, rfl⟩, ⟨Nat.le_of_ble_eq_true rfl, Nat.le_of_ble_eq_true rfl⟩, ⟨Nat.zero_le _, Nat.zero_le _⟩⟩ (fun r73 => ?_)
    refine j_istore (i := 4) (lv' := [some (.ref (E.2.1 0)), some (.int x1), some (.int x2), some (.int x3), some (.int r73.1)]) C dX6_set_76 (hn 4 (by decide)) rfl ?_
    refine j_aload_n C dX6_set_78 rfl rfl ?_
    refine j_iload_n C dX6_set_79 rfl rfl ?_
    refine j_pc (pc2 := 80) rfl ?_
    refine j_iload_n C dX6_set_80 rfl rfl ?_
    refine j_iload_n C dX6_set_81 rfl rfl ?_
    refine j_callV_vw (st := []) C dX6_set_82 (ct_X6_lays (kγ κ) E r73.2.1 r73.2.2 x1 x2 x3 h0) mi_X6_lays tw_1187 FC6 (MAt.S h0) rfl rfl (Nat.le_of_ble_eq_true rfl) ⟨⟨rfl, rfl⟩, ⟨Nat.le_of_ble_eq_true rfl, Nat.le_of_ble_eq_true rfl⟩, ⟨Nat.zero_le _, Nat.zero_le _⟩⟩ (fun r82 => ?_)
    refine j_iload C dX6_set_85 rfl ?_
    exact j_iretw C dX6_set_87
  have k51 : ∀ (M : Mi) (L : Ml) (x1 : Int32) (x2 : Int32) (x3 : Int32), JF κ (PQ κ (Q_iw (kγ κ) E) 0 0) 51 [some (.ref (E.2.1 0)), some (.int x1), some (.int x2), some (.int x3), none] [] E M L 0 0 (F_X6_set_k51  M L x1 x2 x3) := by
    intro M L x1 x2 x3
    unfold F_X6_set_k51
    refine j_iload_n C dX6_set_51 rfl rfl ?_
    refine j_iconst (v := (4 : Int32)) C dX6_set_52 rfl ?_
    refine j_icmp_ne (tgt := 70) C dX6_set_53 (by decide) ?_ ?_
    · exact k70 M L x1 x2 x3
    · refine j_aload_n C dX6_set_56 rfl rfl ?_
      refine j_getL (j := 9) C dX6_set_57 FC6 (MAt.S h0) (by decide) rfl tw_812 ?_
      refine j_iload_n C dX6_set_60 rfl rfl ?_
      refine j_callS_i (st := []) C dX6_set_61 (ct_X6_has (kγ κ) E M L (L 0 9) x3) mi_X6_has tw_959 rfl rfl (Nat.le_of_ble_eq_true rfl) ⟨⟨rfl, rfl⟩, ⟨Nat.le_of_ble_eq_true rfl, Nat.le_of_ble_eq_true rfl⟩, ⟨Nat.zero_le _, Nat.zero_le _⟩⟩ (fun v61 => ?_)
      refine j_if_eq (tgt := 70) C dX6_set_64 (by decide) ?_ ?_
      · exact k70 M L x1 x2 x3
      · refine j_bipush (v := (-2 : Int32)) C dX6_set_67 (by decide) ?_
        exact j_iretw C dX6_set_69
  unfold F_X6_set
  refine j_iload_n C dX6_set_0 rfl rfl ?_
  refine j_i2l C dX6_set_1 ?_
  refine j_lconst (v := (0 : Int64)) C dX6_set_2 rfl ?_
  refine j_ldc2 (v := (5 : Int64)) C dX6_set_3 tw_932 ?_
  refine j_callS_i (st := []) C dX6_set_6 (ct_X6_in (kγ κ) E M L (Int32.toInt64 x1) (0 : Int64) (5 : Int64)) mi_X6_in tw_933 rfl rfl (Nat.le_of_ble_eq_true rfl) ⟨⟨rfl, rfl⟩, ⟨Nat.le_of_ble_eq_true rfl, Nat.le_of_ble_eq_true rfl⟩, ⟨Nat.zero_le _, Nat.zero_le _⟩⟩ (fun v6 => ?_)
  refine j_if_eq (tgt := 35) C dX6_set_9 (by decide) ?_ ?_
  · refine j_bipush (v := (-2 : Int32)) C dX6_set_35 (by decide) ?_
    exact j_iretw C dX6_set_37
  · refine j_aload_n C dX6_set_12 rfl rfl ?_
    refine j_iload_n C dX6_set_13 rfl rfl ?_
    refine j_iload_n C dX6_set_14 rfl rfl ?_
    refine j_callV_i (st := []) C dX6_set_15 (ct_X6_isOf (kγ κ) E M L x1 x2 h0) mi_X6_isOf tw_936 FC6 (MAt.S h0) rfl rfl (Nat.le_of_ble_eq_true rfl) ⟨⟨rfl, rfl⟩, ⟨Nat.le_of_ble_eq_true rfl, Nat.le_of_ble_eq_true rfl⟩, ⟨Nat.zero_le _, Nat.zero_le _⟩⟩ (fun v15 => ?_)
    refine j_if_eq (tgt := 35) C dX6_set_18 (by decide) ?_ ?_
    · refine j_bipush (v := (-2 : Int32)) C dX6_set_35 (by decide) ?_
      exact j_iretw C dX6_set_37
    · refine j_iload_n C dX6_set_21 rfl rfl ?_
      refine j_i2l C dX6_set_22 ?_
      refine j_lconst (v := (0 : Int64)) C dX6_set_23 rfl ?_
      refine j_iload_n C dX6_set_24 rfl rfl ?_
      refine j_callS_i (st := [.long (0 : Int64), .long (Int32.toInt64 x3)]) C dX6_set_25 (ct_X6_mostOf (kγ κ) E M L x1) mi_X6_mostOf tw_948 rfl rfl (Nat.le_of_ble_eq_true rfl) ⟨⟨rfl, rfl⟩, ⟨Nat.le_of_ble_eq_true rfl, Nat.le_of_ble_eq_true rfl⟩, ⟨Nat.zero_le _, Nat.zero_le _⟩⟩ (fun v25 => ?_)
      refine j_i2l C dX6_set_28 ?_
      refine j_callS_i (st := []) C dX6_set_29 (ct_X6_in (kγ κ) E M L (Int32.toInt64 x3) (0 : Int64) (Int32.toInt64 v25)) mi_X6_in tw_933 rfl rfl (Nat.le_of_ble_eq_true rfl) ⟨⟨rfl, rfl⟩, ⟨Nat.le_of_ble_eq_true rfl, Nat.le_of_ble_eq_true rfl⟩, ⟨Nat.zero_le _, Nat.zero_le _⟩⟩ (fun v29 => ?_)
      refine j_pc (pc2 := 32) rfl ?_
      refine j_if_ne (tgt := 38) C dX6_set_32 (by decide) ?_ ?_
      · refine j_iload_n C dX6_set_38 rfl rfl ?_
        refine j_iconst (v := (2 : Int32)) C dX6_set_39 rfl ?_
        refine j_icmp_ne (tgt := 51) C dX6_set_40 (by decide) ?_ ?_
        · exact k51 M L x1 x2 x3
        · refine j_aload_n C dX6_set_43 rfl rfl ?_
          refine j_iload_n C dX6_set_44 rfl rfl ?_
          refine j_callV_i (st := []) C dX6_set_45 (ct_X6_whoOn (kγ κ) E M L x2 h0) mi_X6_whoOn tw_951 FC6 (MAt.S h0) rfl rfl (Nat.le_of_ble_eq_true rfl) ⟨⟨rfl, rfl⟩, ⟨Nat.le_of_ble_eq_true rfl, Nat.le_of_ble_eq_true rfl⟩, ⟨Nat.zero_le _, Nat.zero_le _⟩⟩ (fun v45 => ?_)
          refine j_if_ne (tgt := 67) C dX6_set_48 (by decide) ?_ ?_
          · refine j_bipush (v := (-2 : Int32)) C dX6_set_67 (by decide) ?_
            exact j_iretw C dX6_set_69
          · exact k51 M L x1 x2 x3
      · refine j_bipush (v := (-2 : Int32)) C dX6_set_35 (by decide) ?_
        exact j_iretw C dX6_set_37
set_option maxRecDepth 100000 in
set_option maxHeartbeats 4000000 in
theorem ct_X6_party (γ : Gm) (E : Ev) (M : Mi) (L : Ml)  (x1 : Int32) (x2 : Int32) (x3 : Int32) (h0 : MAt E) : Ct γ yX6_party cX6_party 4 (some .int) ⟨2, 0, 0, 45⟩ [.ref (E.2.1 0), .int x1, .int x2, .int x3] E M L (Q_iw γ E) 0 0 (F_X6_party M L x1 x2 x3) := by
  refine ct_of (own := RX6) (lv := [some (.ref (E.2.1 0)), some (.int x1), some (.int x2), some (.int x3)]) (by decide +kernel) rfl rfl (Nat.le_of_ble_eq_true rfl) (fun κ C hγ hN => ?_)
  subst hγ
  have hn : ∀ i, i < 4 → i < knL κ := fun i h => by rw [hN]; exact h
  unfold F_X6_party
  refine j_iload_n C dX6_party_0 rfl rfl ?_
  refine j_i2l C dX6_party_1 ?_
  refine j_lconst (v := (0 : Int64)) C dX6_party_2 rfl ?_
  refine j_ldc2 (v := (5 : Int64)) C dX6_party_3 tw_932 ?_
  refine j_callS_i (st := []) C dX6_party_6 (ct_X6_in (kγ κ) E M L (Int32.toInt64 x1) (0 : Int64) (5 : Int64)) mi_X6_in tw_933 rfl rfl (Nat.le_of_ble_eq_true rfl) ⟨⟨rfl, rfl⟩, ⟨Nat.le_of_ble_eq_true rfl, Nat.le_of_ble_eq_true rfl⟩, ⟨Nat.zero_le _, Nat.zero_le _⟩⟩ (fun v6 => ?_)
  refine j_if_eq (tgt := 42) C dX6_party_9 (by decide) ?_ ?_
  · refine j_bipush (v := (-2 : Int32)) C dX6_party_42 (by decide) ?_
    exact j_iretw C dX6_party_44
  · refine j_iload_n C dX6_party_12 rfl rfl ?_
    refine j_i2l C dX6_party_13 ?_
    refine j_lconst (v := (0 : Int64)) C dX6_party_14 rfl ?_
    refine j_ldc2 (v := (9 : Int64)) C dX6_party_15 tw_1196 ?_
    refine j_callS_i (st := []) C dX6_party_18 (ct_X6_in (kγ κ) E M L (Int32.toInt64 x2) (0 : Int64) (9 : Int64)) mi_X6_in tw_933 rfl rfl (Nat.le_of_ble_eq_true rfl) ⟨⟨rfl, rfl⟩, ⟨Nat.le_of_ble_eq_true rfl, Nat.le_of_ble_eq_true rfl⟩, ⟨Nat.zero_le _, Nat.zero_le _⟩⟩ (fun v18 => ?_)
    refine j_if_eq (tgt := 42) C dX6_party_21 (by decide) ?_ ?_
    · refine j_bipush (v := (-2 : Int32)) C dX6_party_42 (by decide) ?_
      exact j_iretw C dX6_party_44
    · refine j_iload_n C dX6_party_24 rfl rfl ?_
      refine j_callS_i (st := []) C dX6_party_25 (ct_X6_isTile (kγ κ) E M L x3) mi_X6_isTile tw_940 rfl rfl (Nat.le_of_ble_eq_true rfl) ⟨⟨rfl, rfl⟩, ⟨Nat.le_of_ble_eq_true rfl, Nat.le_of_ble_eq_true rfl⟩, ⟨Nat.zero_le _, Nat.zero_le _⟩⟩ (fun v25 => ?_)
      refine j_if_eq (tgt := 42) C dX6_party_28 (by decide) ?_ ?_
      · refine j_bipush (v := (-2 : Int32)) C dX6_party_42 (by decide) ?_
        exact j_iretw C dX6_party_44
      · refine j_aload_n C dX6_party_31 rfl rfl ?_
        refine j_getL (j := 9) C dX6_party_32 FC6 (MAt.S h0) (by decide) rfl tw_812 ?_
        refine j_iload_n C dX6_party_35 rfl rfl ?_
        refine j_callS_i (st := []) C dX6_party_36 (ct_X6_has (kγ κ) E M L (L 0 9) x3) mi_X6_has tw_959 rfl rfl (Nat.le_of_ble_eq_true rfl) ⟨⟨rfl, rfl⟩, ⟨Nat.le_of_ble_eq_true rfl, Nat.le_of_ble_eq_true rfl⟩, ⟨Nat.zero_le _, Nat.zero_le _⟩⟩ (fun v36 => ?_)
        refine j_if_eq (tgt := 45) C dX6_party_39 (by decide) ?_ ?_
        · refine j_aload_n C dX6_party_45 rfl rfl ?_
          refine j_getI (j := 11) C dX6_party_46 FC6 (MAt.S h0) (by decide) rfl tw_814 ?_
          refine j_iconst (v := (5 : Int32)) C dX6_party_49 rfl ?_
          refine j_icmp_ne (tgt := 56) C dX6_party_50 (by decide) ?_ ?_
          · refine j_aload_n C dX6_party_56 rfl rfl ?_
            refine j_getR (j := 10) C dX6_party_57 FC6 (MAt.S h0) (by decide) rfl (MAt.R_rows h0) tw_813 ?_
            refine j_iconst (v := (4 : Int32)) C dX6_party_60 rfl ?_
            refine j_aload_n C dX6_party_61 rfl rfl ?_
            refine j_getI (j := 11) C dX6_party_62 FC6 (MAt.S h0) (by decide) rfl tw_814 ?_
            refine j_imul C dX6_party_65 ?_
            refine j_iload_n C dX6_party_66 rfl rfl ?_
            refine j_pc (pc2 := 67) rfl ?_
            refine j_iast C dX6_party_67 (MAt.P_rows h0) ?_
            refine j_aload_n C dX6_party_68 rfl rfl ?_
            refine j_getR (j := 10) C dX6_party_69 FC6 (MAt.S h0) (by decide) rfl (MAt.R_rows h0) tw_813 ?_
            refine j_iconst (v := (4 : Int32)) C dX6_party_72 rfl ?_
            refine j_aload_n C dX6_party_73 rfl rfl ?_
            refine j_getI (j := 11) C dX6_party_74 FC6 (MAt.S h0) (by decide) rfl tw_814 ?_
            refine j_imul C dX6_party_77 ?_
            refine j_iconst (v := (1 : Int32)) C dX6_party_78 rfl ?_
            refine j_pc (pc2 := 79) rfl ?_
            refine j_iadd C dX6_party_79 ?_
            refine j_iload_n C dX6_party_80 rfl rfl ?_
            refine j_iast C dX6_party_81 (MAt.P_rows h0) ?_
            refine j_aload_n C dX6_party_82 rfl rfl ?_
            refine j_getR (j := 10) C dX6_party_83 FC6 (MAt.S h0) (by decide) rfl (MAt.R_rows h0) tw_813 ?_
            refine j_iconst (v := (4 : Int32)) C dX6_party_86 rfl ?_
            refine j_aload_n C dX6_party_87 rfl rfl ?_
            refine j_getI (j := 11) C dX6_party_88 FC6 (MAt.S h0) (by decide) rfl tw_814 ?_
            refine j_pc (pc2 := 91) rfl ?_
            refine j_imul C dX6_party_91 ?_
            refine j_iconst (v := (2 : Int32)) C dX6_party_92 rfl ?_
            refine j_iadd C dX6_party_93 ?_
            refine j_iconst (v := (0 : Int32)) C dX6_party_94 rfl ?_
            refine j_iast C dX6_party_95 (MAt.P_rows h0) ?_
            refine j_aload_n C dX6_party_96 rfl rfl ?_
            refine j_getR (j := 10) C dX6_party_97 FC6 (MAt.S h0) (by decide) rfl (MAt.R_rows h0) tw_813 ?_
            refine j_iconst (v := (4 : Int32)) C dX6_party_100 rfl ?_
            refine j_pc (pc2 := 101) rfl ?_
            refine j_aload_n C dX6_party_101 rfl rfl ?_
            refine j_getI (j := 11) C dX6_party_102 FC6 (MAt.S h0) (by decide) rfl tw_814 ?_
            refine j_imul C dX6_party_105 ?_
            refine j_iconst (v := (3 : Int32)) C dX6_party_106 rfl ?_
            refine j_iadd C dX6_party_107 ?_
            refine j_iload_n C dX6_party_108 rfl rfl ?_
            refine j_iast C dX6_party_109 (MAt.P_rows h0) ?_
            refine j_aload_n C dX6_party_110 rfl rfl ?_
            refine j_pc (pc2 := 111) rfl ?_
            refine j_dup C dX6_party_111 rfl ?_
            refine j_getI (j := 11) C dX6_party_112 FC6 (MAt.S h0) (by decide) rfl tw_814 ?_
            refine j_iconst (v := (1 : Int32)) C dX6_party_115 rfl ?_
            refine j_iadd C dX6_party_116 ?_
            refine j_putI (j := 11) C dX6_party_117 FC6 (MAt.S h0) (by decide) rfl rfl rfl rfl tw_814 ?_
            refine j_aload_n C dX6_party_120 rfl rfl ?_
            refine j_getI (j := 11) C dX6_party_121 FC6 (MAt.S h0) (by decide) rfl tw_814 ?_
            refine j_iconst (v := (1 : Int32)) C dX6_party_124 rfl ?_
            refine j_pc (pc2 := 125) rfl ?_
            refine j_isub C dX6_party_125 ?_
            exact j_iretw C dX6_party_126
          · refine j_bipush (v := (-4 : Int32)) C dX6_party_53 (by decide) ?_
            exact j_iretw C dX6_party_55
        · refine j_bipush (v := (-2 : Int32)) C dX6_party_42 (by decide) ?_
          exact j_iretw C dX6_party_44
set_option maxRecDepth 100000 in
set_option maxHeartbeats 4000000 in
theorem ct_X6_stoodOn (γ : Gm) (E : Ev) (M : Mi) (L : Ml)   (h0 : MAt E) : Ct γ yX6_stoodOn cX6_stoodOn 4 (some .long) ⟨1, 0, 0, 21⟩ [.ref (E.2.1 0)] E M L (Q_l γ E M L) 0 0 (F_X6_stoodOn M L) := by
  refine ct_of (own := RX6) (lv := [some (.ref (E.2.1 0)), none, none, none]) (by decide +kernel) rfl rfl (Nat.le_of_ble_eq_true rfl) (fun κ C hγ hN => ?_)
  subst hγ
  have hn : ∀ i, i < 4 → i < knL κ := fun i h => by rw [hN]; exact h
  have k4 : ∀ (n : Nat) (x1 : Int64) (x3 : Int32), JF κ (PQ κ (Q_l (kγ κ) E M L) 0 0) 4 [some (.ref (E.2.1 0)), some (.long x1), none, some (.int x3)] [] E M L 0 0 (F_X6_stoodOn_k4 M L n x1 x3) := by
    intro n
    induction n with
    | zero => intros; exact jf_none
    | succ n ih =>
      intro x1 x3
      unfold F_X6_stoodOn_k4
      refine j_iload_n C dX6_stoodOn_4 rfl rfl ?_
      refine j_aload_n C dX6_stoodOn_5 rfl rfl ?_
      refine j_getI (j := 11) C dX6_stoodOn_6 FC6 (MAt.S h0) (by decide) rfl tw_814 ?_
      refine j_icmp_ge (tgt := 28) C dX6_stoodOn_9 (by decide) ?_ ?_
      · refine j_lload_n C dX6_stoodOn_28 rfl rfl ?_
        exact j_lret C dX6_stoodOn_29
      · refine j_lload_n C dX6_stoodOn_12 rfl rfl ?_
        refine j_lconst (v := (1 : Int64)) C dX6_stoodOn_13 rfl ?_
        refine j_aload_n C dX6_stoodOn_14 rfl rfl ?_
        refine j_iload_n C dX6_stoodOn_15 rfl rfl ?_
        refine j_callV_i (st := [.long (1 : Int64), .long x1]) C dX6_stoodOn_16 (ct_X6_onOf (kγ κ) E M L x3 h0) mi_X6_onOf tw_955 FC6 (MAt.S h0) rfl rfl (Nat.le_of_ble_eq_true rfl) ⟨⟨rfl, rfl⟩, ⟨Nat.le_of_ble_eq_true rfl, Nat.le_of_ble_eq_true rfl⟩, ⟨Nat.zero_le _, Nat.zero_le _⟩⟩ (fun v16 => ?_)
        refine j_lshl C dX6_stoodOn_19 ?_
        refine j_lor C dX6_stoodOn_20 ?_
        refine j_pc (pc2 := 21) rfl ?_
        refine j_lstore_n (i := 1) (lv' := [some (.ref (E.2.1 0)), some (.long (x1 ||| (lshl (1 : Int64) v16))), none, some (.int x3)]) C dX6_stoodOn_21 rfl (hn 2 (by decide)) rfl ?_
        refine j_iinc (i := 3) (v := (x3 + (1 : Int32))) (lv' := [some (.ref (E.2.1 0)), some (.long (x1 ||| (lshl (1 : Int64) v16))), none, some (.int (x3 + (1 : Int32)))]) C dX6_stoodOn_22 rfl rfl (hn 3 (by decide)) rfl ?_
        refine j_goto (tgt := 4) C dX6_stoodOn_25 (by decide) ?_
        exact ih ((x1 ||| (lshl (1 : Int64) v16))) ((x3 + (1 : Int32)))
  unfold F_X6_stoodOn
  refine j_lconst (v := (0 : Int64)) C dX6_stoodOn_0 rfl ?_
  refine j_lstore_n (i := 1) (lv' := [some (.ref (E.2.1 0)), some (.long (0 : Int64)), none, none]) C dX6_stoodOn_1 rfl (hn 2 (by decide)) rfl ?_
  refine j_iconst (v := (0 : Int32)) C dX6_stoodOn_2 rfl ?_
  refine j_istore_n (i := 3) (lv' := [some (.ref (E.2.1 0)), some (.long (0 : Int64)), none, some (.int (0 : Int32))]) C dX6_stoodOn_3 rfl (hn 3 (by decide)) rfl ?_
  exact k4 FU ((0 : Int64)) ((0 : Int32))
set_option maxRecDepth 100000 in
set_option maxHeartbeats 4000000 in
theorem ct_X6_floor (γ : Gm) (E : Ev) (M : Mi) (L : Ml)  (x1 : Int32) (h0 : MAt E) : Ct γ yX6_floor cX6_floor 2 (some .long) ⟨2, 0, 0, 44⟩ [.ref (E.2.1 0), .int x1] E M L (Q_l γ E M L) 0 0 (F_X6_floor M L x1) := by
  refine ct_of (own := RX6) (lv := [some (.ref (E.2.1 0)), some (.int x1)]) (by decide +kernel) rfl rfl (Nat.le_of_ble_eq_true rfl) (fun κ C hγ hN => ?_)
  subst hγ
  have hn : ∀ i, i < 2 → i < knL κ := fun i h => by rw [hN]; exact h
  unfold F_X6_floor
  refine j_iload_n C dX6_floor_0 rfl rfl ?_
  refine j_i2l C dX6_floor_1 ?_
  refine j_lconst (v := (0 : Int64)) C dX6_floor_2 rfl ?_
  refine j_ldc2 (v := (2 : Int64)) C dX6_floor_3 tw_1202 ?_
  refine j_callS_i (st := []) C dX6_floor_6 (ct_X6_in (kγ κ) E M L (Int32.toInt64 x1) (0 : Int64) (2 : Int64)) mi_X6_in tw_933 rfl rfl (Nat.le_of_ble_eq_true rfl) ⟨⟨rfl, rfl⟩, ⟨Nat.le_of_ble_eq_true rfl, Nat.le_of_ble_eq_true rfl⟩, ⟨Nat.zero_le _, Nat.zero_le _⟩⟩ (fun v6 => ?_)
  refine j_if_ne (tgt := 16) C dX6_floor_9 (by decide) ?_ ?_
  · refine j_iload_n C dX6_floor_16 rfl rfl ?_
    refine j_if_ne (tgt := 27) C dX6_floor_17 (by decide) ?_ ?_
    · refine j_iload_n C dX6_floor_27 rfl rfl ?_
      refine j_iconst (v := (1 : Int32)) C dX6_floor_28 rfl ?_
      refine j_icmp_ne (tgt := 39) C dX6_floor_29 (by decide) ?_ ?_
      · refine j_aload_n C dX6_floor_39 rfl rfl ?_
        refine j_callV_l (st := []) C dX6_floor_40 (ct_X6_stoodOn (kγ κ) E M L h0) mi_X6_stoodOn tw_1204 FC6 (MAt.S h0) rfl rfl (Nat.le_of_ble_eq_true rfl) ⟨⟨rfl, rfl⟩, ⟨Nat.le_of_ble_eq_true rfl, Nat.le_of_ble_eq_true rfl⟩, ⟨Nat.zero_le _, Nat.zero_le _⟩⟩ (fun v40 => ?_)
        exact j_lret C dX6_floor_43
      · refine j_aload_n C dX6_floor_32 rfl rfl ?_
        refine j_getL (j := 9) C dX6_floor_33 FC6 (MAt.S h0) (by decide) rfl tw_812 ?_
        refine j_goto (tgt := 43) C dX6_floor_36 (by decide) ?_
        exact j_lret C dX6_floor_43
    · refine j_aload_n C dX6_floor_20 rfl rfl ?_
      refine j_getL (j := 8) C dX6_floor_21 FC6 (MAt.S h0) (by decide) rfl tw_811 ?_
      refine j_goto (tgt := 43) C dX6_floor_24 (by decide) ?_
      exact j_lret C dX6_floor_43
  · refine j_ldc2 (v := (-4611686018427387904 : Int64)) C dX6_floor_12 tw_1203 ?_
    exact j_lret C dX6_floor_15
set_option maxRecDepth 100000 in
set_option maxHeartbeats 4000000 in
theorem ct_X6_feed (γ : Gm) (E : Ev) (M : Mi) (L : Ml)  (x1 : Int32) (h0 : MAt E) : Ct γ yX6_feed cX6_feed 2 (some .int) ⟨1, 0, 0, 25⟩ [.ref (E.2.1 0), .int x1] E M L (Q_iw γ E) 0 0 (F_X6_feed M L x1) := by
  refine ct_of (own := RX6) (lv := [some (.ref (E.2.1 0)), some (.int x1)]) (by decide +kernel) rfl rfl (Nat.le_of_ble_eq_true rfl) (fun κ C hγ hN => ?_)
  subst hγ
  have hn : ∀ i, i < 2 → i < knL κ := fun i h => by rw [hN]; exact h
  unfold F_X6_feed
  refine j_iload_n C dX6_feed_0 rfl rfl ?_
  refine j_i2l C dX6_feed_1 ?_
  refine j_lconst (v := (0 : Int64)) C dX6_feed_2 rfl ?_
  refine j_ldc2 (v := (255 : Int64)) C dX6_feed_3 tw_1212 ?_
  refine j_callS_i (st := []) C dX6_feed_6 (ct_X6_in (kγ κ) E M L (Int32.toInt64 x1) (0 : Int64) (255 : Int64)) mi_X6_in tw_933 rfl rfl (Nat.le_of_ble_eq_true rfl) ⟨⟨rfl, rfl⟩, ⟨Nat.le_of_ble_eq_true rfl, Nat.le_of_ble_eq_true rfl⟩, ⟨Nat.zero_le _, Nat.zero_le _⟩⟩ (fun v6 => ?_)
  refine j_if_ne (tgt := 15) C dX6_feed_9 (by decide) ?_ ?_
  · refine j_aload_n C dX6_feed_15 rfl rfl ?_
    refine j_getI (j := 6) C dX6_feed_16 FC6 (MAt.S h0) (by decide) rfl tw_809 ?_
    refine j_sipush (v := (160 : Int32)) C dX6_feed_19 (by decide) ?_
    refine j_icmp_ne (tgt := 28) C dX6_feed_22 (by decide) ?_ ?_
    · refine j_aload_n C dX6_feed_28 rfl rfl ?_
      refine j_getR (j := 5) C dX6_feed_29 FC6 (MAt.S h0) (by decide) rfl (MAt.R_tape h0) tw_808 ?_
      refine j_aload_n C dX6_feed_32 rfl rfl ?_
      refine j_getI (j := 6) C dX6_feed_33 FC6 (MAt.S h0) (by decide) rfl tw_809 ?_
      refine j_iload_n C dX6_feed_36 rfl rfl ?_
      refine j_iast C dX6_feed_37 (MAt.P_tape h0) ?_
      refine j_aload_n C dX6_feed_38 rfl rfl ?_
      refine j_pc (pc2 := 39) rfl ?_
      refine j_dup C dX6_feed_39 rfl ?_
      refine j_getI (j := 6) C dX6_feed_40 FC6 (MAt.S h0) (by decide) rfl tw_809 ?_
      refine j_iconst (v := (1 : Int32)) C dX6_feed_43 rfl ?_
      refine j_iadd C dX6_feed_44 ?_
      refine j_putI (j := 6) C dX6_feed_45 FC6 (MAt.S h0) (by decide) rfl rfl rfl rfl tw_809 ?_
      refine j_aload_n C dX6_feed_48 rfl rfl ?_
      refine j_getI (j := 6) C dX6_feed_49 FC6 (MAt.S h0) (by decide) rfl tw_809 ?_
      exact j_iretw C dX6_feed_52
    · refine j_bipush (v := (-4 : Int32)) C dX6_feed_25 (by decide) ?_
      exact j_iretw C dX6_feed_27
  · refine j_bipush (v := (-2 : Int32)) C dX6_feed_12 (by decide) ?_
    exact j_iretw C dX6_feed_14
set_option maxRecDepth 100000 in
set_option maxHeartbeats 4000000 in
theorem ct_X6_text (γ : Gm) (E : Ev) (M : Mi) (L : Ml)   (h0 : MAt E) : Ct γ yX6_text cX6_text 2 (some .int) ⟨42, 0, 0, 930⟩ [.ref (E.2.1 0)] E M L (Q_iw γ E) 0 0 (F_X6_text M L) := by
  refine ct_of (own := RX6) (lv := [some (.ref (E.2.1 0)), none]) (by decide +kernel) rfl rfl (Nat.le_of_ble_eq_true rfl) (fun κ C hγ hN => ?_)
  subst hγ
  have hn : ∀ i, i < 2 → i < knL κ := fun i h => by rw [hN]; exact h
  have k14 : ∀ (n : Nat) (M : Mi) (L : Ml) (x1 : Int32), JF κ (PQ κ (Q_iw (kγ κ) E) 0 0) 14 [some (.ref (E.2.1 0)), some (.int x1)] [] E M L 0 0 (F_X6_text_k14  n M L x1) := by
    intro n
    induction n with
    | zero => intros; exact jf_none
    | succ n ih =>
      intro M L x1
      unfold F_X6_text_k14
      refine j_iload_n C dX6_text_14 rfl rfl ?_
      refine j_aload_n C dX6_text_15 rfl rfl ?_
      refine j_getI (j := 6) C dX6_text_16 FC6 (MAt.S h0) (by decide) rfl tw_809 ?_
      refine j_icmp_ge (tgt := 49) C dX6_text_19 (by decide) ?_ ?_
      · refine j_aload_n C dX6_text_49 rfl rfl ?_
        refine j_getR (j := 2) C dX6_text_50 FC6 (MAt.S h0) (by decide) rfl (MAt.R_textSize h0) tw_805 ?_
        refine j_aload_n C dX6_text_53 rfl rfl ?_
        refine j_getI (j := 3) C dX6_text_54 FC6 (MAt.S h0) (by decide) rfl tw_806 ?_
        refine j_aload_n C dX6_text_57 rfl rfl ?_
        refine j_getI (j := 6) C dX6_text_58 FC6 (MAt.S h0) (by decide) rfl tw_809 ?_
        refine j_iast C dX6_text_61 (MAt.P_textSize h0) ?_
        refine j_pc (pc2 := 62) rfl ?_
        refine j_aload_n C dX6_text_62 rfl rfl ?_
        refine j_iconst (v := (0 : Int32)) C dX6_text_63 rfl ?_
        refine j_putI (j := 6) C dX6_text_64 FC6 (MAt.S h0) (by decide) rfl rfl rfl rfl tw_809 ?_
        refine j_aload_n C dX6_text_67 rfl rfl ?_
        refine j_aload_n C dX6_text_68 rfl rfl ?_
        refine j_getI (j := 3) C dX6_text_69 FC6 (MAt.S h0) (by decide) rfl tw_806 ?_
        refine j_iconst (v := (0 : Int32)) C dX6_text_72 rfl ?_
        refine j_callV_iw (st := []) C dX6_text_73 (ct_X6_read (kγ κ) E (up2 (up2 M 2 (Int32.toNatClampNeg (M 0 3)) (M 0 6)) 0 6 (0 : Int32)) L ((up2 (up2 M 2 (Int32.toNatClampNeg (M 0 3)) (M 0 6)) 0 6 (0 : Int32)) 0 3) (0 : Int32) h0) mi_X6_read tw_978 FC6 (MAt.S h0) rfl rfl (Nat.le_of_ble_eq_true rfl) ⟨⟨rfl, rfl⟩, ⟨Nat.le_of_ble_eq_true rfl, Nat.le_of_ble_eq_true rfl⟩, ⟨Nat.zero_le _, Nat.zero_le _⟩⟩ (fun r73 => ?_)
        refine j_pc (pc2 := 76) rfl ?_
        refine j_istore_n (i := 1) (lv' := [some (.ref (E.2.1 0)), some (.int r73.1)]) C dX6_text_76 rfl (hn 1 (by decide)) rfl ?_
        refine j_aload_n C dX6_text_77 rfl rfl ?_
        refine j_getI (j := 26) C dX6_text_78 FC6 (MAt.S h0) (by decide) rfl tw_829 ?_
        refine j_if_eq (tgt := 92) C dX6_text_81 (by decide) ?_ ?_
        · refine j_aload_n C dX6_text_92 rfl rfl ?_
          refine j_dup C dX6_text_93 rfl ?_
          refine j_getI (j := 3) C dX6_text_94 FC6 (MAt.S h0) (by decide) rfl tw_806 ?_
          refine j_iconst (v := (1 : Int32)) C dX6_text_97 rfl ?_
          refine j_iadd C dX6_text_98 ?_
          refine j_putI (j := 3) C dX6_text_99 FC6 (MAt.S h0) (by decide) rfl rfl rfl rfl tw_806 ?_
          refine j_aload_n C dX6_text_102 rfl rfl ?_
          refine j_pc (pc2 := 103) rfl ?_
          refine j_getI (j := 3) C dX6_text_103 FC6 (MAt.S h0) (by decide) rfl tw_806 ?_
          refine j_iconst (v := (1 : Int32)) C dX6_text_106 rfl ?_
          refine j_isub C dX6_text_107 ?_
          exact j_iretw C dX6_text_108
        · refine j_bipush (v := (-100 : Int32)) C dX6_text_84 (by decide) ?_
          refine j_aload_n C dX6_text_86 rfl rfl ?_
          refine j_getI (j := 27) C dX6_text_87 FC6 (MAt.S h0) (by decide) rfl tw_830 ?_
          refine j_isub C dX6_text_90 ?_
          exact j_iretw C dX6_text_91
      · refine j_aload_n C dX6_text_22 rfl rfl ?_
        refine j_getR (j := 1) C dX6_text_23 FC6 (MAt.S h0) (by decide) rfl (MAt.R_texts h0) tw_804 ?_
        refine j_sipush (v := (160 : Int32)) C dX6_text_26 (by decide) ?_
        refine j_aload_n C dX6_text_29 rfl rfl ?_
        refine j_getI (j := 3) C dX6_text_30 FC6 (MAt.S h0) (by decide) rfl tw_806 ?_
        refine j_imul C dX6_text_33 ?_
        refine j_iload_n C dX6_text_34 rfl rfl ?_
        refine j_pc (pc2 := 35) rfl ?_
        refine j_iadd C dX6_text_35 ?_
        refine j_aload_n C dX6_text_36 rfl rfl ?_
        refine j_getR (j := 5) C dX6_text_37 FC6 (MAt.S h0) (by decide) rfl (MAt.R_tape h0) tw_808 ?_
        refine j_iload_n C dX6_text_40 rfl rfl ?_
        refine j_iald C dX6_text_41 (MAt.P_tape h0) ?_
        refine j_iast C dX6_text_42 (MAt.P_texts h0) ?_
        refine j_iinc (i := 1) (v := (x1 + (1 : Int32))) (lv' := [some (.ref (E.2.1 0)), some (.int (x1 + (1 : Int32)))]) C dX6_text_43 rfl rfl (hn 1 (by decide)) rfl ?_
        refine j_goto (tgt := 14) C dX6_text_46 (by decide) ?_
        exact ih ((up2 M 1 (Int32.toNatClampNeg (((160 : Int32) * (M 0 3)) + x1)) (M 3 (Int32.toNatClampNeg x1)))) L ((x1 + (1 : Int32)))
  unfold F_X6_text
  refine j_aload_n C dX6_text_0 rfl rfl ?_
  refine j_getI (j := 3) C dX6_text_1 FC6 (MAt.S h0) (by decide) rfl tw_806 ?_
  refine j_bipush (v := (6 : Int32)) C dX6_text_4 (by decide) ?_
  refine j_icmp_ne (tgt := 12) C dX6_text_6 (by decide) ?_ ?_
  · refine j_iconst (v := (0 : Int32)) C dX6_text_12 rfl ?_
    refine j_istore_n (i := 1) (lv' := [some (.ref (E.2.1 0)), some (.int (0 : Int32))]) C dX6_text_13 rfl (hn 1 (by decide)) rfl ?_
    exact k14 FU M L ((0 : Int32))
  · refine j_bipush (v := (-4 : Int32)) C dX6_text_9 (by decide) ?_
    exact j_iretw C dX6_text_11
set_option maxRecDepth 100000 in
set_option maxHeartbeats 4000000 in
theorem ct_X6_force (γ : Gm) (E : Ev) (M : Mi) (L : Ml)  (x1 : Int32) (h0 : MAt E) : Ct γ yX6_force cX6_force 3 (some .int) ⟨1, 0, 0, 25⟩ [.ref (E.2.1 0), .int x1] E M L (Q_iw γ E) 0 0 (F_X6_force M L x1) := by
  refine ct_of (own := RX6) (lv := [some (.ref (E.2.1 0)), some (.int x1), none]) (by decide +kernel) rfl rfl (Nat.le_of_ble_eq_true rfl) (fun κ C hγ hN => ?_)
  subst hγ
  have hn : ∀ i, i < 3 → i < knL κ := fun i h => by rw [hN]; exact h
  unfold F_X6_force
  refine j_iload_n C dX6_force_0 rfl rfl ?_
  refine j_i2l C dX6_force_1 ?_
  refine j_lconst (v := (0 : Int64)) C dX6_force_2 rfl ?_
  refine j_aload_n C dX6_force_3 rfl rfl ?_
  refine j_getI (j := 3) C dX6_force_4 FC6 (MAt.S h0) (by decide) rfl tw_806 ?_
  refine j_iconst (v := (1 : Int32)) C dX6_force_7 rfl ?_
  refine j_isub C dX6_force_8 ?_
  refine j_pc (pc2 := 9) rfl ?_
  refine j_i2l C dX6_force_9 ?_
  refine j_callS_i (st := []) C dX6_force_10 (ct_X6_in (kγ κ) E M L (Int32.toInt64 x1) (0 : Int64) (Int32.toInt64 ((M 0 3) - (1 : Int32)))) mi_X6_in tw_933 rfl rfl (Nat.le_of_ble_eq_true rfl) ⟨⟨rfl, rfl⟩, ⟨Nat.le_of_ble_eq_true rfl, Nat.le_of_ble_eq_true rfl⟩, ⟨Nat.zero_le _, Nat.zero_le _⟩⟩ (fun v10 => ?_)
  refine j_if_ne (tgt := 19) C dX6_force_13 (by decide) ?_ ?_
  · refine j_aload_n C dX6_force_19 rfl rfl ?_
    refine j_getI (j := 4) C dX6_force_20 FC6 (MAt.S h0) (by decide) rfl tw_807 ?_
    refine j_istore_n (i := 2) (lv' := [some (.ref (E.2.1 0)), some (.int x1), some (.int (M 0 4))]) C dX6_force_23 rfl (hn 2 (by decide)) rfl ?_
    refine j_aload_n C dX6_force_24 rfl rfl ?_
    refine j_iload_n C dX6_force_25 rfl rfl ?_
    refine j_putI (j := 4) C dX6_force_26 FC6 (MAt.S h0) (by decide) rfl rfl rfl rfl tw_807 ?_
    refine j_iload_n C dX6_force_29 rfl rfl ?_
    refine j_pc (pc2 := 30) rfl ?_
    exact j_iretw C dX6_force_30
  · refine j_bipush (v := (-2 : Int32)) C dX6_force_16 (by decide) ?_
    exact j_iretw C dX6_force_18
set_option maxRecDepth 100000 in
set_option maxHeartbeats 4000000 in
theorem ct_X6_columnsBy (γ : Gm) (E : Ev) (M : Mi) (L : Ml)  (x0 : Int32)  : Ct γ yX6_columnsBy cX6_columnsBy 1 (some .int) ⟨0, 0, 0, 0⟩ [.int x0] E M L (Q_i γ E M L) 0 0 (F_X6_columnsBy x0) := by
  refine ct_of (own := RX6) (lv := [some (.int x0)]) (by decide +kernel) rfl rfl (Nat.le_of_ble_eq_true rfl) (fun κ C hγ hN => ?_)
  subst hγ
  have hn : ∀ i, i < 1 → i < knL κ := fun i h => by rw [hN]; exact h
  have k9 : JF κ (PQ κ (Q_i (kγ κ) E M L) 0 0) 9 [none] [] E M L 0 0 (F_X6_columnsBy_k9 ) := by
    unfold F_X6_columnsBy_k9
    refine j_iconst (v := (1 : Int32)) C dX6_columnsBy_9 rfl ?_
    refine j_goto (tgt := 44) C dX6_columnsBy_10 (by decide) ?_
    exact j_iret C dX6_columnsBy_44
  have k23 : JF κ (PQ κ (Q_i (kγ κ) E M L) 0 0) 23 [none] [] E M L 0 0 (F_X6_columnsBy_k23 ) := by
    unfold F_X6_columnsBy_k23
    refine j_iconst (v := (2 : Int32)) C dX6_columnsBy_23 rfl ?_
    refine j_goto (tgt := 44) C dX6_columnsBy_24 (by decide) ?_
    exact j_iret C dX6_columnsBy_44
  have k38 : JF κ (PQ κ (Q_i (kγ κ) E M L) 0 0) 38 [none] [] E M L 0 0 (F_X6_columnsBy_k38 ) := by
    unfold F_X6_columnsBy_k38
    refine j_iconst (v := (-1 : Int32)) C dX6_columnsBy_38 rfl ?_
    refine j_goto (tgt := 44) C dX6_columnsBy_39 (by decide) ?_
    exact j_iret C dX6_columnsBy_44
  unfold F_X6_columnsBy
  refine j_iload_n C dX6_columnsBy_0 rfl rfl ?_
  refine j_if_eq (tgt := 9) C dX6_columnsBy_1 (by decide) ?_ ?_
  · refine j_mask [false] (lv' := [none]) rfl ?_
    exact k9 
  · refine j_iload_n C dX6_columnsBy_4 rfl rfl ?_
    refine j_iconst (v := (3 : Int32)) C dX6_columnsBy_5 rfl ?_
    refine j_icmp_ne (tgt := 13) C dX6_columnsBy_6 (by decide) ?_ ?_
    · refine j_iload_n C dX6_columnsBy_13 rfl rfl ?_
      refine j_iconst (v := (1 : Int32)) C dX6_columnsBy_14 rfl ?_
      refine j_icmp_eq (tgt := 23) C dX6_columnsBy_15 (by decide) ?_ ?_
      · refine j_mask [false] (lv' := [none]) rfl ?_
        exact k23 
      · refine j_iload_n C dX6_columnsBy_18 rfl rfl ?_
        refine j_iconst (v := (2 : Int32)) C dX6_columnsBy_19 rfl ?_
        refine j_icmp_ne (tgt := 27) C dX6_columnsBy_20 (by decide) ?_ ?_
        · refine j_iload_n C dX6_columnsBy_27 rfl rfl ?_
          refine j_iconst (v := (4 : Int32)) C dX6_columnsBy_28 rfl ?_
          refine j_icmp_eq (tgt := 38) C dX6_columnsBy_29 (by decide) ?_ ?_
          · refine j_mask [false] (lv' := [none]) rfl ?_
            exact k38 
          · refine j_iload_n C dX6_columnsBy_32 rfl rfl ?_
            refine j_bipush (v := (7 : Int32)) C dX6_columnsBy_33 (by decide) ?_
            refine j_icmp_ne (tgt := 42) C dX6_columnsBy_35 (by decide) ?_ ?_
            · refine j_bipush (v := (-2 : Int32)) C dX6_columnsBy_42 (by decide) ?_
              exact j_iret C dX6_columnsBy_44
            · refine j_mask [false] (lv' := [none]) rfl ?_
              exact k38 
        · refine j_mask [false] (lv' := [none]) rfl ?_
          exact k23 
    · refine j_mask [false] (lv' := [none]) rfl ?_
      exact k9 
set_option maxRecDepth 100000 in
set_option maxHeartbeats 4000000 in
theorem ct_X6_rowsBy (γ : Gm) (E : Ev) (M : Mi) (L : Ml)  (x0 : Int32)  : Ct γ yX6_rowsBy cX6_rowsBy 1 (some .int) ⟨0, 0, 0, 0⟩ [.int x0] E M L (Q_i γ E M L) 0 0 (F_X6_rowsBy x0) := by
  refine ct_of (own := RX6) (lv := [some (.int x0)]) (by decide +kernel) rfl rfl (Nat.le_of_ble_eq_true rfl) (fun κ C hγ hN => ?_)
  subst hγ
  have hn : ∀ i, i < 1 → i < knL κ := fun i h => by rw [hN]; exact h
  have k10 : JF κ (PQ κ (Q_i (kγ κ) E M L) 0 0) 10 [none] [] E M L 0 0 (F_X6_rowsBy_k10 ) := by
    unfold F_X6_rowsBy_k10
    refine j_iconst (v := (2 : Int32)) C dX6_rowsBy_10 rfl ?_
    refine j_goto (tgt := 45) C dX6_rowsBy_11 (by decide) ?_
    exact j_iret C dX6_rowsBy_45
  have k25 : JF κ (PQ κ (Q_i (kγ κ) E M L) 0 0) 25 [none] [] E M L 0 0 (F_X6_rowsBy_k25 ) := by
    unfold F_X6_rowsBy_k25
    refine j_iconst (v := (1 : Int32)) C dX6_rowsBy_25 rfl ?_
    refine j_goto (tgt := 45) C dX6_rowsBy_26 (by decide) ?_
    exact j_iret C dX6_rowsBy_45
  have k39 : JF κ (PQ κ (Q_i (kγ κ) E M L) 0 0) 39 [none] [] E M L 0 0 (F_X6_rowsBy_k39 ) := by
    unfold F_X6_rowsBy_k39
    refine j_iconst (v := (-1 : Int32)) C dX6_rowsBy_39 rfl ?_
    refine j_goto (tgt := 45) C dX6_rowsBy_40 (by decide) ?_
    exact j_iret C dX6_rowsBy_45
  unfold F_X6_rowsBy
  refine j_iload_n C dX6_rowsBy_0 rfl rfl ?_
  refine j_if_eq (tgt := 10) C dX6_rowsBy_1 (by decide) ?_ ?_
  · refine j_mask [false] (lv' := [none]) rfl ?_
    exact k10 
  · refine j_iload_n C dX6_rowsBy_4 rfl rfl ?_
    refine j_bipush (v := (7 : Int32)) C dX6_rowsBy_5 (by decide) ?_
    refine j_icmp_ne (tgt := 14) C dX6_rowsBy_7 (by decide) ?_ ?_
    · refine j_iload_n C dX6_rowsBy_14 rfl rfl ?_
      refine j_iconst (v := (1 : Int32)) C dX6_rowsBy_15 rfl ?_
      refine j_icmp_eq (tgt := 25) C dX6_rowsBy_16 (by decide) ?_ ?_
      · refine j_mask [false] (lv' := [none]) rfl ?_
        exact k25 
      · refine j_iload_n C dX6_rowsBy_19 rfl rfl ?_
        refine j_bipush (v := (6 : Int32)) C dX6_rowsBy_20 (by decide) ?_
        refine j_icmp_ne (tgt := 29) C dX6_rowsBy_22 (by decide) ?_ ?_
        · refine j_iload_n C dX6_rowsBy_29 rfl rfl ?_
          refine j_iconst (v := (2 : Int32)) C dX6_rowsBy_30 rfl ?_
          refine j_icmp_eq (tgt := 39) C dX6_rowsBy_31 (by decide) ?_ ?_
          · refine j_mask [false] (lv' := [none]) rfl ?_
            exact k39 
          · refine j_iload_n C dX6_rowsBy_34 rfl rfl ?_
            refine j_iconst (v := (5 : Int32)) C dX6_rowsBy_35 rfl ?_
            refine j_icmp_ne (tgt := 43) C dX6_rowsBy_36 (by decide) ?_ ?_
            · refine j_bipush (v := (-2 : Int32)) C dX6_rowsBy_43 (by decide) ?_
              exact j_iret C dX6_rowsBy_45
            · refine j_mask [false] (lv' := [none]) rfl ?_
              exact k39 
        · refine j_mask [false] (lv' := [none]) rfl ?_
          exact k25 
    · refine j_mask [false] (lv' := [none]) rfl ?_
      exact k10 
set_option maxRecDepth 100000 in
set_option maxHeartbeats 4000000 in
theorem ct_X6_leapFrom (γ : Gm) (E : Ev) (M : Mi) (L : Ml)  (x1 : Int32) (x2 : Int32) (x3 : Int32) (h0 : MAt E) : Ct γ yX6_leapFrom cX6_leapFrom 10 (some .int) ⟨1, 0, 0, 25⟩ [.ref (E.2.1 0), .int x1, .int x2, .int x3] E M L (Q_i γ E M L) 0 0 (F_X6_leapFrom M L x1 x2 x3) := by
  refine ct_of (own := RX6) (lv := [some (.ref (E.2.1 0)), some (.int x1), some (.int x2), some (.int x3), none, none, none, none, none, none]) (by decide +kernel) rfl rfl (Nat.le_of_ble_eq_true rfl) (fun κ C hγ hN => ?_)
  subst hγ
  have hn : ∀ i, i < 10 → i < knL κ := fun i h => by rw [hN]; exact h
  have k206 : ∀ (x2 : Int32) (x6 : Int32) (x7 : Int32), JF κ (PQ κ (Q_i (kγ κ) E M L) 0 0) 206 [some (.ref (E.2.1 0)), none, some (.int x2), none, none, none, some (.int x6), some (.int x7), none, none] [] E M L 0 0 (F_X6_leapFrom_k206 M L x2 x6 x7) := by
    intro x2 x6 x7
    unfold F_X6_leapFrom_k206
    refine j_iload_n C dX6_leapFrom_206 rfl rfl ?_
    refine j_bipush (v := (8 : Int32)) C dX6_leapFrom_207 (by decide) ?_
    refine j_iremc C dX6_leapFrom_209 (by decide) ?_
    refine j_iload C dX6_leapFrom_210 rfl ?_
    refine j_iadd C dX6_leapFrom_212 ?_
    refine j_istore (i := 8) (lv' := [some (.ref (E.2.1 0)), none, some (.int x2), none, none, none, some (.int x6), some (.int x7), some (.int ((irm x2 (8 : Int32)) + x6)), none]) C dX6_leapFrom_213 (hn 8 (by decide)) rfl ?_
    refine j_iload_n C dX6_leapFrom_215 rfl rfl ?_
    refine j_pc (pc2 := 216) rfl ?_
    refine j_bipush (v := (8 : Int32)) C dX6_leapFrom_216 (by decide) ?_
    refine j_idivc C dX6_leapFrom_218 (by decide) ?_
    refine j_iload C dX6_leapFrom_219 rfl ?_
    refine j_iadd C dX6_leapFrom_221 ?_
    refine j_istore (i := 9) (lv' := [some (.ref (E.2.1 0)), none, some (.int x2), none, none, none, some (.int x6), some (.int x7), some (.int ((irm x2 (8 : Int32)) + x6)), some (.int ((x2 / (8 : Int32)) + x7))]) C dX6_leapFrom_222 (hn 9 (by decide)) rfl ?_
    refine j_iload C dX6_leapFrom_224 rfl ?_
    refine j_i2l C dX6_leapFrom_226 ?_
    refine j_lconst (v := (0 : Int64)) C dX6_leapFrom_227 rfl ?_
    refine j_pc (pc2 := 228) rfl ?_
    refine j_ldc2 (v := (7 : Int64)) C dX6_leapFrom_228 tw_1225 ?_
    refine j_callS_i (st := []) C dX6_leapFrom_231 (ct_X6_in (kγ κ) E M L (Int32.toInt64 ((irm x2 (8 : Int32)) + x6)) (0 : Int64) (7 : Int64)) mi_X6_in tw_933 rfl rfl (Nat.le_of_ble_eq_true rfl) ⟨⟨rfl, rfl⟩, ⟨Nat.le_of_ble_eq_true rfl, Nat.le_of_ble_eq_true rfl⟩, ⟨Nat.zero_le _, Nat.zero_le _⟩⟩ (fun v231 => ?_)
    refine j_if_eq (tgt := 268) C dX6_leapFrom_234 (by decide) ?_ ?_
    · refine j_iconst (v := (-1 : Int32)) C dX6_leapFrom_268 rfl ?_
      exact j_iret C dX6_leapFrom_269
    · refine j_iload C dX6_leapFrom_237 rfl ?_
      refine j_i2l C dX6_leapFrom_239 ?_
      refine j_lconst (v := (0 : Int64)) C dX6_leapFrom_240 rfl ?_
      refine j_ldc2 (v := (7 : Int64)) C dX6_leapFrom_241 tw_1225 ?_
      refine j_callS_i (st := []) C dX6_leapFrom_244 (ct_X6_in (kγ κ) E M L (Int32.toInt64 ((x2 / (8 : Int32)) + x7)) (0 : Int64) (7 : Int64)) mi_X6_in tw_933 rfl rfl (Nat.le_of_ble_eq_true rfl) ⟨⟨rfl, rfl⟩, ⟨Nat.le_of_ble_eq_true rfl, Nat.le_of_ble_eq_true rfl⟩, ⟨Nat.zero_le _, Nat.zero_le _⟩⟩ (fun v244 => ?_)
      refine j_if_eq (tgt := 268) C dX6_leapFrom_247 (by decide) ?_ ?_
      · refine j_iconst (v := (-1 : Int32)) C dX6_leapFrom_268 rfl ?_
        exact j_iret C dX6_leapFrom_269
      · refine j_aload_n C dX6_leapFrom_250 rfl rfl ?_
        refine j_getL (j := 9) C dX6_leapFrom_251 FC6 (MAt.S h0) (by decide) rfl tw_812 ?_
        refine j_bipush (v := (8 : Int32)) C dX6_leapFrom_254 (by decide) ?_
        refine j_iload C dX6_leapFrom_256 rfl ?_
        refine j_imul C dX6_leapFrom_258 ?_
        refine j_iload C dX6_leapFrom_259 rfl ?_
        refine j_iadd C dX6_leapFrom_261 ?_
        refine j_pc (pc2 := 262) rfl ?_
        refine j_callS_i (st := []) C dX6_leapFrom_262 (ct_X6_has (kγ κ) E M L (L 0 9) (((8 : Int32) * ((x2 / (8 : Int32)) + x7)) + ((irm x2 (8 : Int32)) + x6))) mi_X6_has tw_959 rfl rfl (Nat.le_of_ble_eq_true rfl) ⟨⟨rfl, rfl⟩, ⟨Nat.le_of_ble_eq_true rfl, Nat.le_of_ble_eq_true rfl⟩, ⟨Nat.zero_le _, Nat.zero_le _⟩⟩ (fun v262 => ?_)
        refine j_if_eq (tgt := 270) C dX6_leapFrom_265 (by decide) ?_ ?_
        · refine j_bipush (v := (8 : Int32)) C dX6_leapFrom_270 (by decide) ?_
          refine j_iload C dX6_leapFrom_272 rfl ?_
          refine j_imul C dX6_leapFrom_274 ?_
          refine j_iload C dX6_leapFrom_275 rfl ?_
          refine j_iadd C dX6_leapFrom_277 ?_
          exact j_iret C dX6_leapFrom_278
        · refine j_iconst (v := (-1 : Int32)) C dX6_leapFrom_268 rfl ?_
          exact j_iret C dX6_leapFrom_269
  have k204 : ∀ (x2 : Int32) (x6 : Int32) (s0 : Int32), JF κ (PQ κ (Q_i (kγ κ) E M L) 0 0) 204 [some (.ref (E.2.1 0)), none, some (.int x2), none, none, none, some (.int x6), none, none, none] [.int s0] E M L 0 0 (F_X6_leapFrom_k204 M L x2 x6 s0) := by
    intro x2 x6 s0
    unfold F_X6_leapFrom_k204
    refine j_istore (i := 7) (lv' := [some (.ref (E.2.1 0)), none, some (.int x2), none, none, none, some (.int x6), some (.int s0), none, none]) C dX6_leapFrom_204 (hn 7 (by decide)) rfl ?_
    exact k206 x2 x6 s0
  have k184 : ∀ (x2 : Int32) (x3 : Int32) (s0 : Int32), JF κ (PQ κ (Q_i (kγ κ) E M L) 0 0) 184 [some (.ref (E.2.1 0)), none, some (.int x2), some (.int x3), none, none, none, none, none, none] [.int s0] E M L 0 0 (F_X6_leapFrom_k184 M L x2 x3 s0) := by
    intro x2 x3 s0
    unfold F_X6_leapFrom_k184
    refine j_istore (i := 6) (lv' := [some (.ref (E.2.1 0)), none, some (.int x2), some (.int x3), none, none, some (.int s0), none, none, none]) C dX6_leapFrom_184 (hn 6 (by decide)) rfl ?_
    refine j_iload_n C dX6_leapFrom_186 rfl rfl ?_
    refine j_if_ne (tgt := 194) C dX6_leapFrom_187 (by decide) ?_ ?_
    · refine j_iload_n C dX6_leapFrom_194 rfl rfl ?_
      refine j_iconst (v := (4 : Int32)) C dX6_leapFrom_195 rfl ?_
      refine j_icmp_ne (tgt := 203) C dX6_leapFrom_196 (by decide) ?_ ?_
      · refine j_iconst (v := (0 : Int32)) C dX6_leapFrom_203 rfl ?_
        refine j_mask [true, false, true, false, false, false, true, false, false, false] (lv' := [some (.ref (E.2.1 0)), none, some (.int x2), none, none, none, some (.int s0), none, none, none]) rfl ?_
        exact k204 x2 s0 ((0 : Int32))
      · refine j_iconst (v := (-1 : Int32)) C dX6_leapFrom_199 rfl ?_
        refine j_goto (tgt := 204) C dX6_leapFrom_200 (by decide) ?_
        refine j_mask [true, false, true, false, false, false, true, false, false, false] (lv' := [some (.ref (E.2.1 0)), none, some (.int x2), none, none, none, some (.int s0), none, none, none]) rfl ?_
        exact k204 x2 s0 ((-1 : Int32))
    · refine j_iconst (v := (1 : Int32)) C dX6_leapFrom_190 rfl ?_
      refine j_goto (tgt := 204) C dX6_leapFrom_191 (by decide) ?_
      refine j_mask [true, false, true, false, false, false, true, false, false, false] (lv' := [some (.ref (E.2.1 0)), none, some (.int x2), none, none, none, some (.int s0), none, none, none]) rfl ?_
      exact k204 x2 s0 ((1 : Int32))
  have k159 : ∀ (x2 : Int32) (x3 : Int32) (x5 : Int32) (x6 : Int32) (x7 : Int32), JF κ (PQ κ (Q_i (kγ κ) E M L) 0 0) 159 [some (.ref (E.2.1 0)), none, some (.int x2), some (.int x3), none, some (.int x5), some (.int x6), some (.int x7), none, none] [] E M L 0 0 (F_X6_leapFrom_k159 M L x2 x3 x5 x6 x7) := by
    intro x2 x3 x5 x6 x7
    unfold F_X6_leapFrom_k159
    refine j_iload C dX6_leapFrom_159 rfl ?_
    refine j_if_eq (tgt := 206) C dX6_leapFrom_161 (by decide) ?_ ?_
    · refine j_mask [true, false, true, false, false, false, true, true, false, false] (lv' := [some (.ref (E.2.1 0)), none, some (.int x2), none, none, none, some (.int x6), some (.int x7), none, none]) rfl ?_
      exact k206 x2 x6 x7
    · refine j_iload_n C dX6_leapFrom_164 rfl rfl ?_
      refine j_iconst (v := (2 : Int32)) C dX6_leapFrom_165 rfl ?_
      refine j_icmp_ne (tgt := 173) C dX6_leapFrom_166 (by decide) ?_ ?_
      · refine j_iload_n C dX6_leapFrom_173 rfl rfl ?_
        refine j_bipush (v := (6 : Int32)) C dX6_leapFrom_174 (by decide) ?_
        refine j_icmp_ne (tgt := 183) C dX6_leapFrom_176 (by decide) ?_ ?_
        · refine j_iconst (v := (0 : Int32)) C dX6_leapFrom_183 rfl ?_
          refine j_mask [true, false, true, true, false, false, false, false, false, false] (lv' := [some (.ref (E.2.1 0)), none, some (.int x2), some (.int x3), none, none, none, none, none, none]) rfl ?_
          exact k184 x2 x3 ((0 : Int32))
        · refine j_iconst (v := (-1 : Int32)) C dX6_leapFrom_179 rfl ?_
          refine j_goto (tgt := 184) C dX6_leapFrom_180 (by decide) ?_
          refine j_mask [true, false, true, true, false, false, false, false, false, false] (lv' := [some (.ref (E.2.1 0)), none, some (.int x2), some (.int x3), none, none, none, none, none, none]) rfl ?_
          exact k184 x2 x3 ((-1 : Int32))
      · refine j_iconst (v := (1 : Int32)) C dX6_leapFrom_169 rfl ?_
        refine j_goto (tgt := 184) C dX6_leapFrom_170 (by decide) ?_
        refine j_mask [true, false, true, true, false, false, false, false, false, false] (lv' := [some (.ref (E.2.1 0)), none, some (.int x2), some (.int x3), none, none, none, none, none, none]) rfl ?_
        exact k184 x2 x3 ((1 : Int32))
  have k157 : ∀ (x2 : Int32) (x3 : Int32) (x5 : Int32) (x6 : Int32) (s0 : Int32), JF κ (PQ κ (Q_i (kγ κ) E M L) 0 0) 157 [some (.ref (E.2.1 0)), none, some (.int x2), some (.int x3), none, some (.int x5), some (.int x6), none, none, none] [.int s0] E M L 0 0 (F_X6_leapFrom_k157 M L x2 x3 x5 x6 s0) := by
    intro x2 x3 x5 x6 s0
    unfold F_X6_leapFrom_k157
    refine j_istore (i := 7) (lv' := [some (.ref (E.2.1 0)), none, some (.int x2), some (.int x3), none, some (.int x5), some (.int x6), some (.int s0), none, none]) C dX6_leapFrom_157 (hn 7 (by decide)) rfl ?_
    exact k159 x2 x3 x5 x6 s0
  have k151 : ∀ (x2 : Int32) (x3 : Int32) (x5 : Int32) (x6 : Int32), JF κ (PQ κ (Q_i (kγ κ) E M L) 0 0) 151 [some (.ref (E.2.1 0)), none, some (.int x2), some (.int x3), none, some (.int x5), some (.int x6), none, none, none] [] E M L 0 0 (F_X6_leapFrom_k151 M L x2 x3 x5 x6) := by
    intro x2 x3 x5 x6
    unfold F_X6_leapFrom_k151
    refine j_iconst (v := (2 : Int32)) C dX6_leapFrom_151 rfl ?_
    refine j_goto (tgt := 157) C dX6_leapFrom_152 (by decide) ?_
    exact k157 x2 x3 x5 x6 ((2 : Int32))
  have k140 : ∀ (x2 : Int32) (x3 : Int32) (x5 : Int32) (s0 : Int32), JF κ (PQ κ (Q_i (kγ κ) E M L) 0 0) 140 [some (.ref (E.2.1 0)), none, some (.int x2), some (.int x3), none, some (.int x5), none, none, none, none] [.int s0] E M L 0 0 (F_X6_leapFrom_k140 M L x2 x3 x5 s0) := by
    intro x2 x3 x5 s0
    unfold F_X6_leapFrom_k140
    refine j_istore (i := 6) (lv' := [some (.ref (E.2.1 0)), none, some (.int x2), some (.int x3), none, some (.int x5), some (.int s0), none, none, none]) C dX6_leapFrom_140 (hn 6 (by decide)) rfl ?_
    refine j_iload_n C dX6_leapFrom_142 rfl rfl ?_
    refine j_if_eq (tgt := 151) C dX6_leapFrom_143 (by decide) ?_ ?_
    · exact k151 x2 x3 x5 s0
    · refine j_iload_n C dX6_leapFrom_146 rfl rfl ?_
      refine j_iconst (v := (3 : Int32)) C dX6_leapFrom_147 rfl ?_
      refine j_icmp_ne (tgt := 155) C dX6_leapFrom_148 (by decide) ?_ ?_
      · refine j_bipush (v := (-2 : Int32)) C dX6_leapFrom_155 (by decide) ?_
        exact k157 x2 x3 x5 s0 ((-2 : Int32))
      · exact k151 x2 x3 x5 s0
  have k124 : ∀ (x2 : Int32) (x3 : Int32) (x5 : Int32) (x6 : Int32) (x7 : Int32), JF κ (PQ κ (Q_i (kγ κ) E M L) 0 0) 124 [some (.ref (E.2.1 0)), none, some (.int x2), some (.int x3), none, some (.int x5), some (.int x6), some (.int x7), none, none] [] E M L 0 0 (F_X6_leapFrom_k124 M L x2 x3 x5 x6 x7) := by
    intro x2 x3 x5 x6 x7
    unfold F_X6_leapFrom_k124
    refine j_iload_n C dX6_leapFrom_124 rfl rfl ?_
    refine j_iconst (v := (4 : Int32)) C dX6_leapFrom_125 rfl ?_
    refine j_icmp_ge (tgt := 159) C dX6_leapFrom_126 (by decide) ?_ ?_
    · exact k159 x2 x3 x5 x6 x7
    · refine j_iload_n C dX6_leapFrom_129 rfl rfl ?_
      refine j_iconst (v := (2 : Int32)) C dX6_leapFrom_130 rfl ?_
      refine j_icmp_ge (tgt := 138) C dX6_leapFrom_131 (by decide) ?_ ?_
      · refine j_bipush (v := (-2 : Int32)) C dX6_leapFrom_138 (by decide) ?_
        refine j_mask [true, false, true, true, false, true, false, false, false, false] (lv' := [some (.ref (E.2.1 0)), none, some (.int x2), some (.int x3), none, some (.int x5), none, none, none, none]) rfl ?_
        exact k140 x2 x3 x5 ((-2 : Int32))
      · refine j_iconst (v := (2 : Int32)) C dX6_leapFrom_134 rfl ?_
        refine j_goto (tgt := 140) C dX6_leapFrom_135 (by decide) ?_
        refine j_mask [true, false, true, true, false, true, false, false, false, false] (lv' := [some (.ref (E.2.1 0)), none, some (.int x2), some (.int x3), none, some (.int x5), none, none, none, none]) rfl ?_
        exact k140 x2 x3 x5 ((2 : Int32))
  have k100 : ∀ (x2 : Int32) (x3 : Int32) (x4 : Int32) (x5 : Int32), JF κ (PQ κ (Q_i (kγ κ) E M L) 0 0) 100 [some (.ref (E.2.1 0)), none, some (.int x2), some (.int x3), some (.int x4), some (.int x5), none, none, none, none] [] E M L 0 0 (F_X6_leapFrom_k100 M L x2 x3 x4 x5) := by
    intro x2 x3 x4 x5
    unfold F_X6_leapFrom_k100
    refine j_iload_n C dX6_leapFrom_100 rfl rfl ?_
    refine j_callS_i (st := []) C dX6_leapFrom_101 (ct_X6_columnsBy (kγ κ) E M L x3) mi_X6_columnsBy tw_1230 rfl rfl (Nat.le_of_ble_eq_true rfl) ⟨⟨rfl, rfl⟩, ⟨Nat.le_of_ble_eq_true rfl, Nat.le_of_ble_eq_true rfl⟩, ⟨Nat.zero_le _, Nat.zero_le _⟩⟩ (fun v101 => ?_)
    refine j_istore (i := 6) (lv' := [some (.ref (E.2.1 0)), none, some (.int x2), some (.int x3), some (.int x4), some (.int x5), some (.int v101), none, none, none]) C dX6_leapFrom_104 (hn 6 (by decide)) rfl ?_
    refine j_iload_n C dX6_leapFrom_106 rfl rfl ?_
    refine j_callS_i (st := []) C dX6_leapFrom_107 (ct_X6_rowsBy (kγ κ) E M L x3) mi_X6_rowsBy tw_1233 rfl rfl (Nat.le_of_ble_eq_true rfl) ⟨⟨rfl, rfl⟩, ⟨Nat.le_of_ble_eq_true rfl, Nat.le_of_ble_eq_true rfl⟩, ⟨Nat.zero_le _, Nat.zero_le _⟩⟩ (fun v107 => ?_)
    refine j_istore (i := 7) (lv' := [some (.ref (E.2.1 0)), none, some (.int x2), some (.int x3), some (.int x4), some (.int x5), some (.int v101), some (.int v107), none, none]) C dX6_leapFrom_110 (hn 7 (by decide)) rfl ?_
    refine j_iload C dX6_leapFrom_112 rfl ?_
    refine j_pc (pc2 := 114) rfl ?_
    refine j_iconst (v := (1 : Int32)) C dX6_leapFrom_114 rfl ?_
    refine j_icmp_eq (tgt := 124) C dX6_leapFrom_115 (by decide) ?_ ?_
    · refine j_mask [true, false, true, true, false, true, true, true, false, false] (lv' := [some (.ref (E.2.1 0)), none, some (.int x2), some (.int x3), none, some (.int x5), some (.int v101), some (.int v107), none, none]) rfl ?_
      exact k124 x2 x3 x5 v101 v107
    · refine j_iload C dX6_leapFrom_118 rfl ?_
      refine j_iconst (v := (3 : Int32)) C dX6_leapFrom_120 rfl ?_
      refine j_icmp_ne (tgt := 159) C dX6_leapFrom_121 (by decide) ?_ ?_
      · refine j_mask [true, false, true, true, false, true, true, true, false, false] (lv' := [some (.ref (E.2.1 0)), none, some (.int x2), some (.int x3), none, some (.int x5), some (.int v101), some (.int v107), none, none]) rfl ?_
        exact k159 x2 x3 x5 v101 v107
      · refine j_mask [true, false, true, true, false, true, true, true, false, false] (lv' := [some (.ref (E.2.1 0)), none, some (.int x2), some (.int x3), none, some (.int x5), some (.int v101), some (.int v107), none, none]) rfl ?_
        exact k124 x2 x3 x5 v101 v107
  have k77 : ∀ (x1 : Int32) (x2 : Int32) (x3 : Int32) (x4 : Int32) (x5 : Int32), JF κ (PQ κ (Q_i (kγ κ) E M L) 0 0) 77 [some (.ref (E.2.1 0)), some (.int x1), some (.int x2), some (.int x3), some (.int x4), some (.int x5), none, none, none, none] [] E M L 0 0 (F_X6_leapFrom_k77 M L x1 x2 x3 x4 x5) := by
    intro x1 x2 x3 x4 x5
    unfold F_X6_leapFrom_k77
    refine j_iload C dX6_leapFrom_77 rfl ?_
    refine j_iconst (v := (5 : Int32)) C dX6_leapFrom_79 rfl ?_
    refine j_icmp_ne (tgt := 100) C dX6_leapFrom_80 (by decide) ?_ ?_
    · refine j_mask [true, false, true, true, true, true, false, false, false, false] (lv' := [some (.ref (E.2.1 0)), none, some (.int x2), some (.int x3), some (.int x4), some (.int x5), none, none, none, none]) rfl ?_
      exact k100 x2 x3 x4 x5
    · refine j_aload_n C dX6_leapFrom_83 rfl rfl ?_
      refine j_getR (j := 10) C dX6_leapFrom_84 FC6 (MAt.S h0) (by decide) rfl (MAt.R_rows h0) tw_813 ?_
      refine j_iconst (v := (4 : Int32)) C dX6_leapFrom_87 rfl ?_
      refine j_iload_n C dX6_leapFrom_88 rfl rfl ?_
      refine j_imul C dX6_leapFrom_89 ?_
      refine j_iconst (v := (2 : Int32)) C dX6_leapFrom_90 rfl ?_
      refine j_iadd C dX6_leapFrom_91 ?_
      refine j_pc (pc2 := 92) rfl ?_
      refine j_iald C dX6_leapFrom_92 (MAt.P_rows h0) ?_
      refine j_bipush (v := (49 : Int32)) C dX6_leapFrom_93 (by decide) ?_
      refine j_icmp_le (tgt := 100) C dX6_leapFrom_95 (by decide) ?_ ?_
      · refine j_mask [true, false, true, true, true, true, false, false, false, false] (lv' := [some (.ref (E.2.1 0)), none, some (.int x2), some (.int x3), some (.int x4), some (.int x5), none, none, none, none]) rfl ?_
        exact k100 x2 x3 x4 x5
      · refine j_iconst (v := (-1 : Int32)) C dX6_leapFrom_98 rfl ?_
        exact j_iret C dX6_leapFrom_99
  have k61 : ∀ (x1 : Int32) (x2 : Int32) (x3 : Int32) (x4 : Int32) (x5 : Int32), JF κ (PQ κ (Q_i (kγ κ) E M L) 0 0) 61 [some (.ref (E.2.1 0)), some (.int x1), some (.int x2), some (.int x3), some (.int x4), some (.int x5), none, none, none, none] [] E M L 0 0 (F_X6_leapFrom_k61 M L x1 x2 x3 x4 x5) := by
    intro x1 x2 x3 x4 x5
    unfold F_X6_leapFrom_k61
    refine j_iload C dX6_leapFrom_61 rfl ?_
    refine j_iconst (v := (4 : Int32)) C dX6_leapFrom_63 rfl ?_
    refine j_icmp_ne (tgt := 77) C dX6_leapFrom_64 (by decide) ?_ ?_
    · exact k77 x1 x2 x3 x4 x5
    · refine j_aload_n C dX6_leapFrom_67 rfl rfl ?_
      refine j_getI (j := 7) C dX6_leapFrom_68 FC6 (MAt.S h0) (by decide) rfl tw_810 ?_
      refine j_iconst (v := (2 : Int32)) C dX6_leapFrom_71 rfl ?_
      refine j_iremc C dX6_leapFrom_72 (by decide) ?_
      refine j_iconst (v := (1 : Int32)) C dX6_leapFrom_73 rfl ?_
      refine j_icmp_eq (tgt := 98) C dX6_leapFrom_74 (by decide) ?_ ?_
      · refine j_iconst (v := (-1 : Int32)) C dX6_leapFrom_98 rfl ?_
        exact j_iret C dX6_leapFrom_99
      · exact k77 x1 x2 x3 x4 x5
  have k43 : ∀ (x1 : Int32) (x2 : Int32) (x3 : Int32) (x4 : Int32) (x5 : Int32), JF κ (PQ κ (Q_i (kγ κ) E M L) 0 0) 43 [some (.ref (E.2.1 0)), some (.int x1), some (.int x2), some (.int x3), some (.int x4), some (.int x5), none, none, none, none] [] E M L 0 0 (F_X6_leapFrom_k43 M L x1 x2 x3 x4 x5) := by
    intro x1 x2 x3 x4 x5
    unfold F_X6_leapFrom_k43
    refine j_iload C dX6_leapFrom_43 rfl ?_
    refine j_iconst (v := (3 : Int32)) C dX6_leapFrom_45 rfl ?_
    refine j_icmp_ne (tgt := 61) C dX6_leapFrom_46 (by decide) ?_ ?_
    · exact k61 x1 x2 x3 x4 x5
    · refine j_iload_n C dX6_leapFrom_49 rfl rfl ?_
      refine j_aload_n C dX6_leapFrom_50 rfl rfl ?_
      refine j_getR (j := 10) C dX6_leapFrom_51 FC6 (MAt.S h0) (by decide) rfl (MAt.R_rows h0) tw_813 ?_
      refine j_iconst (v := (4 : Int32)) C dX6_leapFrom_54 rfl ?_
      refine j_iload_n C dX6_leapFrom_55 rfl rfl ?_
      refine j_imul C dX6_leapFrom_56 ?_
      refine j_iald C dX6_leapFrom_57 (MAt.P_rows h0) ?_
      refine j_pc (pc2 := 58) rfl ?_
      refine j_icmp_eq (tgt := 98) C dX6_leapFrom_58 (by decide) ?_ ?_
      · refine j_iconst (v := (-1 : Int32)) C dX6_leapFrom_98 rfl ?_
        exact j_iret C dX6_leapFrom_99
      · exact k61 x1 x2 x3 x4 x5
  have k29 : ∀ (x1 : Int32) (x2 : Int32) (x3 : Int32) (x4 : Int32) (s0 : Int32), JF κ (PQ κ (Q_i (kγ κ) E M L) 0 0) 29 [some (.ref (E.2.1 0)), some (.int x1), some (.int x2), some (.int x3), some (.int x4), none, none, none, none, none] [.int s0] E M L 0 0 (F_X6_leapFrom_k29 M L x1 x2 x3 x4 s0) := by
    intro x1 x2 x3 x4 s0
    unfold F_X6_leapFrom_k29
    refine j_istore (i := 5) (lv' := [some (.ref (E.2.1 0)), some (.int x1), some (.int x2), some (.int x3), some (.int x4), some (.int s0), none, none, none, none]) C dX6_leapFrom_29 (hn 5 (by decide)) rfl ?_
    refine j_iload C dX6_leapFrom_31 rfl ?_
    refine j_if_eq (tgt := 43) C dX6_leapFrom_33 (by decide) ?_ ?_
    · exact k43 x1 x2 x3 x4 s0
    · refine j_iload_n C dX6_leapFrom_36 rfl rfl ?_
      refine j_iconst (v := (2 : Int32)) C dX6_leapFrom_37 rfl ?_
      refine j_iremc C dX6_leapFrom_38 (by decide) ?_
      refine j_iconst (v := (1 : Int32)) C dX6_leapFrom_39 rfl ?_
      refine j_icmp_eq (tgt := 98) C dX6_leapFrom_40 (by decide) ?_ ?_
      · refine j_iconst (v := (-1 : Int32)) C dX6_leapFrom_98 rfl ?_
        exact j_iret C dX6_leapFrom_99
      · exact k43 x1 x2 x3 x4 s0
  have k24 : ∀ (x1 : Int32) (x2 : Int32) (x3 : Int32) (x4 : Int32), JF κ (PQ κ (Q_i (kγ κ) E M L) 0 0) 24 [some (.ref (E.2.1 0)), some (.int x1), some (.int x2), some (.int x3), some (.int x4), none, none, none, none, none] [] E M L 0 0 (F_X6_leapFrom_k24 M L x1 x2 x3 x4) := by
    intro x1 x2 x3 x4
    unfold F_X6_leapFrom_k24
    refine j_iconst (v := (1 : Int32)) C dX6_leapFrom_24 rfl ?_
    refine j_goto (tgt := 29) C dX6_leapFrom_25 (by decide) ?_
    exact k29 x1 x2 x3 x4 ((1 : Int32))
  unfold F_X6_leapFrom
  refine j_aload_n C dX6_leapFrom_0 rfl rfl ?_
  refine j_getR (j := 10) C dX6_leapFrom_1 FC6 (MAt.S h0) (by decide) rfl (MAt.R_rows h0) tw_813 ?_
  refine j_iconst (v := (4 : Int32)) C dX6_leapFrom_4 rfl ?_
  refine j_iload_n C dX6_leapFrom_5 rfl rfl ?_
  refine j_imul C dX6_leapFrom_6 ?_
  refine j_iconst (v := (3 : Int32)) C dX6_leapFrom_7 rfl ?_
  refine j_iadd C dX6_leapFrom_8 ?_
  refine j_pc (pc2 := 9) rfl ?_
  refine j_iald C dX6_leapFrom_9 (MAt.P_rows h0) ?_
  refine j_nmi (fun z10 => ?_)
  refine j_istore (i := 4) (lv' := [some (.ref (E.2.1 0)), some (.int x1), some (.int x2), some (.int x3), some (.int z10), none, none, none, none, none]) C dX6_leapFrom_10 (hn 4 (by decide)) rfl ?_
  refine j_iload C dX6_leapFrom_12 rfl ?_
  refine j_iconst (v := (2 : Int32)) C dX6_leapFrom_14 rfl ?_
  refine j_icmp_eq (tgt := 24) C dX6_leapFrom_15 (by decide) ?_ ?_
  · exact k24 x1 x2 x3 z10
  · refine j_iload C dX6_leapFrom_18 rfl ?_
    refine j_iconst (v := (4 : Int32)) C dX6_leapFrom_20 rfl ?_
    refine j_icmp_ne (tgt := 28) C dX6_leapFrom_21 (by decide) ?_ ?_
    · refine j_iconst (v := (0 : Int32)) C dX6_leapFrom_28 rfl ?_
      exact k29 x1 x2 x3 z10 ((0 : Int32))
    · exact k24 x1 x2 x3 z10
set_option maxRecDepth 100000 in
set_option maxHeartbeats 4000000 in
theorem ct_X6_leap (γ : Gm) (E : Ev) (M : Mi) (L : Ml)  (x1 : Int32) (x2 : Int32) (h0 : MAt E) : Ct γ yX6_leap cX6_leap 3 (some .int) ⟨2, 0, 0, 54⟩ [.ref (E.2.1 0), .int x1, .int x2] E M L (Q_i γ E M L) 0 0 (F_X6_leap M L x1 x2) := by
  refine ct_of (own := RX6) (lv := [some (.ref (E.2.1 0)), some (.int x1), some (.int x2)]) (by decide +kernel) rfl rfl (Nat.le_of_ble_eq_true rfl) (fun κ C hγ hN => ?_)
  subst hγ
  have hn : ∀ i, i < 3 → i < knL κ := fun i h => by rw [hN]; exact h
  unfold F_X6_leap
  refine j_aload_n C dX6_leap_0 rfl rfl ?_
  refine j_iload_n C dX6_leap_1 rfl rfl ?_
  refine j_callV_i (st := []) C dX6_leap_2 (ct_X6_isOne (kγ κ) E M L x1 h0) mi_X6_isOne tw_944 FC6 (MAt.S h0) rfl rfl (Nat.le_of_ble_eq_true rfl) ⟨⟨rfl, rfl⟩, ⟨Nat.le_of_ble_eq_true rfl, Nat.le_of_ble_eq_true rfl⟩, ⟨Nat.zero_le _, Nat.zero_le _⟩⟩ (fun v2 => ?_)
  refine j_if_eq (tgt := 34) C dX6_leap_5 (by decide) ?_ ?_
  · refine j_bipush (v := (-2 : Int32)) C dX6_leap_34 (by decide) ?_
    exact j_iret C dX6_leap_36
  · refine j_iload_n C dX6_leap_8 rfl rfl ?_
    refine j_i2l C dX6_leap_9 ?_
    refine j_lconst (v := (0 : Int64)) C dX6_leap_10 rfl ?_
    refine j_ldc2 (v := (7 : Int64)) C dX6_leap_11 tw_1225 ?_
    refine j_callS_i (st := []) C dX6_leap_14 (ct_X6_in (kγ κ) E M L (Int32.toInt64 x2) (0 : Int64) (7 : Int64)) mi_X6_in tw_933 rfl rfl (Nat.le_of_ble_eq_true rfl) ⟨⟨rfl, rfl⟩, ⟨Nat.le_of_ble_eq_true rfl, Nat.le_of_ble_eq_true rfl⟩, ⟨Nat.zero_le _, Nat.zero_le _⟩⟩ (fun v14 => ?_)
    refine j_if_eq (tgt := 34) C dX6_leap_17 (by decide) ?_ ?_
    · refine j_bipush (v := (-2 : Int32)) C dX6_leap_34 (by decide) ?_
      exact j_iret C dX6_leap_36
    · refine j_aload_n C dX6_leap_20 rfl rfl ?_
      refine j_iload_n C dX6_leap_21 rfl rfl ?_
      refine j_aload_n C dX6_leap_22 rfl rfl ?_
      refine j_iload_n C dX6_leap_23 rfl rfl ?_
      refine j_callV_i (st := [.int x1, .ref (E.2.1 0)]) C dX6_leap_24 (ct_X6_onOf (kγ κ) E M L x1 h0) mi_X6_onOf tw_955 FC6 (MAt.S h0) rfl rfl (Nat.le_of_ble_eq_true rfl) ⟨⟨rfl, rfl⟩, ⟨Nat.le_of_ble_eq_true rfl, Nat.le_of_ble_eq_true rfl⟩, ⟨Nat.zero_le _, Nat.zero_le _⟩⟩ (fun v24 => ?_)
      refine j_iload_n C dX6_leap_27 rfl rfl ?_
      refine j_callV_i (st := []) C dX6_leap_28 (ct_X6_leapFrom (kγ κ) E M L x1 v24 x2 h0) mi_X6_leapFrom tw_1226 FC6 (MAt.S h0) rfl rfl (Nat.le_of_ble_eq_true rfl) ⟨⟨rfl, rfl⟩, ⟨Nat.le_of_ble_eq_true rfl, Nat.le_of_ble_eq_true rfl⟩, ⟨Nat.zero_le _, Nat.zero_le _⟩⟩ (fun v28 => ?_)
      refine j_pc (pc2 := 31) rfl ?_
      refine j_goto (tgt := 36) C dX6_leap_31 (by decide) ?_
      exact j_iret C dX6_leap_36
set_option maxRecDepth 100000 in
set_option maxHeartbeats 4000000 in
theorem ct_X6_passes (γ : Gm) (E : Ev) (M : Mi) (L : Ml)   (h0 : MAt E) : Ct γ yX6_passes cX6_passes 7 (some .int) ⟨44, 0, 0, 975⟩ [.ref (E.2.1 0)] E M L (Q_iw γ E) 0 0 (F_X6_passes M L) := by
  refine ct_of (own := RX6) (lv := [some (.ref (E.2.1 0)), none, none, none, none, none, none]) (by decide +kernel) rfl rfl (Nat.le_of_ble_eq_true rfl) (fun κ C hγ hN => ?_)
  subst hγ
  have hn : ∀ i, i < 7 → i < knL κ := fun i h => by rw [hN]; exact h
  have k143 : ∀ (kf4 : Mi → Ml → Int32 → Int32 → Option (Int32 × Mi × Ml)), (∀ (M : Mi) (L : Ml) (x1 : Int32) (x2 : Int32), JF κ (PQ κ (Q_iw (kγ κ) E) 0 0) 4 [some (.ref (E.2.1 0)), some (.int x1), some (.int x2), none, none, none, none] [] E M L 0 0 (kf4 M L x1 x2)) → ∀ (M : Mi) (L : Ml) (x2 : Int32) (s0 : Int32) (s1 : Int32), JF κ (PQ κ (Q_iw (kγ κ) E) 0 0) 143 [some (.ref (E.2.1 0)), none, some (.int x2), none, none, none, none] [.int s1, .int s0] E M L 0 0 (F_X6_passes_k143 kf4 M L x2 s0 s1) := by
    intro kf4 hkf4 M L x2 s0 s1
    unfold F_X6_passes_k143
    refine j_iload_n C dX6_passes_143 rfl rfl ?_
    refine j_ishl C dX6_passes_144 ?_
    refine j_ior C dX6_passes_145 ?_
    refine j_istore_n (i := 1) (lv' := [some (.ref (E.2.1 0)), some (.int (s0 ||| (ishl s1 x2))), some (.int x2), none, none, none, none]) C dX6_passes_146 rfl (hn 1 (by decide)) rfl ?_
    refine j_iinc (i := 2) (v := (x2 + (1 : Int32))) (lv' := [some (.ref (E.2.1 0)), some (.int (s0 ||| (ishl s1 x2))), some (.int (x2 + (1 : Int32))), none, none, none, none]) C dX6_passes_147 rfl rfl (hn 2 (by decide)) rfl ?_
    refine j_goto (tgt := 4) C dX6_passes_150 (by decide) ?_
    exact hkf4 M L ((s0 ||| (ishl s1 x2))) ((x2 + (1 : Int32)))
  have k130 : ∀ (kf4 : Mi → Ml → Int32 → Int32 → Option (Int32 × Mi × Ml)), (∀ (M : Mi) (L : Ml) (x1 : Int32) (x2 : Int32), JF κ (PQ κ (Q_iw (kγ κ) E) 0 0) 4 [some (.ref (E.2.1 0)), some (.int x1), some (.int x2), none, none, none, none] [] E M L 0 0 (kf4 M L x1 x2)) → ∀ (M : Mi) (L : Ml) (x1 : Int32) (x2 : Int32) (x5 : Int32) (s1 : Int32) (s2 : Int32), JF κ (PQ κ (Q_iw (kγ κ) E) 0 0) 130 [some (.ref (E.2.1 0)), some (.int x1), some (.int x2), none, none, some (.int x5), none] [.int s2, .int s1, .ref (E.2.1 4)] E M L 0 0 (F_X6_passes_k130 kf4 M L x1 x2 x5 s1 s2) := by
    intro kf4 hkf4 M L x1 x2 x5 s1 s2
    unfold F_X6_passes_k130
    refine j_iast C dX6_passes_130 (MAt.P_rows h0) ?_
    refine j_iload_n C dX6_passes_131 rfl rfl ?_
    refine j_iload C dX6_passes_132 rfl ?_
    refine j_iconst (v := (-1 : Int32)) C dX6_passes_134 rfl ?_
    refine j_icmp_ne (tgt := 142) C dX6_passes_135 (by decide) ?_ ?_
    · refine j_iconst (v := (1 : Int32)) C dX6_passes_142 rfl ?_
      refine j_mask [true, false, true, false, false, false, false] (lv' := [some (.ref (E.2.1 0)), none, some (.int x2), none, none, none, none]) rfl ?_
      exact k143 kf4 hkf4 ((up2 M 4 (Int32.toNatClampNeg s1) s2)) L x2 x1 ((1 : Int32))
    · refine j_iconst (v := (0 : Int32)) C dX6_passes_138 rfl ?_
      refine j_goto (tgt := 143) C dX6_passes_139 (by decide) ?_
      refine j_mask [true, false, true, false, false, false, false] (lv' := [some (.ref (E.2.1 0)), none, some (.int x2), none, none, none, none]) rfl ?_
      exact k143 kf4 hkf4 ((up2 M 4 (Int32.toNatClampNeg s1) s2)) L x2 x1 ((0 : Int32))
  have k93 : ∀ (kf4 : Mi → Ml → Int32 → Int32 → Option (Int32 × Mi × Ml)), (∀ (M : Mi) (L : Ml) (x1 : Int32) (x2 : Int32), JF κ (PQ κ (Q_iw (kγ κ) E) 0 0) 4 [some (.ref (E.2.1 0)), some (.int x1), some (.int x2), none, none, none, none] [] E M L 0 0 (kf4 M L x1 x2)) → ∀ (M : Mi) (L : Ml) (x1 : Int32) (x2 : Int32) (x5 : Int32) (s1 : Int32) (s2 : Int32), JF κ (PQ κ (Q_iw (kγ κ) E) 0 0) 93 [some (.ref (E.2.1 0)), some (.int x1), some (.int x2), none, none, some (.int x5), none] [.int s2, .int s1, .ref (E.2.1 4)] E M L 0 0 (F_X6_passes_k93 kf4 M L x1 x2 x5 s1 s2) := by
    intro kf4 hkf4 M L x1 x2 x5 s1 s2
    unfold F_X6_passes_k93
    refine j_iconst (v := (0 : Int32)) C dX6_passes_93 rfl ?_
    refine j_bipush (v := (99 : Int32)) C dX6_passes_94 (by decide) ?_
    refine j_callS_i (st := [.int s1, .ref (E.2.1 4)]) C dX6_passes_96 (ct_X6_within (kγ κ) E M L s2 (0 : Int32) (99 : Int32)) mi_X6_within tw_1169 rfl rfl (Nat.le_of_ble_eq_true rfl) ⟨⟨rfl, rfl⟩, ⟨Nat.le_of_ble_eq_true rfl, Nat.le_of_ble_eq_true rfl⟩, ⟨Nat.zero_le _, Nat.zero_le _⟩⟩ (fun v96 => ?_)
    refine j_iast C dX6_passes_99 (MAt.P_rows h0) ?_
    refine j_aload_n C dX6_passes_100 rfl rfl ?_
    refine j_getR (j := 10) C dX6_passes_101 FC6 (MAt.S h0) (by decide) rfl (MAt.R_rows h0) tw_813 ?_
    refine j_iconst (v := (4 : Int32)) C dX6_passes_104 rfl ?_
    refine j_pc (pc2 := 105) rfl ?_
    refine j_iload_n C dX6_passes_105 rfl rfl ?_
    refine j_imul C dX6_passes_106 ?_
    refine j_iconst (v := (1 : Int32)) C dX6_passes_107 rfl ?_
    refine j_iadd C dX6_passes_108 ?_
    refine j_iload C dX6_passes_109 rfl ?_
    refine j_iconst (v := (-1 : Int32)) C dX6_passes_111 rfl ?_
    refine j_icmp_ne (tgt := 128) C dX6_passes_112 (by decide) ?_ ?_
    · refine j_iload C dX6_passes_128 rfl ?_
      exact k130 kf4 hkf4 ((up2 M 4 (Int32.toNatClampNeg s1) v96)) L x1 x2 x5 ((((4 : Int32) * x2) + (1 : Int32))) x5
    · refine j_aload_n C dX6_passes_115 rfl rfl ?_
      refine j_getR (j := 10) C dX6_passes_116 FC6 (MAt.S h0) (by decide) rfl (MAt.R_rows h0) tw_813 ?_
      refine j_iconst (v := (4 : Int32)) C dX6_passes_119 rfl ?_
      refine j_iload_n C dX6_passes_120 rfl rfl ?_
      refine j_imul C dX6_passes_121 ?_
      refine j_iconst (v := (1 : Int32)) C dX6_passes_122 rfl ?_
      refine j_iadd C dX6_passes_123 ?_
      refine j_pc (pc2 := 124) rfl ?_
      refine j_iald C dX6_passes_124 (MAt.P_rows h0) ?_
      refine j_goto (tgt := 130) C dX6_passes_125 (by decide) ?_
      exact k130 kf4 hkf4 ((up2 M 4 (Int32.toNatClampNeg s1) v96)) L x1 x2 x5 ((((4 : Int32) * x2) + (1 : Int32))) (((up2 M 4 (Int32.toNatClampNeg s1) v96) 4 (Int32.toNatClampNeg (((4 : Int32) * x2) + (1 : Int32)))))
  have k52 : ∀ (kf4 : Mi → Ml → Int32 → Int32 → Option (Int32 × Mi × Ml)), (∀ (M : Mi) (L : Ml) (x1 : Int32) (x2 : Int32), JF κ (PQ κ (Q_iw (kγ κ) E) 0 0) 4 [some (.ref (E.2.1 0)), some (.int x1), some (.int x2), none, none, none, none] [] E M L 0 0 (kf4 M L x1 x2)) → ∀ (M : Mi) (L : Ml) (x1 : Int32) (x2 : Int32) (x3 : Int32) (x4 : Int32) (s0 : Int32), JF κ (PQ κ (Q_iw (kγ κ) E) 0 0) 52 [some (.ref (E.2.1 0)), some (.int x1), some (.int x2), some (.int x3), some (.int x4), none, none] [.int s0] E M L 0 0 (F_X6_passes_k52 kf4 M L x1 x2 x3 x4 s0) := by
    intro kf4 hkf4 M L x1 x2 x3 x4 s0
    unfold F_X6_passes_k52
    refine j_istore (i := 5) (lv' := [some (.ref (E.2.1 0)), some (.int x1), some (.int x2), some (.int x3), some (.int x4), some (.int s0), none]) C dX6_passes_52 (hn 5 (by decide)) rfl ?_
    refine j_aload_n C dX6_passes_54 rfl rfl ?_
    refine j_getR (j := 10) C dX6_passes_55 FC6 (MAt.S h0) (by decide) rfl (MAt.R_rows h0) tw_813 ?_
    refine j_iconst (v := (4 : Int32)) C dX6_passes_58 rfl ?_
    refine j_iload_n C dX6_passes_59 rfl rfl ?_
    refine j_imul C dX6_passes_60 ?_
    refine j_iconst (v := (2 : Int32)) C dX6_passes_61 rfl ?_
    refine j_pc (pc2 := 62) rfl ?_
    refine j_iadd C dX6_passes_62 ?_
    refine j_iald C dX6_passes_63 (MAt.P_rows h0) ?_
    refine j_nmi (fun z64 => ?_)
    refine j_istore (i := 6) (lv' := [some (.ref (E.2.1 0)), some (.int x1), some (.int x2), some (.int x3), some (.int x4), some (.int s0), some (.int z64)]) C dX6_passes_64 (hn 6 (by decide)) rfl ?_
    refine j_aload_n C dX6_passes_66 rfl rfl ?_
    refine j_getR (j := 10) C dX6_passes_67 FC6 (MAt.S h0) (by decide) rfl (MAt.R_rows h0) tw_813 ?_
    refine j_iconst (v := (4 : Int32)) C dX6_passes_70 rfl ?_
    refine j_iload_n C dX6_passes_71 rfl rfl ?_
    refine j_imul C dX6_passes_72 ?_
    refine j_pc (pc2 := 73) rfl ?_
    refine j_iconst (v := (2 : Int32)) C dX6_passes_73 rfl ?_
    refine j_iadd C dX6_passes_74 ?_
    refine j_iload C dX6_passes_75 rfl ?_
    refine j_iconst (v := (-1 : Int32)) C dX6_passes_77 rfl ?_
    refine j_icmp_ne (tgt := 89) C dX6_passes_78 (by decide) ?_ ?_
    · refine j_iload C dX6_passes_89 rfl ?_
      refine j_iload_n C dX6_passes_91 rfl rfl ?_
      refine j_iadd C dX6_passes_92 ?_
      refine j_mask [true, true, true, false, false, true, false] (lv' := [some (.ref (E.2.1 0)), some (.int x1), some (.int x2), none, none, some (.int s0), none]) rfl ?_
      exact k93 kf4 hkf4 M L x1 x2 s0 ((((4 : Int32) * x2) + (2 : Int32))) ((z64 + x3))
    · refine j_iload C dX6_passes_81 rfl ?_
      refine j_iload C dX6_passes_83 rfl ?_
      refine j_isub C dX6_passes_85 ?_
      refine j_goto (tgt := 93) C dX6_passes_86 (by decide) ?_
      refine j_mask [true, true, true, false, false, true, false] (lv' := [some (.ref (E.2.1 0)), some (.int x1), some (.int x2), none, none, some (.int s0), none]) rfl ?_
      exact k93 kf4 hkf4 M L x1 x2 s0 ((((4 : Int32) * x2) + (2 : Int32))) ((z64 - x4))
  have k4 : ∀ (n : Nat) (M : Mi) (L : Ml) (x1 : Int32) (x2 : Int32), JF κ (PQ κ (Q_iw (kγ κ) E) 0 0) 4 [some (.ref (E.2.1 0)), some (.int x1), some (.int x2), none, none, none, none] [] E M L 0 0 (F_X6_passes_k4  n M L x1 x2) := by
    intro n
    induction n with
    | zero => intros; exact jf_none
    | succ n ih =>
      intro M L x1 x2
      unfold F_X6_passes_k4
      refine j_iload_n C dX6_passes_4 rfl rfl ?_
      refine j_aload_n C dX6_passes_5 rfl rfl ?_
      refine j_getI (j := 11) C dX6_passes_6 FC6 (MAt.S h0) (by decide) rfl tw_814 ?_
      refine j_icmp_ge (tgt := 153) C dX6_passes_9 (by decide) ?_ ?_
      · refine j_aload_n C dX6_passes_153 rfl rfl ?_
        refine j_dup C dX6_passes_154 rfl ?_
        refine j_getI (j := 7) C dX6_passes_155 FC6 (MAt.S h0) (by decide) rfl tw_810 ?_
        refine j_iconst (v := (1 : Int32)) C dX6_passes_158 rfl ?_
        refine j_iadd C dX6_passes_159 ?_
        refine j_putI (j := 7) C dX6_passes_160 FC6 (MAt.S h0) (by decide) rfl rfl rfl rfl tw_810 ?_
        refine j_iload_n C dX6_passes_163 rfl rfl ?_
        refine j_pc (pc2 := 164) rfl ?_
        exact j_iretw C dX6_passes_164
      · refine j_aload_n C dX6_passes_12 rfl rfl ?_
        refine j_iload_n C dX6_passes_13 rfl rfl ?_
        refine j_callV_iw (st := []) C dX6_passes_14 (ct_X6_tiresOf (kγ κ) E M L x2 h0) mi_X6_tiresOf tw_1172 FC6 (MAt.S h0) rfl rfl (Nat.le_of_ble_eq_true rfl) ⟨⟨rfl, rfl⟩, ⟨Nat.le_of_ble_eq_true rfl, Nat.le_of_ble_eq_true rfl⟩, ⟨Nat.zero_le _, Nat.zero_le _⟩⟩ (fun r14 => ?_)
        refine j_istore_n (i := 3) (lv' := [some (.ref (E.2.1 0)), some (.int x1), some (.int x2), some (.int r14.1), none, none, none]) C dX6_passes_17 rfl (hn 3 (by decide)) rfl ?_
        refine j_aload_n C dX6_passes_18 rfl rfl ?_
        refine j_iload_n C dX6_passes_19 rfl rfl ?_
        refine j_callV_iw (st := []) C dX6_passes_20 (ct_X6_restsOf (kγ κ) E r14.2.1 r14.2.2 x2 h0) mi_X6_restsOf tw_1176 FC6 (MAt.S h0) rfl rfl (Nat.le_of_ble_eq_true rfl) ⟨⟨rfl, rfl⟩, ⟨Nat.le_of_ble_eq_true rfl, Nat.le_of_ble_eq_true rfl⟩, ⟨Nat.zero_le _, Nat.zero_le _⟩⟩ (fun r20 => ?_)
        refine j_pc (pc2 := 23) rfl ?_
        refine j_istore (i := 4) (lv' := [some (.ref (E.2.1 0)), some (.int x1), some (.int x2), some (.int r14.1), some (.int r20.1), none, none]) C dX6_passes_23 (hn 4 (by decide)) rfl ?_
        refine j_iload_n C dX6_passes_25 rfl rfl ?_
        refine j_aload_n C dX6_passes_26 rfl rfl ?_
        refine j_getI (j := 12) C dX6_passes_27 FC6 (MAt.S h0) (by decide) rfl tw_815 ?_
        refine j_icmp_ne (tgt := 37) C dX6_passes_30 (by decide) ?_ ?_
        · refine j_aload_n C dX6_passes_37 rfl rfl ?_
          refine j_iload_n C dX6_passes_38 rfl rfl ?_
          refine j_aload_n C dX6_passes_39 rfl rfl ?_
          refine j_iload_n C dX6_passes_40 rfl rfl ?_
          refine j_callV_i (st := [.int x2, .ref (E.2.1 0)]) C dX6_passes_41 (ct_X6_onOf (kγ κ) E r20.2.1 r20.2.2 x2 h0) mi_X6_onOf tw_955 FC6 (MAt.S h0) rfl rfl (Nat.le_of_ble_eq_true rfl) ⟨⟨rfl, rfl⟩, ⟨Nat.le_of_ble_eq_true rfl, Nat.le_of_ble_eq_true rfl⟩, ⟨Nat.zero_le _, Nat.zero_le _⟩⟩ (fun v41 => ?_)
          refine j_aload_n C dX6_passes_44 rfl rfl ?_
          refine j_iload_n C dX6_passes_45 rfl rfl ?_
          refine j_pc (pc2 := 46) rfl ?_
          refine j_callV_iw (st := [.int v41, .int x2, .ref (E.2.1 0)]) C dX6_passes_46 (ct_X6_turnOf (kγ κ) E r20.2.1 r20.2.2 x2 h0) mi_X6_turnOf tw_967 FC6 (MAt.S h0) rfl rfl (Nat.le_of_ble_eq_true rfl) ⟨⟨rfl, rfl⟩, ⟨Nat.le_of_ble_eq_true rfl, Nat.le_of_ble_eq_true rfl⟩, ⟨Nat.zero_le _, Nat.zero_le _⟩⟩ (fun r46 => ?_)
          refine j_callV_i (st := []) C dX6_passes_49 (ct_X6_leapFrom (kγ κ) E r46.2.1 r46.2.2 x2 v41 r46.1 h0) mi_X6_leapFrom tw_1226 FC6 (MAt.S h0) rfl rfl (Nat.le_of_ble_eq_true rfl) ⟨⟨rfl, rfl⟩, ⟨Nat.le_of_ble_eq_true rfl, Nat.le_of_ble_eq_true rfl⟩, ⟨Nat.zero_le _, Nat.zero_le _⟩⟩ (fun v49 => ?_)
          exact k52 (F_X6_passes_k4  n) ih r46.2.1 r46.2.2 x1 x2 r14.1 r20.1 v49
        · refine j_iconst (v := (-1 : Int32)) C dX6_passes_33 rfl ?_
          refine j_goto (tgt := 52) C dX6_passes_34 (by decide) ?_
          exact k52 (F_X6_passes_k4  n) ih r20.2.1 r20.2.2 x1 x2 r14.1 r20.1 ((-1 : Int32))
  unfold F_X6_passes
  refine j_iconst (v := (0 : Int32)) C dX6_passes_0 rfl ?_
  refine j_istore_n (i := 1) (lv' := [some (.ref (E.2.1 0)), some (.int (0 : Int32)), none, none, none, none, none]) C dX6_passes_1 rfl (hn 1 (by decide)) rfl ?_
  refine j_iconst (v := (0 : Int32)) C dX6_passes_2 rfl ?_
  refine j_istore_n (i := 2) (lv' := [some (.ref (E.2.1 0)), some (.int (0 : Int32)), some (.int (0 : Int32)), none, none, none, none]) C dX6_passes_3 rfl (hn 2 (by decide)) rfl ?_
  exact k4 FU M L ((0 : Int32)) ((0 : Int32))
set_option maxRecDepth 100000 in
set_option maxHeartbeats 4000000 in
theorem ct_X6_minute (γ : Gm) (E : Ev) (M : Mi) (L : Ml)   (h0 : MAt E) : Ct γ yX6_minute cX6_minute 1 (some .int) ⟨45, 0, 0, 1001⟩ [.ref (E.2.1 0)] E M L (Q_iw γ E) 0 0 (F_X6_minute M L) := by
  refine ct_of (own := RX6) (lv := [some (.ref (E.2.1 0))]) (by decide +kernel) rfl rfl (Nat.le_of_ble_eq_true rfl) (fun κ C hγ hN => ?_)
  subst hγ
  have hn : ∀ i, i < 1 → i < knL κ := fun i h => by rw [hN]; exact h
  unfold F_X6_minute
  refine j_aload_n C dX6_minute_0 rfl rfl ?_
  refine j_getI (j := 7) C dX6_minute_1 FC6 (MAt.S h0) (by decide) rfl tw_810 ?_
  refine j_sipush (v := (999 : Int32)) C dX6_minute_4 (by decide) ?_
  refine j_icmp_ne (tgt := 15) C dX6_minute_7 (by decide) ?_ ?_
  · refine j_aload_n C dX6_minute_15 rfl rfl ?_
    refine j_callV_iw (st := []) C dX6_minute_16 (ct_X6_passes (kγ κ) E M L h0) mi_X6_passes tw_1240 FC6 (MAt.S h0) rfl rfl (Nat.le_of_ble_eq_true rfl) ⟨⟨rfl, rfl⟩, ⟨Nat.le_of_ble_eq_true rfl, Nat.le_of_ble_eq_true rfl⟩, ⟨Nat.zero_le _, Nat.zero_le _⟩⟩ (fun r16 => ?_)
    exact j_iretw C dX6_minute_19
  · refine j_bipush (v := (-3 : Int32)) C dX6_minute_10 (by decide) ?_
    refine j_goto (tgt := 19) C dX6_minute_12 (by decide) ?_
    exact j_iretw C dX6_minute_19
set_option maxRecDepth 100000 in
set_option maxHeartbeats 4000000 in
theorem ct_X6_laysAside (γ : Gm) (E : Ev) (M : Mi) (L : Ml)   (h0 : MAt E) : Ct γ yX6_laysAside cX6_laysAside 2 none ⟨0, 0, 0, 0⟩ [.ref (E.2.1 0)] E M L (Q_vw γ E) 0 0 (F_X6_laysAside M L) := by
  refine ct_of (own := RX6) (lv := [some (.ref (E.2.1 0)), none]) (by decide +kernel) rfl rfl (Nat.le_of_ble_eq_true rfl) (fun κ C hγ hN => ?_)
  subst hγ
  have hn : ∀ i, i < 2 → i < knL κ := fun i h => by rw [hN]; exact h
  have k2 : ∀ (n : Nat) (M : Mi) (L : Ml) (x1 : Int32), JF κ (PQ κ (Q_vw (kγ κ) E) 0 0) 2 [some (.ref (E.2.1 0)), some (.int x1)] [] E M L 0 0 (F_X6_laysAside_k2  n M L x1) := by
    intro n
    induction n with
    | zero => intros; exact jf_none
    | succ n ih =>
      intro M L x1
      unfold F_X6_laysAside_k2
      refine j_iload_n C dX6_laysAside_2 rfl rfl ?_
      refine j_bipush (v := (20 : Int32)) C dX6_laysAside_3 (by decide) ?_
      refine j_icmp_ge (tgt := 26) C dX6_laysAside_5 (by decide) ?_ ?_
      · refine j_aload_n C dX6_laysAside_26 rfl rfl ?_
        refine j_getR (j := 28) C dX6_laysAside_27 FC6 (MAt.S h0) (by decide) rfl (MAt.R_was h0) tw_831 ?_
        refine j_bipush (v := (20 : Int32)) C dX6_laysAside_30 (by decide) ?_
        refine j_aload_n C dX6_laysAside_32 rfl rfl ?_
        refine j_getI (j := 7) C dX6_laysAside_33 FC6 (MAt.S h0) (by decide) rfl tw_810 ?_
        refine j_iast C dX6_laysAside_36 (MAt.P_was h0) ?_
        exact j_vretw C dX6_laysAside_37
      · refine j_aload_n C dX6_laysAside_8 rfl rfl ?_
        refine j_getR (j := 28) C dX6_laysAside_9 FC6 (MAt.S h0) (by decide) rfl (MAt.R_was h0) tw_831 ?_
        refine j_iload_n C dX6_laysAside_12 rfl rfl ?_
        refine j_aload_n C dX6_laysAside_13 rfl rfl ?_
        refine j_getR (j := 10) C dX6_laysAside_14 FC6 (MAt.S h0) (by decide) rfl (MAt.R_rows h0) tw_813 ?_
        refine j_iload_n C dX6_laysAside_17 rfl rfl ?_
        refine j_iald C dX6_laysAside_18 (MAt.P_rows h0) ?_
        refine j_pc (pc2 := 19) rfl ?_
        refine j_iast C dX6_laysAside_19 (MAt.P_was h0) ?_
        refine j_iinc (i := 1) (v := (x1 + (1 : Int32))) (lv' := [some (.ref (E.2.1 0)), some (.int (x1 + (1 : Int32)))]) C dX6_laysAside_20 rfl rfl (hn 1 (by decide)) rfl ?_
        refine j_goto (tgt := 2) C dX6_laysAside_23 (by decide) ?_
        exact ih ((up2 M 5 (Int32.toNatClampNeg x1) (M 4 (Int32.toNatClampNeg x1)))) L ((x1 + (1 : Int32)))
  unfold F_X6_laysAside
  refine j_iconst (v := (0 : Int32)) C dX6_laysAside_0 rfl ?_
  refine j_istore_n (i := 1) (lv' := [some (.ref (E.2.1 0)), some (.int (0 : Int32))]) C dX6_laysAside_1 rfl (hn 1 (by decide)) rfl ?_
  exact k2 FU M L ((0 : Int32))
set_option maxRecDepth 100000 in
set_option maxHeartbeats 4000000 in
theorem ct_X6_laysBack (γ : Gm) (E : Ev) (M : Mi) (L : Ml)   (h0 : MAt E) : Ct γ yX6_laysBack cX6_laysBack 2 none ⟨0, 0, 0, 0⟩ [.ref (E.2.1 0)] E M L (Q_vw γ E) 0 0 (F_X6_laysBack M L) := by
  refine ct_of (own := RX6) (lv := [some (.ref (E.2.1 0)), none]) (by decide +kernel) rfl rfl (Nat.le_of_ble_eq_true rfl) (fun κ C hγ hN => ?_)
  subst hγ
  have hn : ∀ i, i < 2 → i < knL κ := fun i h => by rw [hN]; exact h
  have k2 : ∀ (n : Nat) (M : Mi) (L : Ml) (x1 : Int32), JF κ (PQ κ (Q_vw (kγ κ) E) 0 0) 2 [some (.ref (E.2.1 0)), some (.int x1)] [] E M L 0 0 (F_X6_laysBack_k2  n M L x1) := by
    intro n
    induction n with
    | zero => intros; exact jf_none
    | succ n ih =>
      intro M L x1
      unfold F_X6_laysBack_k2
      refine j_iload_n C dX6_laysBack_2 rfl rfl ?_
      refine j_bipush (v := (20 : Int32)) C dX6_laysBack_3 (by decide) ?_
      refine j_icmp_ge (tgt := 26) C dX6_laysBack_5 (by decide) ?_ ?_
      · refine j_aload_n C dX6_laysBack_26 rfl rfl ?_
        refine j_aload_n C dX6_laysBack_27 rfl rfl ?_
        refine j_getR (j := 28) C dX6_laysBack_28 FC6 (MAt.S h0) (by decide) rfl (MAt.R_was h0) tw_831 ?_
        refine j_bipush (v := (20 : Int32)) C dX6_laysBack_31 (by decide) ?_
        refine j_iald C dX6_laysBack_33 (MAt.P_was h0) ?_
        refine j_putI (j := 7) C dX6_laysBack_34 FC6 (MAt.S h0) (by decide) rfl rfl rfl rfl tw_810 ?_
        exact j_vretw C dX6_laysBack_37
      · refine j_aload_n C dX6_laysBack_8 rfl rfl ?_
        refine j_getR (j := 10) C dX6_laysBack_9 FC6 (MAt.S h0) (by decide) rfl (MAt.R_rows h0) tw_813 ?_
        refine j_iload_n C dX6_laysBack_12 rfl rfl ?_
        refine j_aload_n C dX6_laysBack_13 rfl rfl ?_
        refine j_getR (j := 28) C dX6_laysBack_14 FC6 (MAt.S h0) (by decide) rfl (MAt.R_was h0) tw_831 ?_
        refine j_iload_n C dX6_laysBack_17 rfl rfl ?_
        refine j_iald C dX6_laysBack_18 (MAt.P_was h0) ?_
        refine j_pc (pc2 := 19) rfl ?_
        refine j_iast C dX6_laysBack_19 (MAt.P_rows h0) ?_
        refine j_iinc (i := 1) (v := (x1 + (1 : Int32))) (lv' := [some (.ref (E.2.1 0)), some (.int (x1 + (1 : Int32)))]) C dX6_laysBack_20 rfl rfl (hn 1 (by decide)) rfl ?_
        refine j_goto (tgt := 2) C dX6_laysBack_23 (by decide) ?_
        exact ih ((up2 M 4 (Int32.toNatClampNeg x1) (M 5 (Int32.toNatClampNeg x1)))) L ((x1 + (1 : Int32)))
  unfold F_X6_laysBack
  refine j_iconst (v := (0 : Int32)) C dX6_laysBack_0 rfl ?_
  refine j_istore_n (i := 1) (lv' := [some (.ref (E.2.1 0)), some (.int (0 : Int32))]) C dX6_laysBack_1 rfl (hn 1 (by decide)) rfl ?_
  exact k2 FU M L ((0 : Int32))
set_option maxRecDepth 100000 in
set_option maxHeartbeats 4000000 in
theorem ct_X6_goes (γ : Gm) (E : Ev) (M : Mi) (L : Ml)  (x1 : Int32) (h0 : MAt E) : Ct γ yX6_goes cX6_goes 3 none ⟨45, 0, 0, 1001⟩ [.ref (E.2.1 0), .int x1] E M L (Q_vw γ E) 0 0 (F_X6_goes M L x1) := by
  refine ct_of (own := RX6) (lv := [some (.ref (E.2.1 0)), some (.int x1), none]) (by decide +kernel) rfl rfl (Nat.le_of_ble_eq_true rfl) (fun κ C hγ hN => ?_)
  subst hγ
  have hn : ∀ i, i < 3 → i < knL κ := fun i h => by rw [hN]; exact h
  have k2 : ∀ (n : Nat) (M : Mi) (L : Ml) (x1 : Int32) (x2 : Int32), JF κ (PQ κ (Q_vw (kγ κ) E) 0 0) 2 [some (.ref (E.2.1 0)), some (.int x1), some (.int x2)] [] E M L 0 0 (F_X6_goes_k2  n M L x1 x2) := by
    intro n
    induction n with
    | zero => intros; exact jf_none
    | succ n ih =>
      intro M L x1 x2
      unfold F_X6_goes_k2
      refine j_iload_n C dX6_goes_2 rfl rfl ?_
      refine j_iload_n C dX6_goes_3 rfl rfl ?_
      refine j_icmp_ge (tgt := 18) C dX6_goes_4 (by decide) ?_ ?_
      · exact j_vretw C dX6_goes_18
      · refine j_aload_n C dX6_goes_7 rfl rfl ?_
        refine j_callV_iw (st := []) C dX6_goes_8 (ct_X6_passes (kγ κ) E M L h0) mi_X6_passes tw_1240 FC6 (MAt.S h0) rfl rfl (Nat.le_of_ble_eq_true rfl) ⟨⟨rfl, rfl⟩, ⟨Nat.le_of_ble_eq_true rfl, Nat.le_of_ble_eq_true rfl⟩, ⟨Nat.zero_le _, Nat.zero_le _⟩⟩ (fun r8 => ?_)
        refine j_pop C dX6_goes_11 rfl ?_
        refine j_iinc (i := 2) (v := (x2 + (1 : Int32))) (lv' := [some (.ref (E.2.1 0)), some (.int x1), some (.int (x2 + (1 : Int32)))]) C dX6_goes_12 rfl rfl (hn 2 (by decide)) rfl ?_
        refine j_goto (tgt := 2) C dX6_goes_15 (by decide) ?_
        exact ih r8.2.1 r8.2.2 x1 ((x2 + (1 : Int32)))
  unfold F_X6_goes
  refine j_iconst (v := (0 : Int32)) C dX6_goes_0 rfl ?_
  refine j_istore_n (i := 2) (lv' := [some (.ref (E.2.1 0)), some (.int x1), some (.int (0 : Int32))]) C dX6_goes_1 rfl (hn 2 (by decide)) rfl ?_
  exact k2 FU M L x1 ((0 : Int32))
set_option maxRecDepth 100000 in
set_option maxHeartbeats 4000000 in
theorem ct_X6_foundMany (γ : Gm) (E : Ev) (M : Mi) (L : Ml)  (x1 : Int32) (h0 : MAt E) : Ct γ yX6_foundMany cX6_foundMany 4 (some .int) ⟨2, 0, 0, 47⟩ [.ref (E.2.1 0), .int x1] E M L (Q_i γ E M L) 0 0 (F_X6_foundMany M L x1) := by
  refine ct_of (own := RX6) (lv := [some (.ref (E.2.1 0)), some (.int x1), none, none]) (by decide +kernel) rfl rfl (Nat.le_of_ble_eq_true rfl) (fun κ C hγ hN => ?_)
  subst hγ
  have hn : ∀ i, i < 4 → i < knL κ := fun i h => by rw [hN]; exact h
  have k27 : ∀ (kf4 : Int32 → Int32 → Int32 → Option (Int32)), (∀ (x1 : Int32) (x2 : Int32) (x3 : Int32), JF κ (PQ κ (Q_i (kγ κ) E M L) 0 0) 4 [some (.ref (E.2.1 0)), some (.int x1), some (.int x2), some (.int x3)] [] E M L 0 0 (kf4 x1 x2 x3)) → ∀ (x1 : Int32) (x3 : Int32) (s0 : Int32) (s1 : Int32), JF κ (PQ κ (Q_i (kγ κ) E M L) 0 0) 27 [some (.ref (E.2.1 0)), some (.int x1), none, some (.int x3)] [.int s1, .int s0] E M L 0 0 (F_X6_foundMany_k27 M L kf4 x1 x3 s0 s1) := by
    intro kf4 hkf4 x1 x3 s0 s1
    unfold F_X6_foundMany_k27
    refine j_iadd C dX6_foundMany_27 ?_
    refine j_istore_n (i := 2) (lv' := [some (.ref (E.2.1 0)), some (.int x1), some (.int (s0 + s1)), some (.int x3)]) C dX6_foundMany_28 rfl (hn 2 (by decide)) rfl ?_
    refine j_iinc (i := 3) (v := (x3 + (1 : Int32))) (lv' := [some (.ref (E.2.1 0)), some (.int x1), some (.int (s0 + s1)), some (.int (x3 + (1 : Int32)))]) C dX6_foundMany_29 rfl rfl (hn 3 (by decide)) rfl ?_
    refine j_goto (tgt := 4) C dX6_foundMany_32 (by decide) ?_
    exact hkf4 x1 ((s0 + s1)) ((x3 + (1 : Int32)))
  have k4 : ∀ (n : Nat) (x1 : Int32) (x2 : Int32) (x3 : Int32), JF κ (PQ κ (Q_i (kγ κ) E M L) 0 0) 4 [some (.ref (E.2.1 0)), some (.int x1), some (.int x2), some (.int x3)] [] E M L 0 0 (F_X6_foundMany_k4 M L n x1 x2 x3) := by
    intro n
    induction n with
    | zero => intros; exact jf_none
    | succ n ih =>
      intro x1 x2 x3
      unfold F_X6_foundMany_k4
      refine j_iload_n C dX6_foundMany_4 rfl rfl ?_
      refine j_aload_n C dX6_foundMany_5 rfl rfl ?_
      refine j_getI (j := 11) C dX6_foundMany_6 FC6 (MAt.S h0) (by decide) rfl tw_814 ?_
      refine j_icmp_ge (tgt := 35) C dX6_foundMany_9 (by decide) ?_ ?_
      · refine j_iload_n C dX6_foundMany_35 rfl rfl ?_
        exact j_iret C dX6_foundMany_36
      · refine j_iload_n C dX6_foundMany_12 rfl rfl ?_
        refine j_aload_n C dX6_foundMany_13 rfl rfl ?_
        refine j_iload_n C dX6_foundMany_14 rfl rfl ?_
        refine j_callV_i (st := [.int x2]) C dX6_foundMany_15 (ct_X6_foundOf (kγ κ) E M L x3 h0) mi_X6_foundOf tw_1180 FC6 (MAt.S h0) rfl rfl (Nat.le_of_ble_eq_true rfl) ⟨⟨rfl, rfl⟩, ⟨Nat.le_of_ble_eq_true rfl, Nat.le_of_ble_eq_true rfl⟩, ⟨Nat.zero_le _, Nat.zero_le _⟩⟩ (fun v15 => ?_)
        refine j_iload_n C dX6_foundMany_18 rfl rfl ?_
        refine j_icmp_ne (tgt := 26) C dX6_foundMany_19 (by decide) ?_ ?_
        · refine j_iconst (v := (0 : Int32)) C dX6_foundMany_26 rfl ?_
          refine j_mask [true, true, false, true] (lv' := [some (.ref (E.2.1 0)), some (.int x1), none, some (.int x3)]) rfl ?_
          exact k27 (F_X6_foundMany_k4 M L n) ih x1 x3 x2 ((0 : Int32))
        · refine j_iconst (v := (1 : Int32)) C dX6_foundMany_22 rfl ?_
          refine j_goto (tgt := 27) C dX6_foundMany_23 (by decide) ?_
          refine j_mask [true, true, false, true] (lv' := [some (.ref (E.2.1 0)), some (.int x1), none, some (.int x3)]) rfl ?_
          exact k27 (F_X6_foundMany_k4 M L n) ih x1 x3 x2 ((1 : Int32))
  unfold F_X6_foundMany
  refine j_iconst (v := (0 : Int32)) C dX6_foundMany_0 rfl ?_
  refine j_istore_n (i := 2) (lv' := [some (.ref (E.2.1 0)), some (.int x1), some (.int (0 : Int32)), none]) C dX6_foundMany_1 rfl (hn 2 (by decide)) rfl ?_
  refine j_iconst (v := (0 : Int32)) C dX6_foundMany_2 rfl ?_
  refine j_istore_n (i := 3) (lv' := [some (.ref (E.2.1 0)), some (.int x1), some (.int (0 : Int32)), some (.int (0 : Int32))]) C dX6_foundMany_3 rfl (hn 3 (by decide)) rfl ?_
  exact k4 FU x1 ((0 : Int32)) ((0 : Int32))
set_option maxRecDepth 100000 in
set_option maxHeartbeats 4000000 in
theorem ct_X6_foundBehind (γ : Gm) (E : Ev) (M : Mi) (L : Ml)  (x1 : Int32) (x2 : Int32) (h0 : MAt E) : Ct γ yX6_foundBehind cX6_foundBehind 4 (some .int) ⟨46, 0, 0, 1023⟩ [.ref (E.2.1 0), .int x1, .int x2] E M L (Q_iw γ E) 0 0 (F_X6_foundBehind M L x1 x2) := by
  refine ct_of (own := RX6) (lv := [some (.ref (E.2.1 0)), some (.int x1), some (.int x2), none]) (by decide +kernel) rfl rfl (Nat.le_of_ble_eq_true rfl) (fun κ C hγ hN => ?_)
  subst hγ
  have hn : ∀ i, i < 4 → i < knL κ := fun i h => by rw [hN]; exact h
  unfold F_X6_foundBehind
  refine j_aload_n C dX6_foundBehind_0 rfl rfl ?_
  refine j_callV_vw (st := []) C dX6_foundBehind_1 (ct_X6_laysAside (kγ κ) E M L h0) mi_X6_laysAside tw_1250 FC6 (MAt.S h0) rfl rfl (Nat.le_of_ble_eq_true rfl) ⟨⟨rfl, rfl⟩, ⟨Nat.le_of_ble_eq_true rfl, Nat.le_of_ble_eq_true rfl⟩, ⟨Nat.zero_le _, Nat.zero_le _⟩⟩ (fun r1 => ?_)
  refine j_aload_n C dX6_foundBehind_4 rfl rfl ?_
  refine j_iload_n C dX6_foundBehind_5 rfl rfl ?_
  refine j_callV_vw (st := []) C dX6_foundBehind_6 (ct_X6_goes (kγ κ) E r1.1 r1.2 x2 h0) mi_X6_goes tw_1254 FC6 (MAt.S h0) rfl rfl (Nat.le_of_ble_eq_true rfl) ⟨⟨rfl, rfl⟩, ⟨Nat.le_of_ble_eq_true rfl, Nat.le_of_ble_eq_true rfl⟩, ⟨Nat.zero_le _, Nat.zero_le _⟩⟩ (fun r6 => ?_)
  refine j_aload_n C dX6_foundBehind_9 rfl rfl ?_
  refine j_iload_n C dX6_foundBehind_10 rfl rfl ?_
  refine j_pc (pc2 := 11) rfl ?_
  refine j_callV_i (st := []) C dX6_foundBehind_11 (ct_X6_foundMany (kγ κ) E r6.1 r6.2 x1 h0) mi_X6_foundMany tw_1258 FC6 (MAt.S h0) rfl rfl (Nat.le_of_ble_eq_true rfl) ⟨⟨rfl, rfl⟩, ⟨Nat.le_of_ble_eq_true rfl, Nat.le_of_ble_eq_true rfl⟩, ⟨Nat.zero_le _, Nat.zero_le _⟩⟩ (fun v11 => ?_)
  refine j_istore_n (i := 3) (lv' := [some (.ref (E.2.1 0)), some (.int x1), some (.int x2), some (.int v11)]) C dX6_foundBehind_14 rfl (hn 3 (by decide)) rfl ?_
  refine j_aload_n C dX6_foundBehind_15 rfl rfl ?_
  refine j_callV_vw (st := []) C dX6_foundBehind_16 (ct_X6_laysBack (kγ κ) E r6.1 r6.2 h0) mi_X6_laysBack tw_1262 FC6 (MAt.S h0) rfl rfl (Nat.le_of_ble_eq_true rfl) ⟨⟨rfl, rfl⟩, ⟨Nat.le_of_ble_eq_true rfl, Nat.le_of_ble_eq_true rfl⟩, ⟨Nat.zero_le _, Nat.zero_le _⟩⟩ (fun r16 => ?_)
  refine j_iload_n C dX6_foundBehind_19 rfl rfl ?_
  exact j_iretw C dX6_foundBehind_20
set_option maxRecDepth 100000 in
set_option maxHeartbeats 4000000 in
theorem ct_X6_run (γ : Gm) (E : Ev) (M : Mi) (L : Ml)  (x1 : Int32) (x2 : Int32) (x3 : Int32) (h0 : MAt E) : Ct γ yX6_run cX6_run 5 (some .int) ⟨46, 0, 0, 1023⟩ [.ref (E.2.1 0), .int x1, .int x2, .int x3] E M L (Q_iw γ E) 0 0 (F_X6_run M L x1 x2 x3) := by
  refine ct_of (own := RX6) (lv := [some (.ref (E.2.1 0)), some (.int x1), some (.int x2), some (.int x3), none]) (by decide +kernel) rfl rfl (Nat.le_of_ble_eq_true rfl) (fun κ C hγ hN => ?_)
  subst hγ
  have hn : ∀ i, i < 5 → i < knL κ := fun i h => by rw [hN]; exact h
  have k82 : ∀ (M : Mi) (L : Ml) (s0 : Int32), JF κ (PQ κ (Q_iw (kγ κ) E) 0 0) 82 [some (.ref (E.2.1 0)), none, none, none, none] [.int s0] E M L 0 0 (F_X6_run_k82  M L s0) := by
    intro M L s0
    unfold F_X6_run_k82
    refine j_istore (i := 4) (lv' := [some (.ref (E.2.1 0)), none, none, none, some (.int s0)]) C dX6_run_82 (hn 4 (by decide)) rfl ?_
    refine j_aload_n C dX6_run_84 rfl rfl ?_
    refine j_callV_vw (st := []) C dX6_run_85 (ct_X6_laysBack (kγ κ) E M L h0) mi_X6_laysBack tw_1262 FC6 (MAt.S h0) rfl rfl (Nat.le_of_ble_eq_true rfl) ⟨⟨rfl, rfl⟩, ⟨Nat.le_of_ble_eq_true rfl, Nat.le_of_ble_eq_true rfl⟩, ⟨Nat.zero_le _, Nat.zero_le _⟩⟩ (fun r85 => ?_)
    refine j_iload C dX6_run_88 rfl ?_
    exact j_iretw C dX6_run_90
  unfold F_X6_run
  refine j_aload_n C dX6_run_0 rfl rfl ?_
  refine j_iload_n C dX6_run_1 rfl rfl ?_
  refine j_callV_i (st := []) C dX6_run_2 (ct_X6_isOne (kγ κ) E M L x1 h0) mi_X6_isOne tw_944 FC6 (MAt.S h0) rfl rfl (Nat.le_of_ble_eq_true rfl) ⟨⟨rfl, rfl⟩, ⟨Nat.le_of_ble_eq_true rfl, Nat.le_of_ble_eq_true rfl⟩, ⟨Nat.zero_le _, Nat.zero_le _⟩⟩ (fun v2 => ?_)
  refine j_if_eq (tgt := 32) C dX6_run_5 (by decide) ?_ ?_
  · refine j_bipush (v := (-2 : Int32)) C dX6_run_32 (by decide) ?_
    exact j_iretw C dX6_run_34
  · refine j_iload_n C dX6_run_8 rfl rfl ?_
    refine j_i2l C dX6_run_9 ?_
    refine j_lconst (v := (0 : Int64)) C dX6_run_10 rfl ?_
    refine j_ldc2 (v := (40 : Int64)) C dX6_run_11 tw_1248 ?_
    refine j_callS_i (st := []) C dX6_run_14 (ct_X6_in (kγ κ) E M L (Int32.toInt64 x2) (0 : Int64) (40 : Int64)) mi_X6_in tw_933 rfl rfl (Nat.le_of_ble_eq_true rfl) ⟨⟨rfl, rfl⟩, ⟨Nat.le_of_ble_eq_true rfl, Nat.le_of_ble_eq_true rfl⟩, ⟨Nat.zero_le _, Nat.zero_le _⟩⟩ (fun v14 => ?_)
    refine j_if_eq (tgt := 32) C dX6_run_17 (by decide) ?_ ?_
    · refine j_bipush (v := (-2 : Int32)) C dX6_run_32 (by decide) ?_
      exact j_iretw C dX6_run_34
    · refine j_iload_n C dX6_run_20 rfl rfl ?_
      refine j_i2l C dX6_run_21 ?_
      refine j_lconst (v := (0 : Int64)) C dX6_run_22 rfl ?_
      refine j_ldc2 (v := (3 : Int64)) C dX6_run_23 tw_1249 ?_
      refine j_callS_i (st := []) C dX6_run_26 (ct_X6_in (kγ κ) E M L (Int32.toInt64 x3) (0 : Int64) (3 : Int64)) mi_X6_in tw_933 rfl rfl (Nat.le_of_ble_eq_true rfl) ⟨⟨rfl, rfl⟩, ⟨Nat.le_of_ble_eq_true rfl, Nat.le_of_ble_eq_true rfl⟩, ⟨Nat.zero_le _, Nat.zero_le _⟩⟩ (fun v26 => ?_)
      refine j_if_ne (tgt := 35) C dX6_run_29 (by decide) ?_ ?_
      · refine j_aload_n C dX6_run_35 rfl rfl ?_
        refine j_callV_vw (st := []) C dX6_run_36 (ct_X6_laysAside (kγ κ) E M L h0) mi_X6_laysAside tw_1250 FC6 (MAt.S h0) rfl rfl (Nat.le_of_ble_eq_true rfl) ⟨⟨rfl, rfl⟩, ⟨Nat.le_of_ble_eq_true rfl, Nat.le_of_ble_eq_true rfl⟩, ⟨Nat.zero_le _, Nat.zero_le _⟩⟩ (fun r36 => ?_)
        refine j_aload_n C dX6_run_39 rfl rfl ?_
        refine j_iload_n C dX6_run_40 rfl rfl ?_
        refine j_callV_vw (st := []) C dX6_run_41 (ct_X6_goes (kγ κ) E r36.1 r36.2 x2 h0) mi_X6_goes tw_1254 FC6 (MAt.S h0) rfl rfl (Nat.le_of_ble_eq_true rfl) ⟨⟨rfl, rfl⟩, ⟨Nat.le_of_ble_eq_true rfl, Nat.le_of_ble_eq_true rfl⟩, ⟨Nat.zero_le _, Nat.zero_le _⟩⟩ (fun r41 => ?_)
        refine j_iload_n C dX6_run_44 rfl rfl ?_
        refine j_iconst (v := (2 : Int32)) C dX6_run_45 rfl ?_
        refine j_pc (pc2 := 46) rfl ?_
        refine j_icmp_ge (tgt := 64) C dX6_run_46 (by decide) ?_ ?_
        · refine j_iload_n C dX6_run_64 rfl rfl ?_
          refine j_iconst (v := (2 : Int32)) C dX6_run_65 rfl ?_
          refine j_icmp_ne (tgt := 77) C dX6_run_66 (by decide) ?_ ?_
          · refine j_aload_n C dX6_run_77 rfl rfl ?_
            refine j_iconst (v := (1 : Int32)) C dX6_run_78 rfl ?_
            refine j_callV_i (st := []) C dX6_run_79 (ct_X6_foundMany (kγ κ) E r41.1 r41.2 (1 : Int32) h0) mi_X6_foundMany tw_1258 FC6 (MAt.S h0) rfl rfl (Nat.le_of_ble_eq_true rfl) ⟨⟨rfl, rfl⟩, ⟨Nat.le_of_ble_eq_true rfl, Nat.le_of_ble_eq_true rfl⟩, ⟨Nat.zero_le _, Nat.zero_le _⟩⟩ (fun v79 => ?_)
            refine j_mask [true, false, false, false, false] (lv' := [some (.ref (E.2.1 0)), none, none, none, none]) rfl ?_
            exact k82 r41.1 r41.2 v79
          · refine j_aload_n C dX6_run_69 rfl rfl ?_
            refine j_iload_n C dX6_run_70 rfl rfl ?_
            refine j_callV_i (st := []) C dX6_run_71 (ct_X6_foundOf (kγ κ) E r41.1 r41.2 x1 h0) mi_X6_foundOf tw_1180 FC6 (MAt.S h0) rfl rfl (Nat.le_of_ble_eq_true rfl) ⟨⟨rfl, rfl⟩, ⟨Nat.le_of_ble_eq_true rfl, Nat.le_of_ble_eq_true rfl⟩, ⟨Nat.zero_le _, Nat.zero_le _⟩⟩ (fun v71 => ?_)
            refine j_goto (tgt := 82) C dX6_run_74 (by decide) ?_
            refine j_mask [true, false, false, false, false] (lv' := [some (.ref (E.2.1 0)), none, none, none, none]) rfl ?_
            exact k82 r41.1 r41.2 v71
        · refine j_aload_n C dX6_run_49 rfl rfl ?_
          refine j_getR (j := 10) C dX6_run_50 FC6 (MAt.S h0) (by decide) rfl (MAt.R_rows h0) tw_813 ?_
          refine j_iconst (v := (4 : Int32)) C dX6_run_53 rfl ?_
          refine j_iload_n C dX6_run_54 rfl rfl ?_
          refine j_imul C dX6_run_55 ?_
          refine j_iconst (v := (1 : Int32)) C dX6_run_56 rfl ?_
          refine j_iadd C dX6_run_57 ?_
          refine j_pc (pc2 := 58) rfl ?_
          refine j_iload_n C dX6_run_58 rfl rfl ?_
          refine j_iadd C dX6_run_59 ?_
          refine j_iald C dX6_run_60 (MAt.P_rows h0) ?_
          refine j_goto (tgt := 82) C dX6_run_61 (by decide) ?_
          refine j_mask [true, false, false, false, false] (lv' := [some (.ref (E.2.1 0)), none, none, none, none]) rfl ?_
          exact k82 r41.1 r41.2 ((r41.1 4 (Int32.toNatClampNeg ((((4 : Int32) * x1) + (1 : Int32)) + x3))))
      · refine j_bipush (v := (-2 : Int32)) C dX6_run_32 (by decide) ?_
        exact j_iretw C dX6_run_34
set_option maxRecDepth 100000 in
set_option maxHeartbeats 4000000 in
theorem ct_X6_call (γ : Gm) (E : Ev) (M : Mi) (L : Ml)  (x1 : Int32) (x2 : Int32) (x3 : Int32) (h0 : MAt E) : Ct γ yX6_call cX6_call 8 (some .int) ⟨47, 0, 0, 1046⟩ [.ref (E.2.1 0), .int x1, .int x2, .int x3] E M L (Q_iw γ E) 0 0 (F_X6_call M L x1 x2 x3) := by
  refine ct_of (own := RX6) (lv := [some (.ref (E.2.1 0)), some (.int x1), some (.int x2), some (.int x3), none, none, none, none]) (by decide +kernel) rfl rfl (Nat.le_of_ble_eq_true rfl) (fun κ C hγ hN => ?_)
  subst hγ
  have hn : ∀ i, i < 8 → i < knL κ := fun i h => by rw [hN]; exact h
  have k76 : ∀ (kf46 : Mi → Ml → Int32 → Int32 → Int32 → Int32 → Int32 → Int32 → Option (Int32 × Mi × Ml)), (∀ (M : Mi) (L : Ml) (x1 : Int32) (x2 : Int32) (x3 : Int32) (x4 : Int32) (x5 : Int32) (x6 : Int32), JF κ (PQ κ (Q_iw (kγ κ) E) 0 0) 46 [some (.ref (E.2.1 0)), some (.int x1), some (.int x2), some (.int x3), some (.int x4), some (.int x5), some (.int x6), none] [] E M L 0 0 (kf46 M L x1 x2 x3 x4 x5 x6)) → ∀ (M : Mi) (L : Ml) (x1 : Int32) (x2 : Int32) (x3 : Int32) (x4 : Int32) (x5 : Int32) (x6 : Int32), JF κ (PQ κ (Q_iw (kγ κ) E) 0 0) 76 [some (.ref (E.2.1 0)), some (.int x1), some (.int x2), some (.int x3), some (.int x4), some (.int x5), some (.int x6), none] [] E M L 0 0 (F_X6_call_k76 kf46 M L x1 x2 x3 x4 x5 x6) := by
    intro kf46 hkf46 M L x1 x2 x3 x4 x5 x6
    unfold F_X6_call_k76
    refine j_iinc (i := 6) (v := (x6 + (1 : Int32))) (lv' := [some (.ref (E.2.1 0)), some (.int x1), some (.int x2), some (.int x3), some (.int x4), some (.int x5), some (.int (x6 + (1 : Int32))), none]) C dX6_call_76 rfl rfl (hn 6 (by decide)) rfl ?_
    refine j_goto (tgt := 46) C dX6_call_79 (by decide) ?_
    exact hkf46 M L x1 x2 x3 x4 x5 ((x6 + (1 : Int32)))
  have k46 : ∀ (n : Nat) (M : Mi) (L : Ml) (x1 : Int32) (x2 : Int32) (x3 : Int32) (x4 : Int32) (x5 : Int32) (x6 : Int32), JF κ (PQ κ (Q_iw (kγ κ) E) 0 0) 46 [some (.ref (E.2.1 0)), some (.int x1), some (.int x2), some (.int x3), some (.int x4), some (.int x5), some (.int x6), none] [] E M L 0 0 (F_X6_call_k46  n M L x1 x2 x3 x4 x5 x6) := by
    intro n
    induction n with
    | zero => intros; exact jf_none
    | succ n ih =>
      intro M L x1 x2 x3 x4 x5 x6
      unfold F_X6_call_k46
      refine j_iload C dX6_call_46 rfl ?_
      refine j_iload_n C dX6_call_48 rfl rfl ?_
      refine j_icmp_gt (tgt := 82) C dX6_call_49 (by decide) ?_ ?_
      · refine j_iload_n C dX6_call_82 rfl rfl ?_
        refine j_if_ne (tgt := 91) C dX6_call_83 (by decide) ?_ ?_
        · refine j_iload C dX6_call_91 rfl ?_
          exact j_iretw C dX6_call_93
        · refine j_iload C dX6_call_86 rfl ?_
          refine j_goto (tgt := 93) C dX6_call_88 (by decide) ?_
          exact j_iretw C dX6_call_93
      · refine j_aload_n C dX6_call_52 rfl rfl ?_
        refine j_iload_n C dX6_call_53 rfl rfl ?_
        refine j_iload C dX6_call_54 rfl ?_
        refine j_callV_iw (st := []) C dX6_call_56 (ct_X6_foundBehind (kγ κ) E M L x1 x6 h0) mi_X6_foundBehind tw_1270 FC6 (MAt.S h0) rfl rfl (Nat.le_of_ble_eq_true rfl) ⟨⟨rfl, rfl⟩, ⟨Nat.le_of_ble_eq_true rfl, Nat.le_of_ble_eq_true rfl⟩, ⟨Nat.zero_le _, Nat.zero_le _⟩⟩ (fun r56 => ?_)
        refine j_istore (i := 7) (lv' := [some (.ref (E.2.1 0)), some (.int x1), some (.int x2), some (.int x3), some (.int x4), some (.int x5), some (.int x6), some (.int r56.1)]) C dX6_call_59 (hn 7 (by decide)) rfl ?_
        refine j_iload C dX6_call_61 rfl ?_
        refine j_iload C dX6_call_63 rfl ?_
        refine j_pc (pc2 := 65) rfl ?_
        refine j_icmp_le (tgt := 76) C dX6_call_65 (by decide) ?_ ?_
        · refine j_mask [true, true, true, true, true, true, true, false] (lv' := [some (.ref (E.2.1 0)), some (.int x1), some (.int x2), some (.int x3), some (.int x4), some (.int x5), some (.int x6), none]) rfl ?_
          exact k76 (F_X6_call_k46  n) ih r56.2.1 r56.2.2 x1 x2 x3 x4 x5 x6
        · refine j_iload C dX6_call_68 rfl ?_
          refine j_istore (i := 4) (lv' := [some (.ref (E.2.1 0)), some (.int x1), some (.int x2), some (.int x3), some (.int x6), some (.int x5), some (.int x6), some (.int r56.1)]) C dX6_call_70 (hn 4 (by decide)) rfl ?_
          refine j_iload C dX6_call_72 rfl ?_
          refine j_istore (i := 5) (lv' := [some (.ref (E.2.1 0)), some (.int x1), some (.int x2), some (.int x3), some (.int x6), some (.int r56.1), some (.int x6), some (.int r56.1)]) C dX6_call_74 (hn 5 (by decide)) rfl ?_
          refine j_mask [true, true, true, true, true, true, true, false] (lv' := [some (.ref (E.2.1 0)), some (.int x1), some (.int x2), some (.int x3), some (.int x6), some (.int r56.1), some (.int x6), none]) rfl ?_
          exact k76 (F_X6_call_k46  n) ih r56.2.1 r56.2.2 x1 x2 x3 x6 r56.1 x6
  unfold F_X6_call
  refine j_iload_n C dX6_call_0 rfl rfl ?_
  refine j_i2l C dX6_call_1 ?_
  refine j_lconst (v := (0 : Int64)) C dX6_call_2 rfl ?_
  refine j_ldc2 (v := (2 : Int64)) C dX6_call_3 tw_1202 ?_
  refine j_callS_i (st := []) C dX6_call_6 (ct_X6_in (kγ κ) E M L (Int32.toInt64 x1) (0 : Int64) (2 : Int64)) mi_X6_in tw_933 rfl rfl (Nat.le_of_ble_eq_true rfl) ⟨⟨rfl, rfl⟩, ⟨Nat.le_of_ble_eq_true rfl, Nat.le_of_ble_eq_true rfl⟩, ⟨Nat.zero_le _, Nat.zero_le _⟩⟩ (fun v6 => ?_)
  refine j_if_eq (tgt := 34) C dX6_call_9 (by decide) ?_ ?_
  · refine j_bipush (v := (-2 : Int32)) C dX6_call_34 (by decide) ?_
    exact j_iretw C dX6_call_36
  · refine j_iload_n C dX6_call_12 rfl rfl ?_
    refine j_i2l C dX6_call_13 ?_
    refine j_lconst (v := (0 : Int64)) C dX6_call_14 rfl ?_
    refine j_ldc2 (v := (40 : Int64)) C dX6_call_15 tw_1248 ?_
    refine j_callS_i (st := []) C dX6_call_18 (ct_X6_in (kγ κ) E M L (Int32.toInt64 x2) (0 : Int64) (40 : Int64)) mi_X6_in tw_933 rfl rfl (Nat.le_of_ble_eq_true rfl) ⟨⟨rfl, rfl⟩, ⟨Nat.le_of_ble_eq_true rfl, Nat.le_of_ble_eq_true rfl⟩, ⟨Nat.zero_le _, Nat.zero_le _⟩⟩ (fun v18 => ?_)
    refine j_if_eq (tgt := 34) C dX6_call_21 (by decide) ?_ ?_
    · refine j_bipush (v := (-2 : Int32)) C dX6_call_34 (by decide) ?_
      exact j_iretw C dX6_call_36
    · refine j_iload_n C dX6_call_24 rfl rfl ?_
      refine j_i2l C dX6_call_25 ?_
      refine j_lconst (v := (0 : Int64)) C dX6_call_26 rfl ?_
      refine j_lconst (v := (1 : Int64)) C dX6_call_27 rfl ?_
      refine j_callS_i (st := []) C dX6_call_28 (ct_X6_in (kγ κ) E M L (Int32.toInt64 x3) (0 : Int64) (1 : Int64)) mi_X6_in tw_933 rfl rfl (Nat.le_of_ble_eq_true rfl) ⟨⟨rfl, rfl⟩, ⟨Nat.le_of_ble_eq_true rfl, Nat.le_of_ble_eq_true rfl⟩, ⟨Nat.zero_le _, Nat.zero_le _⟩⟩ (fun v28 => ?_)
      refine j_if_ne (tgt := 37) C dX6_call_31 (by decide) ?_ ?_
      · refine j_iconst (v := (0 : Int32)) C dX6_call_37 rfl ?_
        refine j_istore (i := 4) (lv' := [some (.ref (E.2.1 0)), some (.int x1), some (.int x2), some (.int x3), some (.int (0 : Int32)), none, none, none]) C dX6_call_38 (hn 4 (by decide)) rfl ?_
        refine j_iconst (v := (-1 : Int32)) C dX6_call_40 rfl ?_
        refine j_istore (i := 5) (lv' := [some (.ref (E.2.1 0)), some (.int x1), some (.int x2), some (.int x3), some (.int (0 : Int32)), some (.int (-1 : Int32)), none, none]) C dX6_call_41 (hn 5 (by decide)) rfl ?_
        refine j_iconst (v := (0 : Int32)) C dX6_call_43 rfl ?_
        refine j_istore (i := 6) (lv' := [some (.ref (E.2.1 0)), some (.int x1), some (.int x2), some (.int x3), some (.int (0 : Int32)), some (.int (-1 : Int32)), some (.int (0 : Int32)), none]) C dX6_call_44 (hn 6 (by decide)) rfl ?_
        exact k46 FU M L x1 x2 x3 ((0 : Int32)) ((-1 : Int32)) ((0 : Int32))
      · refine j_bipush (v := (-2 : Int32)) C dX6_call_34 (by decide) ?_
        exact j_iretw C dX6_call_36
set_option maxRecDepth 100000 in
set_option maxHeartbeats 4000000 in
theorem ct_X6_meet (γ : Gm) (E : Ev) (M : Mi) (L : Ml)  (x1 : Int32) (x2 : Int32) (h0 : MAt E) : Ct γ yX6_meet cX6_meet 4 (some .int) ⟨45, 0, 0, 1001⟩ [.ref (E.2.1 0), .int x1, .int x2] E M L (Q_iw γ E) 0 0 (F_X6_meet M L x1 x2) := by
  refine ct_of (own := RX6) (lv := [some (.ref (E.2.1 0)), some (.int x1), some (.int x2), none]) (by decide +kernel) rfl rfl (Nat.le_of_ble_eq_true rfl) (fun κ C hγ hN => ?_)
  subst hγ
  have hn : ∀ i, i < 4 → i < knL κ := fun i h => by rw [hN]; exact h
  have k48 : ∀ (M : Mi) (L : Ml) (x3 : Int32), JF κ (PQ κ (Q_iw (kγ κ) E) 0 0) 48 [some (.ref (E.2.1 0)), none, none, some (.int x3)] [] E M L 0 0 (F_X6_meet_k48  M L x3) := by
    intro M L x3
    unfold F_X6_meet_k48
    refine j_aload_n C dX6_meet_48 rfl rfl ?_
    refine j_callV_vw (st := []) C dX6_meet_49 (ct_X6_laysBack (kγ κ) E M L h0) mi_X6_laysBack tw_1262 FC6 (MAt.S h0) rfl rfl (Nat.le_of_ble_eq_true rfl) ⟨⟨rfl, rfl⟩, ⟨Nat.le_of_ble_eq_true rfl, Nat.le_of_ble_eq_true rfl⟩, ⟨Nat.zero_le _, Nat.zero_le _⟩⟩ (fun r49 => ?_)
    refine j_iload_n C dX6_meet_52 rfl rfl ?_
    refine j_bipush (v := (60 : Int32)) C dX6_meet_53 (by decide) ?_
    refine j_icmp_le (tgt := 62) C dX6_meet_55 (by decide) ?_ ?_
    · refine j_iload_n C dX6_meet_62 rfl rfl ?_
      exact j_iretw C dX6_meet_63
    · refine j_iconst (v := (-1 : Int32)) C dX6_meet_58 rfl ?_
      refine j_goto (tgt := 63) C dX6_meet_59 (by decide) ?_
      exact j_iretw C dX6_meet_63
  have k18 : ∀ (n : Nat) (M : Mi) (L : Ml) (x1 : Int32) (x2 : Int32) (x3 : Int32), JF κ (PQ κ (Q_iw (kγ κ) E) 0 0) 18 [some (.ref (E.2.1 0)), some (.int x1), some (.int x2), some (.int x3)] [] E M L 0 0 (F_X6_meet_k18  n M L x1 x2 x3) := by
    intro n
    induction n with
    | zero => intros; exact jf_none
    | succ n ih =>
      intro M L x1 x2 x3
      unfold F_X6_meet_k18
      refine j_iload_n C dX6_meet_18 rfl rfl ?_
      refine j_bipush (v := (60 : Int32)) C dX6_meet_19 (by decide) ?_
      refine j_icmp_gt (tgt := 48) C dX6_meet_21 (by decide) ?_ ?_
      · refine j_mask [true, false, false, true] (lv' := [some (.ref (E.2.1 0)), none, none, some (.int x3)]) rfl ?_
        exact k48 M L x3
      · refine j_aload_n C dX6_meet_24 rfl rfl ?_
        refine j_iload_n C dX6_meet_25 rfl rfl ?_
        refine j_callV_i (st := []) C dX6_meet_26 (ct_X6_onOf (kγ κ) E M L x1 h0) mi_X6_onOf tw_955 FC6 (MAt.S h0) rfl rfl (Nat.le_of_ble_eq_true rfl) ⟨⟨rfl, rfl⟩, ⟨Nat.le_of_ble_eq_true rfl, Nat.le_of_ble_eq_true rfl⟩, ⟨Nat.zero_le _, Nat.zero_le _⟩⟩ (fun v26 => ?_)
        refine j_aload_n C dX6_meet_29 rfl rfl ?_
        refine j_iload_n C dX6_meet_30 rfl rfl ?_
        refine j_callV_i (st := [.int v26]) C dX6_meet_31 (ct_X6_onOf (kγ κ) E M L x2 h0) mi_X6_onOf tw_955 FC6 (MAt.S h0) rfl rfl (Nat.le_of_ble_eq_true rfl) ⟨⟨rfl, rfl⟩, ⟨Nat.le_of_ble_eq_true rfl, Nat.le_of_ble_eq_true rfl⟩, ⟨Nat.zero_le _, Nat.zero_le _⟩⟩ (fun v31 => ?_)
        refine j_icmp_eq (tgt := 48) C dX6_meet_34 (by decide) ?_ ?_
        · refine j_mask [true, false, false, true] (lv' := [some (.ref (E.2.1 0)), none, none, some (.int x3)]) rfl ?_
          exact k48 M L x3
        · refine j_aload_n C dX6_meet_37 rfl rfl ?_
          refine j_callV_iw (st := []) C dX6_meet_38 (ct_X6_passes (kγ κ) E M L h0) mi_X6_passes tw_1240 FC6 (MAt.S h0) rfl rfl (Nat.le_of_ble_eq_true rfl) ⟨⟨rfl, rfl⟩, ⟨Nat.le_of_ble_eq_true rfl, Nat.le_of_ble_eq_true rfl⟩, ⟨Nat.zero_le _, Nat.zero_le _⟩⟩ (fun r38 => ?_)
          refine j_pop C dX6_meet_41 rfl ?_
          refine j_iinc (i := 3) (v := (x3 + (1 : Int32))) (lv' := [some (.ref (E.2.1 0)), some (.int x1), some (.int x2), some (.int (x3 + (1 : Int32)))]) C dX6_meet_42 rfl rfl (hn 3 (by decide)) rfl ?_
          refine j_goto (tgt := 18) C dX6_meet_45 (by decide) ?_
          exact ih r38.2.1 r38.2.2 x1 x2 ((x3 + (1 : Int32)))
  unfold F_X6_meet
  refine j_aload_n C dX6_meet_0 rfl rfl ?_
  refine j_iload_n C dX6_meet_1 rfl rfl ?_
  refine j_iload_n C dX6_meet_2 rfl rfl ?_
  refine j_callV_i (st := []) C dX6_meet_3 (ct_X6_areTwo (kγ κ) E M L x1 x2 h0) mi_X6_areTwo tw_1278 FC6 (MAt.S h0) rfl rfl (Nat.le_of_ble_eq_true rfl) ⟨⟨rfl, rfl⟩, ⟨Nat.le_of_ble_eq_true rfl, Nat.le_of_ble_eq_true rfl⟩, ⟨Nat.zero_le _, Nat.zero_le _⟩⟩ (fun v3 => ?_)
  refine j_if_ne (tgt := 12) C dX6_meet_6 (by decide) ?_ ?_
  · refine j_aload_n C dX6_meet_12 rfl rfl ?_
    refine j_callV_vw (st := []) C dX6_meet_13 (ct_X6_laysAside (kγ κ) E M L h0) mi_X6_laysAside tw_1250 FC6 (MAt.S h0) rfl rfl (Nat.le_of_ble_eq_true rfl) ⟨⟨rfl, rfl⟩, ⟨Nat.le_of_ble_eq_true rfl, Nat.le_of_ble_eq_true rfl⟩, ⟨Nat.zero_le _, Nat.zero_le _⟩⟩ (fun r13 => ?_)
    refine j_iconst (v := (0 : Int32)) C dX6_meet_16 rfl ?_
    refine j_istore_n (i := 3) (lv' := [some (.ref (E.2.1 0)), some (.int x1), some (.int x2), some (.int (0 : Int32))]) C dX6_meet_17 rfl (hn 3 (by decide)) rfl ?_
    exact k18 FU r13.1 r13.2 x1 x2 ((0 : Int32))
  · refine j_bipush (v := (-2 : Int32)) C dX6_meet_9 (by decide) ?_
    exact j_iretw C dX6_meet_11
set_option maxRecDepth 100000 in
set_option maxHeartbeats 4000000 in
theorem ct_X6_reachedBy (γ : Gm) (E : Ev) (M : Mi) (L : Ml)  (x1 : Int32) (x2 : Int32) (h0 : MAt E) : Ct γ yX6_reachedBy cX6_reachedBy 10 (some .long) ⟨2, 0, 0, 54⟩ [.ref (E.2.1 0), .int x1, .int x2] E M L (Q_l γ E M L) 0 0 (F_X6_reachedBy M L x1 x2) := by
  refine ct_of (own := RX6) (lv := [some (.ref (E.2.1 0)), some (.int x1), some (.int x2), none, none, none, none, none, none, none]) (by decide +kernel) rfl rfl (Nat.le_of_ble_eq_true rfl) (fun κ C hγ hN => ?_)
  subst hγ
  have hn : ∀ i, i < 10 → i < knL κ := fun i h => by rw [hN]; exact h
  have k90 : ∀ (kf33 : Int32 → Int32 → Int64 → Int64 → Int32 → Int32 → Option (Int64)), (∀ (x1 : Int32) (x2 : Int32) (x3 : Int64) (x5 : Int64) (x7 : Int32) (x8 : Int32), JF κ (PQ κ (Q_l (kγ κ) E M L) 0 0) 33 [some (.ref (E.2.1 0)), some (.int x1), some (.int x2), some (.long x3), none, some (.long x5), none, some (.int x7), some (.int x8), none] [] E M L 0 0 (kf33 x1 x2 x3 x5 x7 x8)) → ∀ (x1 : Int32) (x2 : Int32) (x5 : Int64) (x7 : Int32) (x8 : Int32) (s0 : Int64) (s1 : Int64), JF κ (PQ κ (Q_l (kγ κ) E M L) 0 0) 90 [some (.ref (E.2.1 0)), some (.int x1), some (.int x2), none, none, some (.long x5), none, some (.int x7), some (.int x8), none] [.long s1, .long s0] E M L 0 0 (F_X6_reachedBy_k90 M L kf33 x1 x2 x5 x7 x8 s0 s1) := by
    intro kf33 hkf33 x1 x2 x5 x7 x8 s0 s1
    unfold F_X6_reachedBy_k90
    refine j_lor C dX6_reachedBy_90 ?_
    refine j_lstore_n (i := 3) (lv' := [some (.ref (E.2.1 0)), some (.int x1), some (.int x2), some (.long (s0 ||| s1)), none, some (.long x5), none, some (.int x7), some (.int x8), none]) C dX6_reachedBy_91 rfl (hn 4 (by decide)) rfl ?_
    refine j_iinc (i := 8) (v := (x8 + (1 : Int32))) (lv' := [some (.ref (E.2.1 0)), some (.int x1), some (.int x2), some (.long (s0 ||| s1)), none, some (.long x5), none, some (.int x7), some (.int (x8 + (1 : Int32))), none]) C dX6_reachedBy_92 rfl rfl (hn 8 (by decide)) rfl ?_
    refine j_goto (tgt := 33) C dX6_reachedBy_95 (by decide) ?_
    exact hkf33 x1 x2 ((s0 ||| s1)) x5 x7 ((x8 + (1 : Int32)))
  have k73 : ∀ (kf33 : Int32 → Int32 → Int64 → Int64 → Int32 → Int32 → Option (Int64)), (∀ (x1 : Int32) (x2 : Int32) (x3 : Int64) (x5 : Int64) (x7 : Int32) (x8 : Int32), JF κ (PQ κ (Q_l (kγ κ) E M L) 0 0) 33 [some (.ref (E.2.1 0)), some (.int x1), some (.int x2), some (.long x3), none, some (.long x5), none, some (.int x7), some (.int x8), none] [] E M L 0 0 (kf33 x1 x2 x3 x5 x7 x8)) → ∀ (x1 : Int32) (x2 : Int32) (x3 : Int64) (x5 : Int64) (x7 : Int32) (x8 : Int32) (s0 : Int32), JF κ (PQ κ (Q_l (kγ κ) E M L) 0 0) 73 [some (.ref (E.2.1 0)), some (.int x1), some (.int x2), some (.long x3), none, some (.long x5), none, some (.int x7), some (.int x8), none] [.int s0] E M L 0 0 (F_X6_reachedBy_k73 M L kf33 x1 x2 x3 x5 x7 x8 s0) := by
    intro kf33 hkf33 x1 x2 x3 x5 x7 x8 s0
    unfold F_X6_reachedBy_k73
    refine j_istore (i := 9) (lv' := [some (.ref (E.2.1 0)), some (.int x1), some (.int x2), some (.long x3), none, some (.long x5), none, some (.int x7), some (.int x8), some (.int s0)]) C dX6_reachedBy_73 (hn 9 (by decide)) rfl ?_
    refine j_lload_n C dX6_reachedBy_75 rfl rfl ?_
    refine j_iload C dX6_reachedBy_76 rfl ?_
    refine j_iconst (v := (-1 : Int32)) C dX6_reachedBy_78 rfl ?_
    refine j_icmp_ne (tgt := 86) C dX6_reachedBy_79 (by decide) ?_ ?_
    · refine j_lconst (v := (1 : Int64)) C dX6_reachedBy_86 rfl ?_
      refine j_iload C dX6_reachedBy_87 rfl ?_
      refine j_lshl C dX6_reachedBy_89 ?_
      refine j_mask [true, true, true, false, false, true, false, true, true, false] (lv' := [some (.ref (E.2.1 0)), some (.int x1), some (.int x2), none, none, some (.long x5), none, some (.int x7), some (.int x8), none]) rfl ?_
      exact k90 kf33 hkf33 x1 x2 x5 x7 x8 x3 ((lshl (1 : Int64) s0))
    · refine j_lconst (v := (0 : Int64)) C dX6_reachedBy_82 rfl ?_
      refine j_goto (tgt := 90) C dX6_reachedBy_83 (by decide) ?_
      refine j_mask [true, true, true, false, false, true, false, true, true, false] (lv' := [some (.ref (E.2.1 0)), some (.int x1), some (.int x2), none, none, some (.long x5), none, some (.int x7), some (.int x8), none]) rfl ?_
      exact k90 kf33 hkf33 x1 x2 x5 x7 x8 x3 ((0 : Int64))
  have k33 : ∀ (kf14 : Int32 → Int32 → Int64 → Int64 → Int32 → Option (Int64)), (∀ (x1 : Int32) (x2 : Int32) (x3 : Int64) (x5 : Int64) (x7 : Int32), JF κ (PQ κ (Q_l (kγ κ) E M L) 0 0) 14 [some (.ref (E.2.1 0)), some (.int x1), some (.int x2), some (.long x3), none, some (.long x5), none, some (.int x7), none, none] [] E M L 0 0 (kf14 x1 x2 x3 x5 x7)) → ∀ (n : Nat) (x1 : Int32) (x2 : Int32) (x3 : Int64) (x5 : Int64) (x7 : Int32) (x8 : Int32), JF κ (PQ κ (Q_l (kγ κ) E M L) 0 0) 33 [some (.ref (E.2.1 0)), some (.int x1), some (.int x2), some (.long x3), none, some (.long x5), none, some (.int x7), some (.int x8), none] [] E M L 0 0 (F_X6_reachedBy_k33 M L kf14 n x1 x2 x3 x5 x7 x8) := by
    intro kf14 hkf14
    intro n
    induction n with
    | zero => intros; exact jf_none
    | succ n ih =>
      intro x1 x2 x3 x5 x7 x8
      unfold F_X6_reachedBy_k33
      refine j_iload C dX6_reachedBy_33 rfl ?_
      refine j_sipush (v := (512 : Int32)) C dX6_reachedBy_35 (by decide) ?_
      refine j_icmp_ge (tgt := 98) C dX6_reachedBy_38 (by decide) ?_ ?_
      · refine j_iinc (i := 7) (v := (x7 + (1 : Int32))) (lv' := [some (.ref (E.2.1 0)), some (.int x1), some (.int x2), some (.long x3), none, some (.long x5), none, some (.int (x7 + (1 : Int32))), some (.int x8), none]) C dX6_reachedBy_98 rfl rfl (hn 7 (by decide)) rfl ?_
        refine j_goto (tgt := 14) C dX6_reachedBy_101 (by decide) ?_
        refine j_mask [true, true, true, true, false, true, false, true, false, false] (lv' := [some (.ref (E.2.1 0)), some (.int x1), some (.int x2), some (.long x3), none, some (.long x5), none, some (.int (x7 + (1 : Int32))), none, none]) rfl ?_
        exact hkf14 x1 x2 x3 x5 ((x7 + (1 : Int32)))
      · refine j_lload C dX6_reachedBy_41 rfl ?_
        refine j_iload C dX6_reachedBy_43 rfl ?_
        refine j_bipush (v := (8 : Int32)) C dX6_reachedBy_45 (by decide) ?_
        refine j_idivc C dX6_reachedBy_47 (by decide) ?_
        refine j_callS_i (st := []) C dX6_reachedBy_48 (ct_X6_has (kγ κ) E M L x5 (x8 / (8 : Int32))) mi_X6_has tw_959 rfl rfl (Nat.le_of_ble_eq_true rfl) ⟨⟨rfl, rfl⟩, ⟨Nat.le_of_ble_eq_true rfl, Nat.le_of_ble_eq_true rfl⟩, ⟨Nat.zero_le _, Nat.zero_le _⟩⟩ (fun v48 => ?_)
        refine j_if_eq (tgt := 72) C dX6_reachedBy_51 (by decide) ?_ ?_
        · refine j_iconst (v := (-1 : Int32)) C dX6_reachedBy_72 rfl ?_
          exact k73 (F_X6_reachedBy_k33 M L kf14 n) ih x1 x2 x3 x5 x7 x8 ((-1 : Int32))
        · refine j_aload_n C dX6_reachedBy_54 rfl rfl ?_
          refine j_iload_n C dX6_reachedBy_55 rfl rfl ?_
          refine j_iload C dX6_reachedBy_56 rfl ?_
          refine j_bipush (v := (8 : Int32)) C dX6_reachedBy_58 (by decide) ?_
          refine j_idivc C dX6_reachedBy_60 (by decide) ?_
          refine j_iload C dX6_reachedBy_61 rfl ?_
          refine j_bipush (v := (8 : Int32)) C dX6_reachedBy_63 (by decide) ?_
          refine j_pc (pc2 := 65) rfl ?_
          refine j_iremc C dX6_reachedBy_65 (by decide) ?_
          refine j_callV_i (st := []) C dX6_reachedBy_66 (ct_X6_leapFrom (kγ κ) E M L x1 (x8 / (8 : Int32)) (irm x8 (8 : Int32)) h0) mi_X6_leapFrom tw_1226 FC6 (MAt.S h0) rfl rfl (Nat.le_of_ble_eq_true rfl) ⟨⟨rfl, rfl⟩, ⟨Nat.le_of_ble_eq_true rfl, Nat.le_of_ble_eq_true rfl⟩, ⟨Nat.zero_le _, Nat.zero_le _⟩⟩ (fun v66 => ?_)
          refine j_goto (tgt := 73) C dX6_reachedBy_69 (by decide) ?_
          exact k73 (F_X6_reachedBy_k33 M L kf14 n) ih x1 x2 x3 x5 x7 x8 v66
  have k14 : ∀ (n : Nat) (x1 : Int32) (x2 : Int32) (x3 : Int64) (x5 : Int64) (x7 : Int32), JF κ (PQ κ (Q_l (kγ κ) E M L) 0 0) 14 [some (.ref (E.2.1 0)), some (.int x1), some (.int x2), some (.long x3), none, some (.long x5), none, some (.int x7), none, none] [] E M L 0 0 (F_X6_reachedBy_k14 M L n x1 x2 x3 x5 x7) := by
    intro n
    induction n with
    | zero => intros; exact jf_none
    | succ n ih =>
      intro x1 x2 x3 x5 x7
      unfold F_X6_reachedBy_k14
      refine j_iload C dX6_reachedBy_14 rfl ?_
      refine j_iload_n C dX6_reachedBy_16 rfl rfl ?_
      refine j_icmp_ge (tgt := 104) C dX6_reachedBy_17 (by decide) ?_ ?_
      · refine j_lload_n C dX6_reachedBy_104 rfl rfl ?_
        exact j_lret C dX6_reachedBy_105
      · refine j_lload_n C dX6_reachedBy_20 rfl rfl ?_
        refine j_lload C dX6_reachedBy_21 rfl ?_
        refine j_lcmp C dX6_reachedBy_23 ?_
        refine j_if_eq (tgt := 104) C dX6_reachedBy_24 (by decide) ?_ ?_
        · refine j_lload_n C dX6_reachedBy_104 rfl rfl ?_
          exact j_lret C dX6_reachedBy_105
        · refine j_lload_n C dX6_reachedBy_27 rfl rfl ?_
          refine j_lstore (i := 5) (lv' := [some (.ref (E.2.1 0)), some (.int x1), some (.int x2), some (.long x3), none, some (.long x3), none, some (.int x7), none, none]) C dX6_reachedBy_28 (hn 6 (by decide)) rfl ?_
          refine j_iconst (v := (0 : Int32)) C dX6_reachedBy_30 rfl ?_
          refine j_istore (i := 8) (lv' := [some (.ref (E.2.1 0)), some (.int x1), some (.int x2), some (.long x3), none, some (.long x3), none, some (.int x7), some (.int (0 : Int32)), none]) C dX6_reachedBy_31 (hn 8 (by decide)) rfl ?_
          exact k33 (F_X6_reachedBy_k14 M L n) ih FU x1 x2 x3 x3 x7 ((0 : Int32))
  unfold F_X6_reachedBy
  refine j_lconst (v := (1 : Int64)) C dX6_reachedBy_0 rfl ?_
  refine j_aload_n C dX6_reachedBy_1 rfl rfl ?_
  refine j_iload_n C dX6_reachedBy_2 rfl rfl ?_
  refine j_callV_i (st := [.long (1 : Int64)]) C dX6_reachedBy_3 (ct_X6_onOf (kγ κ) E M L x1 h0) mi_X6_onOf tw_955 FC6 (MAt.S h0) rfl rfl (Nat.le_of_ble_eq_true rfl) ⟨⟨rfl, rfl⟩, ⟨Nat.le_of_ble_eq_true rfl, Nat.le_of_ble_eq_true rfl⟩, ⟨Nat.zero_le _, Nat.zero_le _⟩⟩ (fun v3 => ?_)
  refine j_lshl C dX6_reachedBy_6 ?_
  refine j_lstore_n (i := 3) (lv' := [some (.ref (E.2.1 0)), some (.int x1), some (.int x2), some (.long (lshl (1 : Int64) v3)), none, none, none, none, none, none]) C dX6_reachedBy_7 rfl (hn 4 (by decide)) rfl ?_
  refine j_lconst (v := (0 : Int64)) C dX6_reachedBy_8 rfl ?_
  refine j_pc (pc2 := 9) rfl ?_
  refine j_lstore (i := 5) (lv' := [some (.ref (E.2.1 0)), some (.int x1), some (.int x2), some (.long (lshl (1 : Int64) v3)), none, some (.long (0 : Int64)), none, none, none, none]) C dX6_reachedBy_9 (hn 6 (by decide)) rfl ?_
  refine j_iconst (v := (0 : Int32)) C dX6_reachedBy_11 rfl ?_
  refine j_istore (i := 7) (lv' := [some (.ref (E.2.1 0)), some (.int x1), some (.int x2), some (.long (lshl (1 : Int64) v3)), none, some (.long (0 : Int64)), none, some (.int (0 : Int32)), none, none]) C dX6_reachedBy_12 (hn 7 (by decide)) rfl ?_
  exact k14 FU x1 x2 ((lshl (1 : Int64) v3)) ((0 : Int64)) ((0 : Int32))
set_option maxRecDepth 100000 in
set_option maxHeartbeats 4000000 in
theorem ct_X6_reached (γ : Gm) (E : Ev) (M : Mi) (L : Ml)  (x1 : Int32) (x2 : Int32) (h0 : MAt E) : Ct γ yX6_reached cX6_reached 3 (some .long) ⟨3, 0, 0, 83⟩ [.ref (E.2.1 0), .int x1, .int x2] E M L (Q_l γ E M L) 0 0 (F_X6_reached M L x1 x2) := by
  refine ct_of (own := RX6) (lv := [some (.ref (E.2.1 0)), some (.int x1), some (.int x2)]) (by decide +kernel) rfl rfl (Nat.le_of_ble_eq_true rfl) (fun κ C hγ hN => ?_)
  subst hγ
  have hn : ∀ i, i < 3 → i < knL κ := fun i h => by rw [hN]; exact h
  unfold F_X6_reached
  refine j_aload_n C dX6_reached_0 rfl rfl ?_
  refine j_iload_n C dX6_reached_1 rfl rfl ?_
  refine j_callV_i (st := []) C dX6_reached_2 (ct_X6_isOne (kγ κ) E M L x1 h0) mi_X6_isOne tw_944 FC6 (MAt.S h0) rfl rfl (Nat.le_of_ble_eq_true rfl) ⟨⟨rfl, rfl⟩, ⟨Nat.le_of_ble_eq_true rfl, Nat.le_of_ble_eq_true rfl⟩, ⟨Nat.zero_le _, Nat.zero_le _⟩⟩ (fun v2 => ?_)
  refine j_if_eq (tgt := 29) C dX6_reached_5 (by decide) ?_ ?_
  · refine j_ldc2 (v := (-4611686018427387904 : Int64)) C dX6_reached_29 tw_1203 ?_
    exact j_lret C dX6_reached_32
  · refine j_iload_n C dX6_reached_8 rfl rfl ?_
    refine j_i2l C dX6_reached_9 ?_
    refine j_lconst (v := (0 : Int64)) C dX6_reached_10 rfl ?_
    refine j_ldc2 (v := (63 : Int64)) C dX6_reached_11 tw_943 ?_
    refine j_callS_i (st := []) C dX6_reached_14 (ct_X6_in (kγ κ) E M L (Int32.toInt64 x2) (0 : Int64) (63 : Int64)) mi_X6_in tw_933 rfl rfl (Nat.le_of_ble_eq_true rfl) ⟨⟨rfl, rfl⟩, ⟨Nat.le_of_ble_eq_true rfl, Nat.le_of_ble_eq_true rfl⟩, ⟨Nat.zero_le _, Nat.zero_le _⟩⟩ (fun v14 => ?_)
    refine j_if_eq (tgt := 29) C dX6_reached_17 (by decide) ?_ ?_
    · refine j_ldc2 (v := (-4611686018427387904 : Int64)) C dX6_reached_29 tw_1203 ?_
      exact j_lret C dX6_reached_32
    · refine j_aload_n C dX6_reached_20 rfl rfl ?_
      refine j_iload_n C dX6_reached_21 rfl rfl ?_
      refine j_iload_n C dX6_reached_22 rfl rfl ?_
      refine j_callV_l (st := []) C dX6_reached_23 (ct_X6_reachedBy (kγ κ) E M L x1 x2 h0) mi_X6_reachedBy tw_1286 FC6 (MAt.S h0) rfl rfl (Nat.le_of_ble_eq_true rfl) ⟨⟨rfl, rfl⟩, ⟨Nat.le_of_ble_eq_true rfl, Nat.le_of_ble_eq_true rfl⟩, ⟨Nat.zero_le _, Nat.zero_le _⟩⟩ (fun v23 => ?_)
      refine j_goto (tgt := 32) C dX6_reached_26 (by decide) ?_
      exact j_lret C dX6_reached_32
set_option maxRecDepth 100000 in
set_option maxHeartbeats 4000000 in
theorem ct_X6_fewest (γ : Gm) (E : Ev) (M : Mi) (L : Ml)  (x1 : Int32) (x2 : Int32) (h0 : MAt E) : Ct γ yX6_fewest cX6_fewest 4 (some .int) ⟨3, 0, 0, 83⟩ [.ref (E.2.1 0), .int x1, .int x2] E M L (Q_i γ E M L) 0 0 (F_X6_fewest M L x1 x2) := by
  refine ct_of (own := RX6) (lv := [some (.ref (E.2.1 0)), some (.int x1), some (.int x2), none]) (by decide +kernel) rfl rfl (Nat.le_of_ble_eq_true rfl) (fun κ C hγ hN => ?_)
  subst hγ
  have hn : ∀ i, i < 4 → i < knL κ := fun i h => by rw [hN]; exact h
  have k45 : ∀ (x3 : Int32), JF κ (PQ κ (Q_i (kγ κ) E M L) 0 0) 45 [none, none, none, some (.int x3)] [] E M L 0 0 (F_X6_fewest_k45 M L x3) := by
    intro x3
    unfold F_X6_fewest_k45
    refine j_iload_n C dX6_fewest_45 rfl rfl ?_
    refine j_bipush (v := (64 : Int32)) C dX6_fewest_46 (by decide) ?_
    refine j_icmp_ne (tgt := 55) C dX6_fewest_48 (by decide) ?_ ?_
    · refine j_iload_n C dX6_fewest_55 rfl rfl ?_
      exact j_iret C dX6_fewest_56
    · refine j_iconst (v := (-1 : Int32)) C dX6_fewest_51 rfl ?_
      refine j_goto (tgt := 56) C dX6_fewest_52 (by decide) ?_
      exact j_iret C dX6_fewest_56
  have k20 : ∀ (n : Nat) (x1 : Int32) (x2 : Int32) (x3 : Int32), JF κ (PQ κ (Q_i (kγ κ) E M L) 0 0) 20 [some (.ref (E.2.1 0)), some (.int x1), some (.int x2), some (.int x3)] [] E M L 0 0 (F_X6_fewest_k20 M L n x1 x2 x3) := by
    intro n
    induction n with
    | zero => intros; exact jf_none
    | succ n ih =>
      intro x1 x2 x3
      unfold F_X6_fewest_k20
      refine j_iload_n C dX6_fewest_20 rfl rfl ?_
      refine j_bipush (v := (64 : Int32)) C dX6_fewest_21 (by decide) ?_
      refine j_icmp_ge (tgt := 45) C dX6_fewest_23 (by decide) ?_ ?_
      · refine j_mask [false, false, false, true] (lv' := [none, none, none, some (.int x3)]) rfl ?_
        exact k45 x3
      · refine j_aload_n C dX6_fewest_26 rfl rfl ?_
        refine j_iload_n C dX6_fewest_27 rfl rfl ?_
        refine j_iload_n C dX6_fewest_28 rfl rfl ?_
        refine j_callV_l (st := []) C dX6_fewest_29 (ct_X6_reachedBy (kγ κ) E M L x1 x3 h0) mi_X6_reachedBy tw_1286 FC6 (MAt.S h0) rfl rfl (Nat.le_of_ble_eq_true rfl) ⟨⟨rfl, rfl⟩, ⟨Nat.le_of_ble_eq_true rfl, Nat.le_of_ble_eq_true rfl⟩, ⟨Nat.zero_le _, Nat.zero_le _⟩⟩ (fun v29 => ?_)
        refine j_iload_n C dX6_fewest_32 rfl rfl ?_
        refine j_callS_i (st := []) C dX6_fewest_33 (ct_X6_has (kγ κ) E M L v29 x2) mi_X6_has tw_959 rfl rfl (Nat.le_of_ble_eq_true rfl) ⟨⟨rfl, rfl⟩, ⟨Nat.le_of_ble_eq_true rfl, Nat.le_of_ble_eq_true rfl⟩, ⟨Nat.zero_le _, Nat.zero_le _⟩⟩ (fun v33 => ?_)
        refine j_if_ne (tgt := 45) C dX6_fewest_36 (by decide) ?_ ?_
        · refine j_mask [false, false, false, true] (lv' := [none, none, none, some (.int x3)]) rfl ?_
          exact k45 x3
        · refine j_iinc (i := 3) (v := (x3 + (1 : Int32))) (lv' := [some (.ref (E.2.1 0)), some (.int x1), some (.int x2), some (.int (x3 + (1 : Int32)))]) C dX6_fewest_39 rfl rfl (hn 3 (by decide)) rfl ?_
          refine j_goto (tgt := 20) C dX6_fewest_42 (by decide) ?_
          exact ih x1 x2 ((x3 + (1 : Int32)))
  unfold F_X6_fewest
  refine j_aload_n C dX6_fewest_0 rfl rfl ?_
  refine j_iload_n C dX6_fewest_1 rfl rfl ?_
  refine j_callV_i (st := []) C dX6_fewest_2 (ct_X6_isOne (kγ κ) E M L x1 h0) mi_X6_isOne tw_944 FC6 (MAt.S h0) rfl rfl (Nat.le_of_ble_eq_true rfl) ⟨⟨rfl, rfl⟩, ⟨Nat.le_of_ble_eq_true rfl, Nat.le_of_ble_eq_true rfl⟩, ⟨Nat.zero_le _, Nat.zero_le _⟩⟩ (fun v2 => ?_)
  refine j_if_eq (tgt := 15) C dX6_fewest_5 (by decide) ?_ ?_
  · refine j_bipush (v := (-2 : Int32)) C dX6_fewest_15 (by decide) ?_
    exact j_iret C dX6_fewest_17
  · refine j_iload_n C dX6_fewest_8 rfl rfl ?_
    refine j_callS_i (st := []) C dX6_fewest_9 (ct_X6_isTile (kγ κ) E M L x2) mi_X6_isTile tw_940 rfl rfl (Nat.le_of_ble_eq_true rfl) ⟨⟨rfl, rfl⟩, ⟨Nat.le_of_ble_eq_true rfl, Nat.le_of_ble_eq_true rfl⟩, ⟨Nat.zero_le _, Nat.zero_le _⟩⟩ (fun v9 => ?_)
    refine j_if_ne (tgt := 18) C dX6_fewest_12 (by decide) ?_ ?_
    · refine j_iconst (v := (0 : Int32)) C dX6_fewest_18 rfl ?_
      refine j_istore_n (i := 3) (lv' := [some (.ref (E.2.1 0)), some (.int x1), some (.int x2), some (.int (0 : Int32))]) C dX6_fewest_19 rfl (hn 3 (by decide)) rfl ?_
      exact k20 FU x1 x2 ((0 : Int32))
    · refine j_bipush (v := (-2 : Int32)) C dX6_fewest_15 (by decide) ?_
      exact j_iret C dX6_fewest_17
