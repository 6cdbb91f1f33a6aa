set_option maxRecDepth 100000 in
set_option maxHeartbeats 4000000 in
theorem ct_X6_added4 (γ : Gm) (E : Ev) (M : Mi) (L : Ml)   (h0 : MAt E) : Ct γ yX6_added4 cX6_added4 4 (some .int) ⟨12, 0, 0, 265⟩ [.ref (E.2.1 0)] E M L (Q_iw γ E) 0 0 (F_X6_added4 M L) := by
  refine ct_of (own := RX6) (lv := [some (.ref (E.2.1 0)), none, none, none]) (by decide +kernel) rfl rfl (Nat.le_of_ble_eq_true rfl) (fun κ C hγ hN => ?_)
  subst hγ
  have hn : ∀ i, i < 4 → i < knL κ := fun i h => by rw [hN]; exact h
  have k62 : ∀ (kf5 : Mi → Ml → Int32 → Option (Int32 × Mi × Ml)), (∀ (M : Mi) (L : Ml) (x1 : Int32), JF κ (PQ κ (Q_iw (kγ κ) E) 0 0) 5 [some (.ref (E.2.1 0)), some (.int x1), none, none] [] E M L 0 0 (kf5 M L x1)) → ∀ (M : Mi) (L : Ml) (s0 : Int32), JF κ (PQ κ (Q_iw (kγ κ) E) 0 0) 62 [some (.ref (E.2.1 0)), none, none, none] [.int s0] E M L 0 0 (F_X6_added4_k62 kf5 M L s0) := by
    intro kf5 hkf5 M L s0
    unfold F_X6_added4_k62
    refine j_istore_n (i := 1) (lv' := [some (.ref (E.2.1 0)), some (.int s0), none, none]) C dX6_added4_62 rfl (hn 1 (by decide)) rfl ?_
    refine j_goto (tgt := 5) C dX6_added4_63 (by decide) ?_
    exact hkf5 M L s0
  have k39 : ∀ (kf5 : Mi → Ml → Int32 → Option (Int32 × Mi × Ml)), (∀ (M : Mi) (L : Ml) (x1 : Int32), JF κ (PQ κ (Q_iw (kγ κ) E) 0 0) 5 [some (.ref (E.2.1 0)), some (.int x1), none, none] [] E M L 0 0 (kf5 M L x1)) → ∀ (M : Mi) (L : Ml) (x1 : Int32) (s0 : Int32), JF κ (PQ κ (Q_iw (kγ κ) E) 0 0) 39 [some (.ref (E.2.1 0)), some (.int x1), none, none] [.int s0] E M L 0 0 (F_X6_added4_k39 kf5 M L x1 s0) := by
    intro kf5 hkf5 M L x1 s0
    unfold F_X6_added4_k39
    refine j_istore_n (i := 2) (lv' := [some (.ref (E.2.1 0)), some (.int x1), some (.int s0), none]) C dX6_added4_39 rfl (hn 2 (by decide)) rfl ?_
    refine j_aload_n C dX6_added4_40 rfl rfl ?_
    refine j_callV_vw (st := []) C dX6_added4_41 (ct_X6_next (kγ κ) E M L h0) mi_X6_next tw_982 FC6 (MAt.S h0) rfl rfl (Nat.le_of_ble_eq_true rfl) ⟨⟨rfl, rfl⟩, ⟨Nat.le_of_ble_eq_true rfl, Nat.le_of_ble_eq_true rfl⟩, ⟨Nat.zero_le _, Nat.zero_le _⟩⟩ (fun r41 => ?_)
    refine j_aload_n C dX6_added4_44 rfl rfl ?_
    refine j_callV_iw (st := []) C dX6_added4_45 (ct_X6_term4 (kγ κ) E r41.1 r41.2 h0) mi_X6_term4 tw_1073 FC6 (MAt.S h0) rfl rfl (Nat.le_of_ble_eq_true rfl) ⟨⟨rfl, rfl⟩, ⟨Nat.le_of_ble_eq_true rfl, Nat.le_of_ble_eq_true rfl⟩, ⟨Nat.zero_le _, Nat.zero_le _⟩⟩ (fun r45 => ?_)
    refine j_istore_n (i := 3) (lv' := [some (.ref (E.2.1 0)), some (.int x1), some (.int s0), some (.int r45.1)]) C dX6_added4_48 rfl (hn 3 (by decide)) rfl ?_
    refine j_iload_n C dX6_added4_49 rfl rfl ?_
    refine j_pc (pc2 := 50) rfl ?_
    refine j_if_eq (tgt := 59) C dX6_added4_50 (by decide) ?_ ?_
    · refine j_iload_n C dX6_added4_59 rfl rfl ?_
      refine j_iload_n C dX6_added4_60 rfl rfl ?_
      refine j_isub C dX6_added4_61 ?_
      refine j_mask [true, false, false, false] (lv' := [some (.ref (E.2.1 0)), none, none, none]) rfl ?_
      exact k62 kf5 hkf5 r45.2.1 r45.2.2 ((x1 - r45.1))
    · refine j_iload_n C dX6_added4_53 rfl rfl ?_
      refine j_iload_n C dX6_added4_54 rfl rfl ?_
      refine j_iadd C dX6_added4_55 ?_
      refine j_goto (tgt := 62) C dX6_added4_56 (by decide) ?_
      refine j_mask [true, false, false, false] (lv' := [some (.ref (E.2.1 0)), none, none, none]) rfl ?_
      exact k62 kf5 hkf5 r45.2.1 r45.2.2 ((x1 + r45.1))
  have k23 : ∀ (kf5 : Mi → Ml → Int32 → Option (Int32 × Mi × Ml)), (∀ (M : Mi) (L : Ml) (x1 : Int32), JF κ (PQ κ (Q_iw (kγ κ) E) 0 0) 5 [some (.ref (E.2.1 0)), some (.int x1), none, none] [] E M L 0 0 (kf5 M L x1)) → ∀ (M : Mi) (L : Ml) (x1 : Int32), JF κ (PQ κ (Q_iw (kγ κ) E) 0 0) 23 [some (.ref (E.2.1 0)), some (.int x1), none, none] [] E M L 0 0 (F_X6_added4_k23 kf5 M L x1) := by
    intro kf5 hkf5 M L x1
    unfold F_X6_added4_k23
    refine j_aload_n C dX6_added4_23 rfl rfl ?_
    refine j_getL (j := 24) C dX6_added4_24 FC6 (MAt.S h0) (by decide) rfl tw_827 ?_
    refine j_ldc2 (v := (43 : Int64)) C dX6_added4_27 tw_1067 ?_
    refine j_lcmp C dX6_added4_30 ?_
    refine j_if_ne (tgt := 38) C dX6_added4_31 (by decide) ?_ ?_
    · refine j_iconst (v := (0 : Int32)) C dX6_added4_38 rfl ?_
      exact k39 kf5 hkf5 M L x1 ((0 : Int32))
    · refine j_iconst (v := (1 : Int32)) C dX6_added4_34 rfl ?_
      refine j_goto (tgt := 39) C dX6_added4_35 (by decide) ?_
      exact k39 kf5 hkf5 M L x1 ((1 : Int32))
  have k5 : ∀ (n : Nat) (M : Mi) (L : Ml) (x1 : Int32), JF κ (PQ κ (Q_iw (kγ κ) E) 0 0) 5 [some (.ref (E.2.1 0)), some (.int x1), none, none] [] E M L 0 0 (F_X6_added4_k5  n M L x1) := by
    intro n
    induction n with
    | zero => intros; exact jf_none
    | succ n ih =>
      intro M L x1
      unfold F_X6_added4_k5
      refine j_aload_n C dX6_added4_5 rfl rfl ?_
      refine j_bipush (v := (43 : Int32)) C dX6_added4_6 (by decide) ?_
      refine j_callV_i (st := []) C dX6_added4_8 (ct_X6_isSign (kγ κ) E M L (43 : Int32) h0) mi_X6_isSign tw_1059 FC6 (MAt.S h0) rfl rfl (Nat.le_of_ble_eq_true rfl) ⟨⟨rfl, rfl⟩, ⟨Nat.le_of_ble_eq_true rfl, Nat.le_of_ble_eq_true rfl⟩, ⟨Nat.zero_le _, Nat.zero_le _⟩⟩ (fun v8 => ?_)
      refine j_if_ne (tgt := 23) C dX6_added4_11 (by decide) ?_ ?_
      · exact k23 (F_X6_added4_k5  n) ih M L x1
      · refine j_aload_n C dX6_added4_14 rfl rfl ?_
        refine j_bipush (v := (45 : Int32)) C dX6_added4_15 (by decide) ?_
        refine j_callV_i (st := []) C dX6_added4_17 (ct_X6_isSign (kγ κ) E M L (45 : Int32) h0) mi_X6_isSign tw_1059 FC6 (MAt.S h0) rfl rfl (Nat.le_of_ble_eq_true rfl) ⟨⟨rfl, rfl⟩, ⟨Nat.le_of_ble_eq_true rfl, Nat.le_of_ble_eq_true rfl⟩, ⟨Nat.zero_le _, Nat.zero_le _⟩⟩ (fun v17 => ?_)
        refine j_if_eq (tgt := 66) C dX6_added4_20 (by decide) ?_ ?_
        · refine j_iload_n C dX6_added4_66 rfl rfl ?_
          exact j_iretw C dX6_added4_67
        · exact k23 (F_X6_added4_k5  n) ih M L x1
  unfold F_X6_added4
  refine j_aload_n C dX6_added4_0 rfl rfl ?_
  refine j_callV_iw (st := []) C dX6_added4_1 (ct_X6_term4 (kγ κ) E M L h0) mi_X6_term4 tw_1073 FC6 (MAt.S h0) rfl rfl (Nat.le_of_ble_eq_true rfl) ⟨⟨rfl, rfl⟩, ⟨Nat.le_of_ble_eq_true rfl, Nat.le_of_ble_eq_true rfl⟩, ⟨Nat.zero_le _, Nat.zero_le _⟩⟩ (fun r1 => ?_)
  refine j_istore_n (i := 1) (lv' := [some (.ref (E.2.1 0)), some (.int r1.1), none, none]) C dX6_added4_4 rfl (hn 1 (by decide)) rfl ?_
  exact k5 FU r1.2.1 r1.2.2 r1.1
set_option maxRecDepth 100000 in
set_option maxHeartbeats 4000000 in
theorem ct_X6_not4 (γ : Gm) (E : Ev) (M : Mi) (L : Ml)   (h0 : MAt E) : Ct γ yX6_not4 cX6_not4 4 (some .int) ⟨13, 0, 0, 288⟩ [.ref (E.2.1 0)] E M L (Q_iw γ E) 0 0 (F_X6_not4 M L) := by
  refine ct_of (own := RX6) (lv := [some (.ref (E.2.1 0)), none, none, none]) (by decide +kernel) rfl rfl (Nat.le_of_ble_eq_true rfl) (fun κ C hγ hN => ?_)
  subst hγ
  have hn : ∀ i, i < 4 → i < knL κ := fun i h => by rw [hN]; exact h
  have k120 : ∀ (M : Mi) (L : Ml), JF κ (PQ κ (Q_iw (kγ κ) E) 0 0) 120 [none, none, none, none] [] E M L 0 0 (F_X6_not4_k120  M L) := by
    intro M L
    unfold F_X6_not4_k120
    refine j_iconst (v := (1 : Int32)) C dX6_not4_120 rfl ?_
    refine j_goto (tgt := 125) C dX6_not4_121 (by decide) ?_
    exact j_iretw C dX6_not4_125
  have k93 : ∀ (M : Mi) (L : Ml) (x1 : Int32) (s0 : Int32), JF κ (PQ κ (Q_iw (kγ κ) E) 0 0) 93 [some (.ref (E.2.1 0)), some (.int x1), none, none] [.int s0] E M L 0 0 (F_X6_not4_k93  M L x1 s0) := by
    intro M L x1 s0
    unfold F_X6_not4_k93
    refine j_istore_n (i := 2) (lv' := [some (.ref (E.2.1 0)), some (.int x1), some (.int s0), none]) C dX6_not4_93 rfl (hn 2 (by decide)) rfl ?_
    refine j_aload_n C dX6_not4_94 rfl rfl ?_
    refine j_callV_vw (st := []) C dX6_not4_95 (ct_X6_next (kγ κ) E M L h0) mi_X6_next tw_982 FC6 (MAt.S h0) rfl rfl (Nat.le_of_ble_eq_true rfl) ⟨⟨rfl, rfl⟩, ⟨Nat.le_of_ble_eq_true rfl, Nat.le_of_ble_eq_true rfl⟩, ⟨Nat.zero_le _, Nat.zero_le _⟩⟩ (fun r95 => ?_)
    refine j_aload_n C dX6_not4_98 rfl rfl ?_
    refine j_callV_iw (st := []) C dX6_not4_99 (ct_X6_added4 (kγ κ) E r95.1 r95.2 h0) mi_X6_added4 tw_1069 FC6 (MAt.S h0) rfl rfl (Nat.le_of_ble_eq_true rfl) ⟨⟨rfl, rfl⟩, ⟨Nat.le_of_ble_eq_true rfl, Nat.le_of_ble_eq_true rfl⟩, ⟨Nat.zero_le _, Nat.zero_le _⟩⟩ (fun r99 => ?_)
    refine j_istore_n (i := 3) (lv' := [some (.ref (E.2.1 0)), some (.int x1), some (.int s0), some (.int r99.1)]) C dX6_not4_102 rfl (hn 3 (by decide)) rfl ?_
    refine j_iload_n C dX6_not4_103 rfl rfl ?_
    refine j_pc (pc2 := 104) rfl ?_
    refine j_if_eq (tgt := 115) C dX6_not4_104 (by decide) ?_ ?_
    · refine j_iload_n C dX6_not4_115 rfl rfl ?_
      refine j_iload_n C dX6_not4_116 rfl rfl ?_
      refine j_icmp_ne (tgt := 124) C dX6_not4_117 (by decide) ?_ ?_
      · refine j_iconst (v := (0 : Int32)) C dX6_not4_124 rfl ?_
        exact j_iretw C dX6_not4_125
      · refine j_mask [false, false, false, false] (lv' := [none, none, none, none]) rfl ?_
        exact k120 r99.2.1 r99.2.2
    · refine j_iload_n C dX6_not4_107 rfl rfl ?_
      refine j_iload_n C dX6_not4_108 rfl rfl ?_
      refine j_icmp_ge (tgt := 124) C dX6_not4_109 (by decide) ?_ ?_
      · refine j_iconst (v := (0 : Int32)) C dX6_not4_124 rfl ?_
        exact j_iretw C dX6_not4_125
      · refine j_goto (tgt := 120) C dX6_not4_112 (by decide) ?_
        refine j_mask [false, false, false, false] (lv' := [none, none, none, none]) rfl ?_
        exact k120 r99.2.1 r99.2.2
  have k77 : ∀ (M : Mi) (L : Ml) (x1 : Int32), JF κ (PQ κ (Q_iw (kγ κ) E) 0 0) 77 [some (.ref (E.2.1 0)), some (.int x1), none, none] [] E M L 0 0 (F_X6_not4_k77  M L x1) := by
    intro M L x1
    unfold F_X6_not4_k77
    refine j_aload_n C dX6_not4_77 rfl rfl ?_
    refine j_getL (j := 24) C dX6_not4_78 FC6 (MAt.S h0) (by decide) rfl tw_827 ?_
    refine j_ldc2 (v := (60 : Int64)) C dX6_not4_81 tw_1068 ?_
    refine j_lcmp C dX6_not4_84 ?_
    refine j_if_ne (tgt := 92) C dX6_not4_85 (by decide) ?_ ?_
    · refine j_iconst (v := (0 : Int32)) C dX6_not4_92 rfl ?_
      exact k93 M L x1 ((0 : Int32))
    · refine j_iconst (v := (1 : Int32)) C dX6_not4_88 rfl ?_
      refine j_goto (tgt := 93) C dX6_not4_89 (by decide) ?_
      exact k93 M L x1 ((1 : Int32))
  unfold F_X6_not4
  refine j_aload_n C dX6_not4_0 rfl rfl ?_
  refine j_bipush (v := (110 : Int32)) C dX6_not4_1 (by decide) ?_
  refine j_bipush (v := (111 : Int32)) C dX6_not4_3 (by decide) ?_
  refine j_bipush (v := (116 : Int32)) C dX6_not4_5 (by decide) ?_
  refine j_iconst (v := (0 : Int32)) C dX6_not4_7 rfl ?_
  refine j_iconst (v := (0 : Int32)) C dX6_not4_8 rfl ?_
  refine j_iconst (v := (0 : Int32)) C dX6_not4_9 rfl ?_
  refine j_pc (pc2 := 10) rfl ?_
  refine j_iconst (v := (0 : Int32)) C dX6_not4_10 rfl ?_
  refine j_iconst (v := (0 : Int32)) C dX6_not4_11 rfl ?_
  refine j_callV_i (st := []) C dX6_not4_12 (ct_X6_isWord (kγ κ) E M L (110 : Int32) (111 : Int32) (116 : Int32) (0 : Int32) (0 : Int32) (0 : Int32) (0 : Int32) (0 : Int32) h0) mi_X6_isWord tw_995 FC6 (MAt.S h0) rfl rfl (Nat.le_of_ble_eq_true rfl) ⟨⟨rfl, rfl⟩, ⟨Nat.le_of_ble_eq_true rfl, Nat.le_of_ble_eq_true rfl⟩, ⟨Nat.zero_le _, Nat.zero_le _⟩⟩ (fun v12 => ?_)
  refine j_if_eq (tgt := 52) C dX6_not4_15 (by decide) ?_ ?_
  · refine j_aload_n C dX6_not4_52 rfl rfl ?_
    refine j_callV_iw (st := []) C dX6_not4_53 (ct_X6_added4 (kγ κ) E M L h0) mi_X6_added4 tw_1069 FC6 (MAt.S h0) rfl rfl (Nat.le_of_ble_eq_true rfl) ⟨⟨rfl, rfl⟩, ⟨Nat.le_of_ble_eq_true rfl, Nat.le_of_ble_eq_true rfl⟩, ⟨Nat.zero_le _, Nat.zero_le _⟩⟩ (fun r53 => ?_)
    refine j_istore_n (i := 1) (lv' := [some (.ref (E.2.1 0)), some (.int r53.1), none, none]) C dX6_not4_56 rfl (hn 1 (by decide)) rfl ?_
    refine j_aload_n C dX6_not4_57 rfl rfl ?_
    refine j_bipush (v := (60 : Int32)) C dX6_not4_58 (by decide) ?_
    refine j_callV_i (st := []) C dX6_not4_60 (ct_X6_isSign (kγ κ) E r53.2.1 r53.2.2 (60 : Int32) h0) mi_X6_isSign tw_1059 FC6 (MAt.S h0) rfl rfl (Nat.le_of_ble_eq_true rfl) ⟨⟨rfl, rfl⟩, ⟨Nat.le_of_ble_eq_true rfl, Nat.le_of_ble_eq_true rfl⟩, ⟨Nat.zero_le _, Nat.zero_le _⟩⟩ (fun v60 => ?_)
    refine j_if_ne (tgt := 77) C dX6_not4_63 (by decide) ?_ ?_
    · exact k77 r53.2.1 r53.2.2 r53.1
    · refine j_aload_n C dX6_not4_66 rfl rfl ?_
      refine j_bipush (v := (61 : Int32)) C dX6_not4_67 (by decide) ?_
      refine j_callV_i (st := []) C dX6_not4_69 (ct_X6_isSign (kγ κ) E r53.2.1 r53.2.2 (61 : Int32) h0) mi_X6_isSign tw_1059 FC6 (MAt.S h0) rfl rfl (Nat.le_of_ble_eq_true rfl) ⟨⟨rfl, rfl⟩, ⟨Nat.le_of_ble_eq_true rfl, Nat.le_of_ble_eq_true rfl⟩, ⟨Nat.zero_le _, Nat.zero_le _⟩⟩ (fun v69 => ?_)
      refine j_if_ne (tgt := 77) C dX6_not4_72 (by decide) ?_ ?_
      · exact k77 r53.2.1 r53.2.2 r53.1
      · refine j_iload_n C dX6_not4_75 rfl rfl ?_
        exact j_iretw C dX6_not4_76
  · refine j_aload_n C dX6_not4_18 rfl rfl ?_
    refine j_callV_iw (st := []) C dX6_not4_19 (ct_X6_opens (kγ κ) E M L h0) mi_X6_opens tw_1023 FC6 (MAt.S h0) rfl rfl (Nat.le_of_ble_eq_true rfl) ⟨⟨rfl, rfl⟩, ⟨Nat.le_of_ble_eq_true rfl, Nat.le_of_ble_eq_true rfl⟩, ⟨Nat.zero_le _, Nat.zero_le _⟩⟩ (fun r19 => ?_)
    refine j_if_ne (tgt := 27) C dX6_not4_22 (by decide) ?_ ?_
    · refine j_aload_n C dX6_not4_27 rfl rfl ?_
      refine j_callV_iw (st := []) C dX6_not4_28 (ct_X6_not5 (kγ κ) E r19.2.1 r19.2.2 h0) mi_X6_not5 tw_1043 FC6 (MAt.S h0) rfl rfl (Nat.le_of_ble_eq_true rfl) ⟨⟨rfl, rfl⟩, ⟨Nat.le_of_ble_eq_true rfl, Nat.le_of_ble_eq_true rfl⟩, ⟨Nat.zero_le _, Nat.zero_le _⟩⟩ (fun r28 => ?_)
      refine j_istore_n (i := 1) (lv' := [some (.ref (E.2.1 0)), some (.int r28.1), none, none]) C dX6_not4_31 rfl (hn 1 (by decide)) rfl ?_
      refine j_aload_n C dX6_not4_32 rfl rfl ?_
      refine j_dup C dX6_not4_33 rfl ?_
      refine j_getI (j := 25) C dX6_not4_34 FC6 (MAt.S h0) (by decide) rfl tw_828 ?_
      refine j_iconst (v := (1 : Int32)) C dX6_not4_37 rfl ?_
      refine j_pc (pc2 := 38) rfl ?_
      refine j_isub C dX6_not4_38 ?_
      refine j_putI (j := 25) C dX6_not4_39 FC6 (MAt.S h0) (by decide) rfl rfl rfl rfl tw_828 ?_
      refine j_iload_n C dX6_not4_42 rfl rfl ?_
      refine j_if_ne (tgt := 50) C dX6_not4_43 (by decide) ?_ ?_
      · refine j_iconst (v := (0 : Int32)) C dX6_not4_50 rfl ?_
        exact j_iretw C dX6_not4_51
      · refine j_iconst (v := (1 : Int32)) C dX6_not4_46 rfl ?_
        refine j_goto (tgt := 51) C dX6_not4_47 (by decide) ?_
        exact j_iretw C dX6_not4_51
    · refine j_iconst (v := (0 : Int32)) C dX6_not4_25 rfl ?_
      exact j_iretw C dX6_not4_26
set_option maxRecDepth 100000 in
set_option maxHeartbeats 4000000 in
theorem ct_X6_both4 (γ : Gm) (E : Ev) (M : Mi) (L : Ml)   (h0 : MAt E) : Ct γ yX6_both4 cX6_both4 3 (some .int) ⟨14, 0, 0, 311⟩ [.ref (E.2.1 0)] E M L (Q_iw γ E) 0 0 (F_X6_both4 M L) := by
  refine ct_of (own := RX6) (lv := [some (.ref (E.2.1 0)), none, none]) (by decide +kernel) rfl rfl (Nat.le_of_ble_eq_true rfl) (fun κ C hγ hN => ?_)
  subst hγ
  have hn : ∀ i, i < 3 → i < knL κ := fun i h => by rw [hN]; exact h
  have k45 : ∀ (kf5 : Mi → Ml → Int32 → Option (Int32 × Mi × Ml)), (∀ (M : Mi) (L : Ml) (x1 : Int32), JF κ (PQ κ (Q_iw (kγ κ) E) 0 0) 5 [some (.ref (E.2.1 0)), some (.int x1), none] [] E M L 0 0 (kf5 M L x1)) → ∀ (M : Mi) (L : Ml) (s0 : Int32), JF κ (PQ κ (Q_iw (kγ κ) E) 0 0) 45 [some (.ref (E.2.1 0)), none, none] [.int s0] E M L 0 0 (F_X6_both4_k45 kf5 M L s0) := by
    intro kf5 hkf5 M L s0
    unfold F_X6_both4_k45
    refine j_istore_n (i := 1) (lv' := [some (.ref (E.2.1 0)), some (.int s0), none]) C dX6_both4_45 rfl (hn 1 (by decide)) rfl ?_
    refine j_goto (tgt := 5) C dX6_both4_46 (by decide) ?_
    exact hkf5 M L s0
  have k44 : ∀ (kf5 : Mi → Ml → Int32 → Option (Int32 × Mi × Ml)), (∀ (M : Mi) (L : Ml) (x1 : Int32), JF κ (PQ κ (Q_iw (kγ κ) E) 0 0) 5 [some (.ref (E.2.1 0)), some (.int x1), none] [] E M L 0 0 (kf5 M L x1)) → ∀ (M : Mi) (L : Ml), JF κ (PQ κ (Q_iw (kγ κ) E) 0 0) 44 [some (.ref (E.2.1 0)), none, none] [] E M L 0 0 (F_X6_both4_k44 kf5 M L) := by
    intro kf5 hkf5 M L
    unfold F_X6_both4_k44
    refine j_iconst (v := (0 : Int32)) C dX6_both4_44 rfl ?_
    exact k45 kf5 hkf5 M L ((0 : Int32))
  have k5 : ∀ (n : Nat) (M : Mi) (L : Ml) (x1 : Int32), JF κ (PQ κ (Q_iw (kγ κ) E) 0 0) 5 [some (.ref (E.2.1 0)), some (.int x1), none] [] E M L 0 0 (F_X6_both4_k5  n M L x1) := by
    intro n
    induction n with
    | zero => intros; exact jf_none
    | succ n ih =>
      intro M L x1
      unfold F_X6_both4_k5
      refine j_aload_n C dX6_both4_5 rfl rfl ?_
      refine j_bipush (v := (97 : Int32)) C dX6_both4_6 (by decide) ?_
      refine j_bipush (v := (110 : Int32)) C dX6_both4_8 (by decide) ?_
      refine j_bipush (v := (100 : Int32)) C dX6_both4_10 (by decide) ?_
      refine j_iconst (v := (0 : Int32)) C dX6_both4_12 rfl ?_
      refine j_iconst (v := (0 : Int32)) C dX6_both4_13 rfl ?_
      refine j_iconst (v := (0 : Int32)) C dX6_both4_14 rfl ?_
      refine j_pc (pc2 := 15) rfl ?_
      refine j_iconst (v := (0 : Int32)) C dX6_both4_15 rfl ?_
      refine j_iconst (v := (0 : Int32)) C dX6_both4_16 rfl ?_
      refine j_callV_i (st := []) C dX6_both4_17 (ct_X6_isWord (kγ κ) E M L (97 : Int32) (110 : Int32) (100 : Int32) (0 : Int32) (0 : Int32) (0 : Int32) (0 : Int32) (0 : Int32) h0) mi_X6_isWord tw_995 FC6 (MAt.S h0) rfl rfl (Nat.le_of_ble_eq_true rfl) ⟨⟨rfl, rfl⟩, ⟨Nat.le_of_ble_eq_true rfl, Nat.le_of_ble_eq_true rfl⟩, ⟨Nat.zero_le _, Nat.zero_le _⟩⟩ (fun v17 => ?_)
      refine j_if_eq (tgt := 49) C dX6_both4_20 (by decide) ?_ ?_
      · refine j_iload_n C dX6_both4_49 rfl rfl ?_
        exact j_iretw C dX6_both4_50
      · refine j_aload_n C dX6_both4_23 rfl rfl ?_
        refine j_callV_vw (st := []) C dX6_both4_24 (ct_X6_next (kγ κ) E M L h0) mi_X6_next tw_982 FC6 (MAt.S h0) rfl rfl (Nat.le_of_ble_eq_true rfl) ⟨⟨rfl, rfl⟩, ⟨Nat.le_of_ble_eq_true rfl, Nat.le_of_ble_eq_true rfl⟩, ⟨Nat.zero_le _, Nat.zero_le _⟩⟩ (fun r24 => ?_)
        refine j_aload_n C dX6_both4_27 rfl rfl ?_
        refine j_callV_iw (st := []) C dX6_both4_28 (ct_X6_not4 (kγ κ) E r24.1 r24.2 h0) mi_X6_not4 tw_1039 FC6 (MAt.S h0) rfl rfl (Nat.le_of_ble_eq_true rfl) ⟨⟨rfl, rfl⟩, ⟨Nat.le_of_ble_eq_true rfl, Nat.le_of_ble_eq_true rfl⟩, ⟨Nat.zero_le _, Nat.zero_le _⟩⟩ (fun r28 => ?_)
        refine j_istore_n (i := 2) (lv' := [some (.ref (E.2.1 0)), some (.int x1), some (.int r28.1)]) C dX6_both4_31 rfl (hn 2 (by decide)) rfl ?_
        refine j_iload_n C dX6_both4_32 rfl rfl ?_
        refine j_if_eq (tgt := 44) C dX6_both4_33 (by decide) ?_ ?_
        · refine j_mask [true, false, false] (lv' := [some (.ref (E.2.1 0)), none, none]) rfl ?_
          exact k44 (F_X6_both4_k5  n) ih r28.2.1 r28.2.2
        · refine j_iload_n C dX6_both4_36 rfl rfl ?_
          refine j_if_eq (tgt := 44) C dX6_both4_37 (by decide) ?_ ?_
          · refine j_mask [true, false, false] (lv' := [some (.ref (E.2.1 0)), none, none]) rfl ?_
            exact k44 (F_X6_both4_k5  n) ih r28.2.1 r28.2.2
          · refine j_iconst (v := (1 : Int32)) C dX6_both4_40 rfl ?_
            refine j_goto (tgt := 45) C dX6_both4_41 (by decide) ?_
            refine j_mask [true, false, false] (lv' := [some (.ref (E.2.1 0)), none, none]) rfl ?_
            exact k45 (F_X6_both4_k5  n) ih r28.2.1 r28.2.2 ((1 : Int32))
  unfold F_X6_both4
  refine j_aload_n C dX6_both4_0 rfl rfl ?_
  refine j_callV_iw (st := []) C dX6_both4_1 (ct_X6_not4 (kγ κ) E M L h0) mi_X6_not4 tw_1039 FC6 (MAt.S h0) rfl rfl (Nat.le_of_ble_eq_true rfl) ⟨⟨rfl, rfl⟩, ⟨Nat.le_of_ble_eq_true rfl, Nat.le_of_ble_eq_true rfl⟩, ⟨Nat.zero_le _, Nat.zero_le _⟩⟩ (fun r1 => ?_)
  refine j_istore_n (i := 1) (lv' := [some (.ref (E.2.1 0)), some (.int r1.1), none]) C dX6_both4_4 rfl (hn 1 (by decide)) rfl ?_
  exact k5 FU r1.2.1 r1.2.2 r1.1
set_option maxRecDepth 100000 in
set_option maxHeartbeats 4000000 in
theorem ct_X6_either4 (γ : Gm) (E : Ev) (M : Mi) (L : Ml)   (h0 : MAt E) : Ct γ yX6_either4 cX6_either4 3 (some .int) ⟨15, 0, 0, 333⟩ [.ref (E.2.1 0)] E M L (Q_iw γ E) 0 0 (F_X6_either4 M L) := by
  refine ct_of (own := RX6) (lv := [some (.ref (E.2.1 0)), none, none]) (by decide +kernel) rfl rfl (Nat.le_of_ble_eq_true rfl) (fun κ C hγ hN => ?_)
  subst hγ
  have hn : ∀ i, i < 3 → i < knL κ := fun i h => by rw [hN]; exact h
  have k44 : ∀ (kf5 : Mi → Ml → Int32 → Option (Int32 × Mi × Ml)), (∀ (M : Mi) (L : Ml) (x1 : Int32), JF κ (PQ κ (Q_iw (kγ κ) E) 0 0) 5 [some (.ref (E.2.1 0)), some (.int x1), none] [] E M L 0 0 (kf5 M L x1)) → ∀ (M : Mi) (L : Ml) (s0 : Int32), JF κ (PQ κ (Q_iw (kγ κ) E) 0 0) 44 [some (.ref (E.2.1 0)), none, none] [.int s0] E M L 0 0 (F_X6_either4_k44 kf5 M L s0) := by
    intro kf5 hkf5 M L s0
    unfold F_X6_either4_k44
    refine j_istore_n (i := 1) (lv' := [some (.ref (E.2.1 0)), some (.int s0), none]) C dX6_either4_44 rfl (hn 1 (by decide)) rfl ?_
    refine j_goto (tgt := 5) C dX6_either4_45 (by decide) ?_
    exact hkf5 M L s0
  have k39 : ∀ (kf5 : Mi → Ml → Int32 → Option (Int32 × Mi × Ml)), (∀ (M : Mi) (L : Ml) (x1 : Int32), JF κ (PQ κ (Q_iw (kγ κ) E) 0 0) 5 [some (.ref (E.2.1 0)), some (.int x1), none] [] E M L 0 0 (kf5 M L x1)) → ∀ (M : Mi) (L : Ml), JF κ (PQ κ (Q_iw (kγ κ) E) 0 0) 39 [some (.ref (E.2.1 0)), none, none] [] E M L 0 0 (F_X6_either4_k39 kf5 M L) := by
    intro kf5 hkf5 M L
    unfold F_X6_either4_k39
    refine j_iconst (v := (1 : Int32)) C dX6_either4_39 rfl ?_
    refine j_goto (tgt := 44) C dX6_either4_40 (by decide) ?_
    exact k44 kf5 hkf5 M L ((1 : Int32))
  have k5 : ∀ (n : Nat) (M : Mi) (L : Ml) (x1 : Int32), JF κ (PQ κ (Q_iw (kγ κ) E) 0 0) 5 [some (.ref (E.2.1 0)), some (.int x1), none] [] E M L 0 0 (F_X6_either4_k5  n M L x1) := by
    intro n
    induction n with
    | zero => intros; exact jf_none
    | succ n ih =>
      intro M L x1
      unfold F_X6_either4_k5
      refine j_aload_n C dX6_either4_5 rfl rfl ?_
      refine j_bipush (v := (111 : Int32)) C dX6_either4_6 (by decide) ?_
      refine j_bipush (v := (114 : Int32)) C dX6_either4_8 (by decide) ?_
      refine j_iconst (v := (0 : Int32)) C dX6_either4_10 rfl ?_
      refine j_iconst (v := (0 : Int32)) C dX6_either4_11 rfl ?_
      refine j_iconst (v := (0 : Int32)) C dX6_either4_12 rfl ?_
      refine j_iconst (v := (0 : Int32)) C dX6_either4_13 rfl ?_
      refine j_pc (pc2 := 14) rfl ?_
      refine j_iconst (v := (0 : Int32)) C dX6_either4_14 rfl ?_
      refine j_iconst (v := (0 : Int32)) C dX6_either4_15 rfl ?_
      refine j_callV_i (st := []) C dX6_either4_16 (ct_X6_isWord (kγ κ) E M L (111 : Int32) (114 : Int32) (0 : Int32) (0 : Int32) (0 : Int32) (0 : Int32) (0 : Int32) (0 : Int32) h0) mi_X6_isWord tw_995 FC6 (MAt.S h0) rfl rfl (Nat.le_of_ble_eq_true rfl) ⟨⟨rfl, rfl⟩, ⟨Nat.le_of_ble_eq_true rfl, Nat.le_of_ble_eq_true rfl⟩, ⟨Nat.zero_le _, Nat.zero_le _⟩⟩ (fun v16 => ?_)
      refine j_if_eq (tgt := 48) C dX6_either4_19 (by decide) ?_ ?_
      · refine j_iload_n C dX6_either4_48 rfl rfl ?_
        exact j_iretw C dX6_either4_49
      · refine j_aload_n C dX6_either4_22 rfl rfl ?_
        refine j_callV_vw (st := []) C dX6_either4_23 (ct_X6_next (kγ κ) E M L h0) mi_X6_next tw_982 FC6 (MAt.S h0) rfl rfl (Nat.le_of_ble_eq_true rfl) ⟨⟨rfl, rfl⟩, ⟨Nat.le_of_ble_eq_true rfl, Nat.le_of_ble_eq_true rfl⟩, ⟨Nat.zero_le _, Nat.zero_le _⟩⟩ (fun r23 => ?_)
        refine j_aload_n C dX6_either4_26 rfl rfl ?_
        refine j_callV_iw (st := []) C dX6_either4_27 (ct_X6_both4 (kγ κ) E r23.1 r23.2 h0) mi_X6_both4 tw_1105 FC6 (MAt.S h0) rfl rfl (Nat.le_of_ble_eq_true rfl) ⟨⟨rfl, rfl⟩, ⟨Nat.le_of_ble_eq_true rfl, Nat.le_of_ble_eq_true rfl⟩, ⟨Nat.zero_le _, Nat.zero_le _⟩⟩ (fun r27 => ?_)
        refine j_istore_n (i := 2) (lv' := [some (.ref (E.2.1 0)), some (.int x1), some (.int r27.1)]) C dX6_either4_30 rfl (hn 2 (by decide)) rfl ?_
        refine j_iload_n C dX6_either4_31 rfl rfl ?_
        refine j_if_ne (tgt := 39) C dX6_either4_32 (by decide) ?_ ?_
        · refine j_mask [true, false, false] (lv' := [some (.ref (E.2.1 0)), none, none]) rfl ?_
          exact k39 (F_X6_either4_k5  n) ih r27.2.1 r27.2.2
        · refine j_iload_n C dX6_either4_35 rfl rfl ?_
          refine j_if_eq (tgt := 43) C dX6_either4_36 (by decide) ?_ ?_
          · refine j_iconst (v := (0 : Int32)) C dX6_either4_43 rfl ?_
            refine j_mask [true, false, false] (lv' := [some (.ref (E.2.1 0)), none, none]) rfl ?_
            exact k44 (F_X6_either4_k5  n) ih r27.2.1 r27.2.2 ((0 : Int32))
          · refine j_mask [true, false, false] (lv' := [some (.ref (E.2.1 0)), none, none]) rfl ?_
            exact k39 (F_X6_either4_k5  n) ih r27.2.1 r27.2.2
  unfold F_X6_either4
  refine j_aload_n C dX6_either4_0 rfl rfl ?_
  refine j_callV_iw (st := []) C dX6_either4_1 (ct_X6_both4 (kγ κ) E M L h0) mi_X6_both4 tw_1105 FC6 (MAt.S h0) rfl rfl (Nat.le_of_ble_eq_true rfl) ⟨⟨rfl, rfl⟩, ⟨Nat.le_of_ble_eq_true rfl, Nat.le_of_ble_eq_true rfl⟩, ⟨Nat.zero_le _, Nat.zero_le _⟩⟩ (fun r1 => ?_)
  refine j_istore_n (i := 1) (lv' := [some (.ref (E.2.1 0)), some (.int r1.1), none]) C dX6_either4_4 rfl (hn 1 (by decide)) rfl ?_
  exact k5 FU r1.2.1 r1.2.2 r1.1
set_option maxRecDepth 100000 in
set_option maxHeartbeats 4000000 in
theorem ct_X6_atom3 (γ : Gm) (E : Ev) (M : Mi) (L : Ml)   (h0 : MAt E) : Ct γ yX6_atom3 cX6_atom3 2 (some .int) ⟨16, 0, 0, 355⟩ [.ref (E.2.1 0)] E M L (Q_iw γ E) 0 0 (F_X6_atom3 M L) := by
  refine ct_of (own := RX6) (lv := [some (.ref (E.2.1 0)), none]) (by decide +kernel) rfl rfl (Nat.le_of_ble_eq_true rfl) (fun κ C hγ hN => ?_)
  subst hγ
  have hn : ∀ i, i < 2 → i < knL κ := fun i h => by rw [hN]; exact h
  have k157 : ∀ (M : Mi) (L : Ml) (x1 : Int32), JF κ (PQ κ (Q_iw (kγ κ) E) 0 0) 157 [some (.ref (E.2.1 0)), some (.int x1)] [] E M L 0 0 (F_X6_atom3_k157  M L x1) := by
    intro M L x1
    unfold F_X6_atom3_k157
    refine j_aload_n C dX6_atom3_157 rfl rfl ?_
    refine j_callV_vw (st := []) C dX6_atom3_158 (ct_X6_fail (kγ κ) E M L h0) mi_X6_fail tw_1007 FC6 (MAt.S h0) rfl rfl (Nat.le_of_ble_eq_true rfl) ⟨⟨rfl, rfl⟩, ⟨Nat.le_of_ble_eq_true rfl, Nat.le_of_ble_eq_true rfl⟩, ⟨Nat.zero_le _, Nat.zero_le _⟩⟩ (fun r158 => ?_)
    refine j_iload_n C dX6_atom3_161 rfl rfl ?_
    exact j_iretw C dX6_atom3_162
  have k123 : ∀ (M : Mi) (L : Ml) (x1 : Int32), JF κ (PQ κ (Q_iw (kγ κ) E) 0 0) 123 [some (.ref (E.2.1 0)), some (.int x1)] [] E M L 0 0 (F_X6_atom3_k123  M L x1) := by
    intro M L x1
    unfold F_X6_atom3_k123
    refine j_aload_n C dX6_atom3_123 rfl rfl ?_
    refine j_getI (j := 26) C dX6_atom3_124 FC6 (MAt.S h0) (by decide) rfl tw_829 ?_
    refine j_if_ne (tgt := 157) C dX6_atom3_127 (by decide) ?_ ?_
    · exact k157 M L x1
    · refine j_aload_n C dX6_atom3_130 rfl rfl ?_
      refine j_getI (j := 22) C dX6_atom3_131 FC6 (MAt.S h0) (by decide) rfl tw_825 ?_
      refine j_iconst (v := (1 : Int32)) C dX6_atom3_134 rfl ?_
      refine j_icmp_ne (tgt := 157) C dX6_atom3_135 (by decide) ?_ ?_
      · exact k157 M L x1
      · refine j_aload_n C dX6_atom3_138 rfl rfl ?_
        refine j_callV_iw (st := []) C dX6_atom3_139 (ct_X6_name (kγ κ) E M L h0) mi_X6_name tw_1063 FC6 (MAt.S h0) rfl rfl (Nat.le_of_ble_eq_true rfl) ⟨⟨rfl, rfl⟩, ⟨Nat.le_of_ble_eq_true rfl, Nat.le_of_ble_eq_true rfl⟩, ⟨Nat.zero_le _, Nat.zero_le _⟩⟩ (fun r139 => ?_)
        refine j_istore_n (i := 1) (lv' := [some (.ref (E.2.1 0)), some (.int r139.1)]) C dX6_atom3_142 rfl (hn 1 (by decide)) rfl ?_
        refine j_aload_n C dX6_atom3_143 rfl rfl ?_
        refine j_getI (j := 26) C dX6_atom3_144 FC6 (MAt.S h0) (by decide) rfl tw_829 ?_
        refine j_if_ne (tgt := 161) C dX6_atom3_147 (by decide) ?_ ?_
        · refine j_iload_n C dX6_atom3_161 rfl rfl ?_
          exact j_iretw C dX6_atom3_162
        · refine j_aload_n C dX6_atom3_150 rfl rfl ?_
          refine j_callV_vw (st := []) C dX6_atom3_151 (ct_X6_next (kγ κ) E r139.2.1 r139.2.2 h0) mi_X6_next tw_982 FC6 (MAt.S h0) rfl rfl (Nat.le_of_ble_eq_true rfl) ⟨⟨rfl, rfl⟩, ⟨Nat.le_of_ble_eq_true rfl, Nat.le_of_ble_eq_true rfl⟩, ⟨Nat.zero_le _, Nat.zero_le _⟩⟩ (fun r151 => ?_)
          refine j_goto (tgt := 161) C dX6_atom3_154 (by decide) ?_
          refine j_iload_n C dX6_atom3_161 rfl rfl ?_
          exact j_iretw C dX6_atom3_162
  have k71 : ∀ (M : Mi) (L : Ml) (x1 : Int32), JF κ (PQ κ (Q_iw (kγ κ) E) 0 0) 71 [some (.ref (E.2.1 0)), some (.int x1)] [] E M L 0 0 (F_X6_atom3_k71  M L x1) := by
    intro M L x1
    unfold F_X6_atom3_k71
    refine j_aload_n C dX6_atom3_71 rfl rfl ?_
    refine j_dup C dX6_atom3_72 rfl ?_
    refine j_getI (j := 25) C dX6_atom3_73 FC6 (MAt.S h0) (by decide) rfl tw_828 ?_
    refine j_iconst (v := (1 : Int32)) C dX6_atom3_76 rfl ?_
    refine j_isub C dX6_atom3_77 ?_
    refine j_putI (j := 25) C dX6_atom3_78 FC6 (MAt.S h0) (by decide) rfl rfl rfl rfl tw_828 ?_
    refine j_aload_n C dX6_atom3_81 rfl rfl ?_
    refine j_pc (pc2 := 82) rfl ?_
    refine j_getI (j := 26) C dX6_atom3_82 FC6 (MAt.S h0) (by decide) rfl tw_829 ?_
    refine j_if_ne (tgt := 161) C dX6_atom3_85 (by decide) ?_ ?_
    · refine j_iload_n C dX6_atom3_161 rfl rfl ?_
      exact j_iretw C dX6_atom3_162
    · refine j_aload_n C dX6_atom3_88 rfl rfl ?_
      refine j_callV_vw (st := []) C dX6_atom3_89 (ct_X6_next (kγ κ) E (up2 M 0 25 ((M 0 25) - (1 : Int32))) L h0) mi_X6_next tw_982 FC6 (MAt.S h0) rfl rfl (Nat.le_of_ble_eq_true rfl) ⟨⟨rfl, rfl⟩, ⟨Nat.le_of_ble_eq_true rfl, Nat.le_of_ble_eq_true rfl⟩, ⟨Nat.zero_le _, Nat.zero_le _⟩⟩ (fun r89 => ?_)
      refine j_goto (tgt := 161) C dX6_atom3_92 (by decide) ?_
      refine j_iload_n C dX6_atom3_161 rfl rfl ?_
      exact j_iretw C dX6_atom3_162
  unfold F_X6_atom3
  refine j_iconst (v := (0 : Int32)) C dX6_atom3_0 rfl ?_
  refine j_istore_n (i := 1) (lv' := [some (.ref (E.2.1 0)), some (.int (0 : Int32))]) C dX6_atom3_1 rfl (hn 1 (by decide)) rfl ?_
  refine j_aload_n C dX6_atom3_2 rfl rfl ?_
  refine j_bipush (v := (45 : Int32)) C dX6_atom3_3 (by decide) ?_
  refine j_callV_i (st := []) C dX6_atom3_5 (ct_X6_isSign (kγ κ) E M L (45 : Int32) h0) mi_X6_isSign tw_1059 FC6 (MAt.S h0) rfl rfl (Nat.le_of_ble_eq_true rfl) ⟨⟨rfl, rfl⟩, ⟨Nat.le_of_ble_eq_true rfl, Nat.le_of_ble_eq_true rfl⟩, ⟨Nat.zero_le _, Nat.zero_le _⟩⟩ (fun v5 => ?_)
  refine j_if_eq (tgt := 37) C dX6_atom3_8 (by decide) ?_ ?_
  · refine j_aload_n C dX6_atom3_37 rfl rfl ?_
    refine j_bipush (v := (40 : Int32)) C dX6_atom3_38 (by decide) ?_
    refine j_callV_i (st := []) C dX6_atom3_40 (ct_X6_isSign (kγ κ) E M L (40 : Int32) h0) mi_X6_isSign tw_1059 FC6 (MAt.S h0) rfl rfl (Nat.le_of_ble_eq_true rfl) ⟨⟨rfl, rfl⟩, ⟨Nat.le_of_ble_eq_true rfl, Nat.le_of_ble_eq_true rfl⟩, ⟨Nat.zero_le _, Nat.zero_le _⟩⟩ (fun v40 => ?_)
    refine j_if_eq (tgt := 95) C dX6_atom3_43 (by decide) ?_ ?_
    · refine j_aload_n C dX6_atom3_95 rfl rfl ?_
      refine j_getI (j := 26) C dX6_atom3_96 FC6 (MAt.S h0) (by decide) rfl tw_829 ?_
      refine j_if_ne (tgt := 123) C dX6_atom3_99 (by decide) ?_ ?_
      · exact k123 M L ((0 : Int32))
      · refine j_aload_n C dX6_atom3_102 rfl rfl ?_
        refine j_getI (j := 22) C dX6_atom3_103 FC6 (MAt.S h0) (by decide) rfl tw_825 ?_
        refine j_iconst (v := (2 : Int32)) C dX6_atom3_106 rfl ?_
        refine j_icmp_ne (tgt := 123) C dX6_atom3_107 (by decide) ?_ ?_
        · exact k123 M L ((0 : Int32))
        · refine j_aload_n C dX6_atom3_110 rfl rfl ?_
          refine j_getL (j := 24) C dX6_atom3_111 FC6 (MAt.S h0) (by decide) rfl tw_827 ?_
          refine j_l2i C dX6_atom3_114 ?_
          refine j_istore_n (i := 1) (lv' := [some (.ref (E.2.1 0)), some (.int (Int64.toInt32 (L 0 24)))]) C dX6_atom3_115 rfl (hn 1 (by decide)) rfl ?_
          refine j_aload_n C dX6_atom3_116 rfl rfl ?_
          refine j_callV_vw (st := []) C dX6_atom3_117 (ct_X6_next (kγ κ) E M L h0) mi_X6_next tw_982 FC6 (MAt.S h0) rfl rfl (Nat.le_of_ble_eq_true rfl) ⟨⟨rfl, rfl⟩, ⟨Nat.le_of_ble_eq_true rfl, Nat.le_of_ble_eq_true rfl⟩, ⟨Nat.zero_le _, Nat.zero_le _⟩⟩ (fun r117 => ?_)
          refine j_goto (tgt := 161) C dX6_atom3_120 (by decide) ?_
          refine j_iload_n C dX6_atom3_161 rfl rfl ?_
          exact j_iretw C dX6_atom3_162
    · refine j_aload_n C dX6_atom3_46 rfl rfl ?_
      refine j_callV_iw (st := []) C dX6_atom3_47 (ct_X6_opens (kγ κ) E M L h0) mi_X6_opens tw_1023 FC6 (MAt.S h0) rfl rfl (Nat.le_of_ble_eq_true rfl) ⟨⟨rfl, rfl⟩, ⟨Nat.le_of_ble_eq_true rfl, Nat.le_of_ble_eq_true rfl⟩, ⟨Nat.zero_le _, Nat.zero_le _⟩⟩ (fun r47 => ?_)
      refine j_if_eq (tgt := 161) C dX6_atom3_50 (by decide) ?_ ?_
      · refine j_iload_n C dX6_atom3_161 rfl rfl ?_
        exact j_iretw C dX6_atom3_162
      · refine j_aload_n C dX6_atom3_53 rfl rfl ?_
        refine j_callV_iw (st := []) C dX6_atom3_54 (ct_X6_either4 (kγ κ) E r47.2.1 r47.2.2 h0) mi_X6_either4 tw_1101 FC6 (MAt.S h0) rfl rfl (Nat.le_of_ble_eq_true rfl) ⟨⟨rfl, rfl⟩, ⟨Nat.le_of_ble_eq_true rfl, Nat.le_of_ble_eq_true rfl⟩, ⟨Nat.zero_le _, Nat.zero_le _⟩⟩ (fun r54 => ?_)
        refine j_istore_n (i := 1) (lv' := [some (.ref (E.2.1 0)), some (.int r54.1)]) C dX6_atom3_57 rfl (hn 1 (by decide)) rfl ?_
        refine j_aload_n C dX6_atom3_58 rfl rfl ?_
        refine j_bipush (v := (41 : Int32)) C dX6_atom3_59 (by decide) ?_
        refine j_callV_i (st := []) C dX6_atom3_61 (ct_X6_isSign (kγ κ) E r54.2.1 r54.2.2 (41 : Int32) h0) mi_X6_isSign tw_1059 FC6 (MAt.S h0) rfl rfl (Nat.le_of_ble_eq_true rfl) ⟨⟨rfl, rfl⟩, ⟨Nat.le_of_ble_eq_true rfl, Nat.le_of_ble_eq_true rfl⟩, ⟨Nat.zero_le _, Nat.zero_le _⟩⟩ (fun v61 => ?_)
        refine j_if_ne (tgt := 71) C dX6_atom3_64 (by decide) ?_ ?_
        · exact k71 r54.2.1 r54.2.2 r54.1
        · refine j_aload_n C dX6_atom3_67 rfl rfl ?_
          refine j_callV_vw (st := []) C dX6_atom3_68 (ct_X6_fail (kγ κ) E r54.2.1 r54.2.2 h0) mi_X6_fail tw_1007 FC6 (MAt.S h0) rfl rfl (Nat.le_of_ble_eq_true rfl) ⟨⟨rfl, rfl⟩, ⟨Nat.le_of_ble_eq_true rfl, Nat.le_of_ble_eq_true rfl⟩, ⟨Nat.zero_le _, Nat.zero_le _⟩⟩ (fun r68 => ?_)
          exact k71 r68.1 r68.2 r54.1
  · refine j_aload_n C dX6_atom3_11 rfl rfl ?_
    refine j_callV_iw (st := []) C dX6_atom3_12 (ct_X6_opens (kγ κ) E M L h0) mi_X6_opens tw_1023 FC6 (MAt.S h0) rfl rfl (Nat.le_of_ble_eq_true rfl) ⟨⟨rfl, rfl⟩, ⟨Nat.le_of_ble_eq_true rfl, Nat.le_of_ble_eq_true rfl⟩, ⟨Nat.zero_le _, Nat.zero_le _⟩⟩ (fun r12 => ?_)
    refine j_if_eq (tgt := 161) C dX6_atom3_15 (by decide) ?_ ?_
    · refine j_iload_n C dX6_atom3_161 rfl rfl ?_
      exact j_iretw C dX6_atom3_162
    · refine j_aload_n C dX6_atom3_18 rfl rfl ?_
      refine j_callV_iw (st := []) C dX6_atom3_19 (ct_X6_atom4 (kγ κ) E r12.2.1 r12.2.2 h0) mi_X6_atom4 tw_1077 FC6 (MAt.S h0) rfl rfl (Nat.le_of_ble_eq_true rfl) ⟨⟨rfl, rfl⟩, ⟨Nat.le_of_ble_eq_true rfl, Nat.le_of_ble_eq_true rfl⟩, ⟨Nat.zero_le _, Nat.zero_le _⟩⟩ (fun r19 => ?_)
      refine j_ineg C dX6_atom3_22 ?_
      refine j_istore_n (i := 1) (lv' := [some (.ref (E.2.1 0)), some (.int (-r19.1))]) C dX6_atom3_23 rfl (hn 1 (by decide)) rfl ?_
      refine j_aload_n C dX6_atom3_24 rfl rfl ?_
      refine j_dup C dX6_atom3_25 rfl ?_
      refine j_getI (j := 25) C dX6_atom3_26 FC6 (MAt.S h0) (by decide) rfl tw_828 ?_
      refine j_pc (pc2 := 29) rfl ?_
      refine j_iconst (v := (1 : Int32)) C dX6_atom3_29 rfl ?_
      refine j_isub C dX6_atom3_30 ?_
      refine j_putI (j := 25) C dX6_atom3_31 FC6 (MAt.S h0) (by decide) rfl rfl rfl rfl tw_828 ?_
      refine j_goto (tgt := 161) C dX6_atom3_34 (by decide) ?_
      refine j_iload_n C dX6_atom3_161 rfl rfl ?_
      exact j_iretw C dX6_atom3_162
set_option maxRecDepth 100000 in
set_option maxHeartbeats 4000000 in
theorem ct_X6_term3 (γ : Gm) (E : Ev) (M : Mi) (L : Ml)   (h0 : MAt E) : Ct γ yX6_term3 cX6_term3 2 (some .int) ⟨17, 0, 0, 376⟩ [.ref (E.2.1 0)] E M L (Q_iw γ E) 0 0 (F_X6_term3 M L) := by
  refine ct_of (own := RX6) (lv := [some (.ref (E.2.1 0)), none]) (by decide +kernel) rfl rfl (Nat.le_of_ble_eq_true rfl) (fun κ C hγ hN => ?_)
  subst hγ
  have hn : ∀ i, i < 2 → i < knL κ := fun i h => by rw [hN]; exact h
  have k5 : ∀ (n : Nat) (M : Mi) (L : Ml) (x1 : Int32), JF κ (PQ κ (Q_iw (kγ κ) E) 0 0) 5 [some (.ref (E.2.1 0)), some (.int x1)] [] E M L 0 0 (F_X6_term3_k5  n M L x1) := by
    intro n
    induction n with
    | zero => intros; exact jf_none
    | succ n ih =>
      intro M L x1
      unfold F_X6_term3_k5
      refine j_aload_n C dX6_term3_5 rfl rfl ?_
      refine j_bipush (v := (42 : Int32)) C dX6_term3_6 (by decide) ?_
      refine j_callV_i (st := []) C dX6_term3_8 (ct_X6_isSign (kγ κ) E M L (42 : Int32) h0) mi_X6_isSign tw_1059 FC6 (MAt.S h0) rfl rfl (Nat.le_of_ble_eq_true rfl) ⟨⟨rfl, rfl⟩, ⟨Nat.le_of_ble_eq_true rfl, Nat.le_of_ble_eq_true rfl⟩, ⟨Nat.zero_le _, Nat.zero_le _⟩⟩ (fun v8 => ?_)
      refine j_if_eq (tgt := 28) C dX6_term3_11 (by decide) ?_ ?_
      · refine j_iload_n C dX6_term3_28 rfl rfl ?_
        exact j_iretw C dX6_term3_29
      · refine j_aload_n C dX6_term3_14 rfl rfl ?_
        refine j_callV_vw (st := []) C dX6_term3_15 (ct_X6_next (kγ κ) E M L h0) mi_X6_next tw_982 FC6 (MAt.S h0) rfl rfl (Nat.le_of_ble_eq_true rfl) ⟨⟨rfl, rfl⟩, ⟨Nat.le_of_ble_eq_true rfl, Nat.le_of_ble_eq_true rfl⟩, ⟨Nat.zero_le _, Nat.zero_le _⟩⟩ (fun r15 => ?_)
        refine j_iload_n C dX6_term3_18 rfl rfl ?_
        refine j_aload_n C dX6_term3_19 rfl rfl ?_
        refine j_callV_iw (st := [.int x1]) C dX6_term3_20 (ct_X6_atom3 (kγ κ) E r15.1 r15.2 h0) mi_X6_atom3 tw_1097 FC6 (MAt.S h0) rfl rfl (Nat.le_of_ble_eq_true rfl) ⟨⟨rfl, rfl⟩, ⟨Nat.le_of_ble_eq_true rfl, Nat.le_of_ble_eq_true rfl⟩, ⟨Nat.zero_le _, Nat.zero_le _⟩⟩ (fun r20 => ?_)
        refine j_imul C dX6_term3_23 ?_
        refine j_istore_n (i := 1) (lv' := [some (.ref (E.2.1 0)), some (.int (x1 * r20.1))]) C dX6_term3_24 rfl (hn 1 (by decide)) rfl ?_
        refine j_pc (pc2 := 25) rfl ?_
        refine j_goto (tgt := 5) C dX6_term3_25 (by decide) ?_
        exact ih r20.2.1 r20.2.2 ((x1 * r20.1))
  unfold F_X6_term3
  refine j_aload_n C dX6_term3_0 rfl rfl ?_
  refine j_callV_iw (st := []) C dX6_term3_1 (ct_X6_atom3 (kγ κ) E M L h0) mi_X6_atom3 tw_1097 FC6 (MAt.S h0) rfl rfl (Nat.le_of_ble_eq_true rfl) ⟨⟨rfl, rfl⟩, ⟨Nat.le_of_ble_eq_true rfl, Nat.le_of_ble_eq_true rfl⟩, ⟨Nat.zero_le _, Nat.zero_le _⟩⟩ (fun r1 => ?_)
  refine j_istore_n (i := 1) (lv' := [some (.ref (E.2.1 0)), some (.int r1.1)]) C dX6_term3_4 rfl (hn 1 (by decide)) rfl ?_
  exact k5 FU r1.2.1 r1.2.2 r1.1
set_option maxRecDepth 100000 in
set_option maxHeartbeats 4000000 in
theorem ct_X6_added3 (γ : Gm) (E : Ev) (M : Mi) (L : Ml)   (h0 : MAt E) : Ct γ yX6_added3 cX6_added3 4 (some .int) ⟨18, 0, 0, 397⟩ [.ref (E.2.1 0)] E M L (Q_iw γ E) 0 0 (F_X6_added3 M L) := by
  refine ct_of (own := RX6) (lv := [some (.ref (E.2.1 0)), none, none, none]) (by decide +kernel) rfl rfl (Nat.le_of_ble_eq_true rfl) (fun κ C hγ hN => ?_)
  subst hγ
  have hn : ∀ i, i < 4 → i < knL κ := fun i h => by rw [hN]; exact h
  have k62 : ∀ (kf5 : Mi → Ml → Int32 → Option (Int32 × Mi × Ml)), (∀ (M : Mi) (L : Ml) (x1 : Int32), JF κ (PQ κ (Q_iw (kγ κ) E) 0 0) 5 [some (.ref (E.2.1 0)), some (.int x1), none, none] [] E M L 0 0 (kf5 M L x1)) → ∀ (M : Mi) (L : Ml) (s0 : Int32), JF κ (PQ κ (Q_iw (kγ κ) E) 0 0) 62 [some (.ref (E.2.1 0)), none, none, none] [.int s0] E M L 0 0 (F_X6_added3_k62 kf5 M L s0) := by
    intro kf5 hkf5 M L s0
    unfold F_X6_added3_k62
    refine j_istore_n (i := 1) (lv' := [some (.ref (E.2.1 0)), some (.int s0), none, none]) C dX6_added3_62 rfl (hn 1 (by decide)) rfl ?_
    refine j_goto (tgt := 5) C dX6_added3_63 (by decide) ?_
    exact hkf5 M L s0
  have k39 : ∀ (kf5 : Mi → Ml → Int32 → Option (Int32 × Mi × Ml)), (∀ (M : Mi) (L : Ml) (x1 : Int32), JF κ (PQ κ (Q_iw (kγ κ) E) 0 0) 5 [some (.ref (E.2.1 0)), some (.int x1), none, none] [] E M L 0 0 (kf5 M L x1)) → ∀ (M : Mi) (L : Ml) (x1 : Int32) (s0 : Int32), JF κ (PQ κ (Q_iw (kγ κ) E) 0 0) 39 [some (.ref (E.2.1 0)), some (.int x1), none, none] [.int s0] E M L 0 0 (F_X6_added3_k39 kf5 M L x1 s0) := by
    intro kf5 hkf5 M L x1 s0
    unfold F_X6_added3_k39
    refine j_istore_n (i := 2) (lv' := [some (.ref (E.2.1 0)), some (.int x1), some (.int s0), none]) C dX6_added3_39 rfl (hn 2 (by decide)) rfl ?_
    refine j_aload_n C dX6_added3_40 rfl rfl ?_
    refine j_callV_vw (st := []) C dX6_added3_41 (ct_X6_next (kγ κ) E M L h0) mi_X6_next tw_982 FC6 (MAt.S h0) rfl rfl (Nat.le_of_ble_eq_true rfl) ⟨⟨rfl, rfl⟩, ⟨Nat.le_of_ble_eq_true rfl, Nat.le_of_ble_eq_true rfl⟩, ⟨Nat.zero_le _, Nat.zero_le _⟩⟩ (fun r41 => ?_)
    refine j_aload_n C dX6_added3_44 rfl rfl ?_
    refine j_callV_iw (st := []) C dX6_added3_45 (ct_X6_term3 (kγ κ) E r41.1 r41.2 h0) mi_X6_term3 tw_1093 FC6 (MAt.S h0) rfl rfl (Nat.le_of_ble_eq_true rfl) ⟨⟨rfl, rfl⟩, ⟨Nat.le_of_ble_eq_true rfl, Nat.le_of_ble_eq_true rfl⟩, ⟨Nat.zero_le _, Nat.zero_le _⟩⟩ (fun r45 => ?_)
    refine j_istore_n (i := 3) (lv' := [some (.ref (E.2.1 0)), some (.int x1), some (.int s0), some (.int r45.1)]) C dX6_added3_48 rfl (hn 3 (by decide)) rfl ?_
    refine j_iload_n C dX6_added3_49 rfl rfl ?_
    refine j_pc (pc2 := 50) rfl ?_
    refine j_if_eq (tgt := 59) C dX6_added3_50 (by decide) ?_ ?_
    · refine j_iload_n C dX6_added3_59 rfl rfl ?_
      refine j_iload_n C dX6_added3_60 rfl rfl ?_
      refine j_isub C dX6_added3_61 ?_
      refine j_mask [true, false, false, false] (lv' := [some (.ref (E.2.1 0)), none, none, none]) rfl ?_
      exact k62 kf5 hkf5 r45.2.1 r45.2.2 ((x1 - r45.1))
    · refine j_iload_n C dX6_added3_53 rfl rfl ?_
      refine j_iload_n C dX6_added3_54 rfl rfl ?_
      refine j_iadd C dX6_added3_55 ?_
      refine j_goto (tgt := 62) C dX6_added3_56 (by decide) ?_
      refine j_mask [true, false, false, false] (lv' := [some (.ref (E.2.1 0)), none, none, none]) rfl ?_
      exact k62 kf5 hkf5 r45.2.1 r45.2.2 ((x1 + r45.1))
  have k23 : ∀ (kf5 : Mi → Ml → Int32 → Option (Int32 × Mi × Ml)), (∀ (M : Mi) (L : Ml) (x1 : Int32), JF κ (PQ κ (Q_iw (kγ κ) E) 0 0) 5 [some (.ref (E.2.1 0)), some (.int x1), none, none] [] E M L 0 0 (kf5 M L x1)) → ∀ (M : Mi) (L : Ml) (x1 : Int32), JF κ (PQ κ (Q_iw (kγ κ) E) 0 0) 23 [some (.ref (E.2.1 0)), some (.int x1), none, none] [] E M L 0 0 (F_X6_added3_k23 kf5 M L x1) := by
    intro kf5 hkf5 M L x1
    unfold F_X6_added3_k23
    refine j_aload_n C dX6_added3_23 rfl rfl ?_
    refine j_getL (j := 24) C dX6_added3_24 FC6 (MAt.S h0) (by decide) rfl tw_827 ?_
    refine j_ldc2 (v := (43 : Int64)) C dX6_added3_27 tw_1067 ?_
    refine j_lcmp C dX6_added3_30 ?_
    refine j_if_ne (tgt := 38) C dX6_added3_31 (by decide) ?_ ?_
    · refine j_iconst (v := (0 : Int32)) C dX6_added3_38 rfl ?_
      exact k39 kf5 hkf5 M L x1 ((0 : Int32))
    · refine j_iconst (v := (1 : Int32)) C dX6_added3_34 rfl ?_
      refine j_goto (tgt := 39) C dX6_added3_35 (by decide) ?_
      exact k39 kf5 hkf5 M L x1 ((1 : Int32))
  have k5 : ∀ (n : Nat) (M : Mi) (L : Ml) (x1 : Int32), JF κ (PQ κ (Q_iw (kγ κ) E) 0 0) 5 [some (.ref (E.2.1 0)), some (.int x1), none, none] [] E M L 0 0 (F_X6_added3_k5  n M L x1) := by
    intro n
    induction n with
    | zero => intros; exact jf_none
    | succ n ih =>
      intro M L x1
      unfold F_X6_added3_k5
      refine j_aload_n C dX6_added3_5 rfl rfl ?_
      refine j_bipush (v := (43 : Int32)) C dX6_added3_6 (by decide) ?_
      refine j_callV_i (st := []) C dX6_added3_8 (ct_X6_isSign (kγ κ) E M L (43 : Int32) h0) mi_X6_isSign tw_1059 FC6 (MAt.S h0) rfl rfl (Nat.le_of_ble_eq_true rfl) ⟨⟨rfl, rfl⟩, ⟨Nat.le_of_ble_eq_true rfl, Nat.le_of_ble_eq_true rfl⟩, ⟨Nat.zero_le _, Nat.zero_le _⟩⟩ (fun v8 => ?_)
      refine j_if_ne (tgt := 23) C dX6_added3_11 (by decide) ?_ ?_
      · exact k23 (F_X6_added3_k5  n) ih M L x1
      · refine j_aload_n C dX6_added3_14 rfl rfl ?_
        refine j_bipush (v := (45 : Int32)) C dX6_added3_15 (by decide) ?_
        refine j_callV_i (st := []) C dX6_added3_17 (ct_X6_isSign (kγ κ) E M L (45 : Int32) h0) mi_X6_isSign tw_1059 FC6 (MAt.S h0) rfl rfl (Nat.le_of_ble_eq_true rfl) ⟨⟨rfl, rfl⟩, ⟨Nat.le_of_ble_eq_true rfl, Nat.le_of_ble_eq_true rfl⟩, ⟨Nat.zero_le _, Nat.zero_le _⟩⟩ (fun v17 => ?_)
        refine j_if_eq (tgt := 66) C dX6_added3_20 (by decide) ?_ ?_
        · refine j_iload_n C dX6_added3_66 rfl rfl ?_
          exact j_iretw C dX6_added3_67
        · exact k23 (F_X6_added3_k5  n) ih M L x1
  unfold F_X6_added3
  refine j_aload_n C dX6_added3_0 rfl rfl ?_
  refine j_callV_iw (st := []) C dX6_added3_1 (ct_X6_term3 (kγ κ) E M L h0) mi_X6_term3 tw_1093 FC6 (MAt.S h0) rfl rfl (Nat.le_of_ble_eq_true rfl) ⟨⟨rfl, rfl⟩, ⟨Nat.le_of_ble_eq_true rfl, Nat.le_of_ble_eq_true rfl⟩, ⟨Nat.zero_le _, Nat.zero_le _⟩⟩ (fun r1 => ?_)
  refine j_istore_n (i := 1) (lv' := [some (.ref (E.2.1 0)), some (.int r1.1), none, none]) C dX6_added3_4 rfl (hn 1 (by decide)) rfl ?_
  exact k5 FU r1.2.1 r1.2.2 r1.1
set_option maxRecDepth 100000 in
set_option maxHeartbeats 4000000 in
theorem ct_X6_not3 (γ : Gm) (E : Ev) (M : Mi) (L : Ml)   (h0 : MAt E) : Ct γ yX6_not3 cX6_not3 4 (some .int) ⟨19, 0, 0, 420⟩ [.ref (E.2.1 0)] E M L (Q_iw γ E) 0 0 (F_X6_not3 M L) := by
  refine ct_of (own := RX6) (lv := [some (.ref (E.2.1 0)), none, none, none]) (by decide +kernel) rfl rfl (Nat.le_of_ble_eq_true rfl) (fun κ C hγ hN => ?_)
  subst hγ
  have hn : ∀ i, i < 4 → i < knL κ := fun i h => by rw [hN]; exact h
  have k120 : ∀ (M : Mi) (L : Ml), JF κ (PQ κ (Q_iw (kγ κ) E) 0 0) 120 [none, none, none, none] [] E M L 0 0 (F_X6_not3_k120  M L) := by
    intro M L
    unfold F_X6_not3_k120
    refine j_iconst (v := (1 : Int32)) C dX6_not3_120 rfl ?_
    refine j_goto (tgt := 125) C dX6_not3_121 (by decide) ?_
    exact j_iretw C dX6_not3_125
  have k93 : ∀ (M : Mi) (L : Ml) (x1 : Int32) (s0 : Int32), JF κ (PQ κ (Q_iw (kγ κ) E) 0 0) 93 [some (.ref (E.2.1 0)), some (.int x1), none, none] [.int s0] E M L 0 0 (F_X6_not3_k93  M L x1 s0) := by
    intro M L x1 s0
    unfold F_X6_not3_k93
    refine j_istore_n (i := 2) (lv' := [some (.ref (E.2.1 0)), some (.int x1), some (.int s0), none]) C dX6_not3_93 rfl (hn 2 (by decide)) rfl ?_
    refine j_aload_n C dX6_not3_94 rfl rfl ?_
    refine j_callV_vw (st := []) C dX6_not3_95 (ct_X6_next (kγ κ) E M L h0) mi_X6_next tw_982 FC6 (MAt.S h0) rfl rfl (Nat.le_of_ble_eq_true rfl) ⟨⟨rfl, rfl⟩, ⟨Nat.le_of_ble_eq_true rfl, Nat.le_of_ble_eq_true rfl⟩, ⟨Nat.zero_le _, Nat.zero_le _⟩⟩ (fun r95 => ?_)
    refine j_aload_n C dX6_not3_98 rfl rfl ?_
    refine j_callV_iw (st := []) C dX6_not3_99 (ct_X6_added3 (kγ κ) E r95.1 r95.2 h0) mi_X6_added3 tw_1089 FC6 (MAt.S h0) rfl rfl (Nat.le_of_ble_eq_true rfl) ⟨⟨rfl, rfl⟩, ⟨Nat.le_of_ble_eq_true rfl, Nat.le_of_ble_eq_true rfl⟩, ⟨Nat.zero_le _, Nat.zero_le _⟩⟩ (fun r99 => ?_)
    refine j_istore_n (i := 3) (lv' := [some (.ref (E.2.1 0)), some (.int x1), some (.int s0), some (.int r99.1)]) C dX6_not3_102 rfl (hn 3 (by decide)) rfl ?_
    refine j_iload_n C dX6_not3_103 rfl rfl ?_
    refine j_pc (pc2 := 104) rfl ?_
    refine j_if_eq (tgt := 115) C dX6_not3_104 (by decide) ?_ ?_
    · refine j_iload_n C dX6_not3_115 rfl rfl ?_
      refine j_iload_n C dX6_not3_116 rfl rfl ?_
      refine j_icmp_ne (tgt := 124) C dX6_not3_117 (by decide) ?_ ?_
      · refine j_iconst (v := (0 : Int32)) C dX6_not3_124 rfl ?_
        exact j_iretw C dX6_not3_125
      · refine j_mask [false, false, false, false] (lv' := [none, none, none, none]) rfl ?_
        exact k120 r99.2.1 r99.2.2
    · refine j_iload_n C dX6_not3_107 rfl rfl ?_
      refine j_iload_n C dX6_not3_108 rfl rfl ?_
      refine j_icmp_ge (tgt := 124) C dX6_not3_109 (by decide) ?_ ?_
      · refine j_iconst (v := (0 : Int32)) C dX6_not3_124 rfl ?_
        exact j_iretw C dX6_not3_125
      · refine j_goto (tgt := 120) C dX6_not3_112 (by decide) ?_
        refine j_mask [false, false, false, false] (lv' := [none, none, none, none]) rfl ?_
        exact k120 r99.2.1 r99.2.2
  have k77 : ∀ (M : Mi) (L : Ml) (x1 : Int32), JF κ (PQ κ (Q_iw (kγ κ) E) 0 0) 77 [some (.ref (E.2.1 0)), some (.int x1), none, none] [] E M L 0 0 (F_X6_not3_k77  M L x1) := by
    intro M L x1
    unfold F_X6_not3_k77
    refine j_aload_n C dX6_not3_77 rfl rfl ?_
    refine j_getL (j := 24) C dX6_not3_78 FC6 (MAt.S h0) (by decide) rfl tw_827 ?_
    refine j_ldc2 (v := (60 : Int64)) C dX6_not3_81 tw_1068 ?_
    refine j_lcmp C dX6_not3_84 ?_
    refine j_if_ne (tgt := 92) C dX6_not3_85 (by decide) ?_ ?_
    · refine j_iconst (v := (0 : Int32)) C dX6_not3_92 rfl ?_
      exact k93 M L x1 ((0 : Int32))
    · refine j_iconst (v := (1 : Int32)) C dX6_not3_88 rfl ?_
      refine j_goto (tgt := 93) C dX6_not3_89 (by decide) ?_
      exact k93 M L x1 ((1 : Int32))
  unfold F_X6_not3
  refine j_aload_n C dX6_not3_0 rfl rfl ?_
  refine j_bipush (v := (110 : Int32)) C dX6_not3_1 (by decide) ?_
  refine j_bipush (v := (111 : Int32)) C dX6_not3_3 (by decide) ?_
  refine j_bipush (v := (116 : Int32)) C dX6_not3_5 (by decide) ?_
  refine j_iconst (v := (0 : Int32)) C dX6_not3_7 rfl ?_
  refine j_iconst (v := (0 : Int32)) C dX6_not3_8 rfl ?_
  refine j_iconst (v := (0 : Int32)) C dX6_not3_9 rfl ?_
  refine j_pc (pc2 := 10) rfl ?_
  refine j_iconst (v := (0 : Int32)) C dX6_not3_10 rfl ?_
  refine j_iconst (v := (0 : Int32)) C dX6_not3_11 rfl ?_
  refine j_callV_i (st := []) C dX6_not3_12 (ct_X6_isWord (kγ κ) E M L (110 : Int32) (111 : Int32) (116 : Int32) (0 : Int32) (0 : Int32) (0 : Int32) (0 : Int32) (0 : Int32) h0) mi_X6_isWord tw_995 FC6 (MAt.S h0) rfl rfl (Nat.le_of_ble_eq_true rfl) ⟨⟨rfl, rfl⟩, ⟨Nat.le_of_ble_eq_true rfl, Nat.le_of_ble_eq_true rfl⟩, ⟨Nat.zero_le _, Nat.zero_le _⟩⟩ (fun v12 => ?_)
  refine j_if_eq (tgt := 52) C dX6_not3_15 (by decide) ?_ ?_
  · refine j_aload_n C dX6_not3_52 rfl rfl ?_
    refine j_callV_iw (st := []) C dX6_not3_53 (ct_X6_added3 (kγ κ) E M L h0) mi_X6_added3 tw_1089 FC6 (MAt.S h0) rfl rfl (Nat.le_of_ble_eq_true rfl) ⟨⟨rfl, rfl⟩, ⟨Nat.le_of_ble_eq_true rfl, Nat.le_of_ble_eq_true rfl⟩, ⟨Nat.zero_le _, Nat.zero_le _⟩⟩ (fun r53 => ?_)
    refine j_istore_n (i := 1) (lv' := [some (.ref (E.2.1 0)), some (.int r53.1), none, none]) C dX6_not3_56 rfl (hn 1 (by decide)) rfl ?_
    refine j_aload_n C dX6_not3_57 rfl rfl ?_
    refine j_bipush (v := (60 : Int32)) C dX6_not3_58 (by decide) ?_
    refine j_callV_i (st := []) C dX6_not3_60 (ct_X6_isSign (kγ κ) E r53.2.1 r53.2.2 (60 : Int32) h0) mi_X6_isSign tw_1059 FC6 (MAt.S h0) rfl rfl (Nat.le_of_ble_eq_true rfl) ⟨⟨rfl, rfl⟩, ⟨Nat.le_of_ble_eq_true rfl, Nat.le_of_ble_eq_true rfl⟩, ⟨Nat.zero_le _, Nat.zero_le _⟩⟩ (fun v60 => ?_)
    refine j_if_ne (tgt := 77) C dX6_not3_63 (by decide) ?_ ?_
    · exact k77 r53.2.1 r53.2.2 r53.1
    · refine j_aload_n C dX6_not3_66 rfl rfl ?_
      refine j_bipush (v := (61 : Int32)) C dX6_not3_67 (by decide) ?_
      refine j_callV_i (st := []) C dX6_not3_69 (ct_X6_isSign (kγ κ) E r53.2.1 r53.2.2 (61 : Int32) h0) mi_X6_isSign tw_1059 FC6 (MAt.S h0) rfl rfl (Nat.le_of_ble_eq_true rfl) ⟨⟨rfl, rfl⟩, ⟨Nat.le_of_ble_eq_true rfl, Nat.le_of_ble_eq_true rfl⟩, ⟨Nat.zero_le _, Nat.zero_le _⟩⟩ (fun v69 => ?_)
      refine j_if_ne (tgt := 77) C dX6_not3_72 (by decide) ?_ ?_
      · exact k77 r53.2.1 r53.2.2 r53.1
      · refine j_iload_n C dX6_not3_75 rfl rfl ?_
        exact j_iretw C dX6_not3_76
  · refine j_aload_n C dX6_not3_18 rfl rfl ?_
    refine j_callV_iw (st := []) C dX6_not3_19 (ct_X6_opens (kγ κ) E M L h0) mi_X6_opens tw_1023 FC6 (MAt.S h0) rfl rfl (Nat.le_of_ble_eq_true rfl) ⟨⟨rfl, rfl⟩, ⟨Nat.le_of_ble_eq_true rfl, Nat.le_of_ble_eq_true rfl⟩, ⟨Nat.zero_le _, Nat.zero_le _⟩⟩ (fun r19 => ?_)
    refine j_if_ne (tgt := 27) C dX6_not3_22 (by decide) ?_ ?_
    · refine j_aload_n C dX6_not3_27 rfl rfl ?_
      refine j_callV_iw (st := []) C dX6_not3_28 (ct_X6_not4 (kγ κ) E r19.2.1 r19.2.2 h0) mi_X6_not4 tw_1039 FC6 (MAt.S h0) rfl rfl (Nat.le_of_ble_eq_true rfl) ⟨⟨rfl, rfl⟩, ⟨Nat.le_of_ble_eq_true rfl, Nat.le_of_ble_eq_true rfl⟩, ⟨Nat.zero_le _, Nat.zero_le _⟩⟩ (fun r28 => ?_)
      refine j_istore_n (i := 1) (lv' := [some (.ref (E.2.1 0)), some (.int r28.1), none, none]) C dX6_not3_31 rfl (hn 1 (by decide)) rfl ?_
      refine j_aload_n C dX6_not3_32 rfl rfl ?_
      refine j_dup C dX6_not3_33 rfl ?_
      refine j_getI (j := 25) C dX6_not3_34 FC6 (MAt.S h0) (by decide) rfl tw_828 ?_
      refine j_iconst (v := (1 : Int32)) C dX6_not3_37 rfl ?_
      refine j_pc (pc2 := 38) rfl ?_
      refine j_isub C dX6_not3_38 ?_
      refine j_putI (j := 25) C dX6_not3_39 FC6 (MAt.S h0) (by decide) rfl rfl rfl rfl tw_828 ?_
      refine j_iload_n C dX6_not3_42 rfl rfl ?_
      refine j_if_ne (tgt := 50) C dX6_not3_43 (by decide) ?_ ?_
      · refine j_iconst (v := (0 : Int32)) C dX6_not3_50 rfl ?_
        exact j_iretw C dX6_not3_51
      · refine j_iconst (v := (1 : Int32)) C dX6_not3_46 rfl ?_
        refine j_goto (tgt := 51) C dX6_not3_47 (by decide) ?_
        exact j_iretw C dX6_not3_51
    · refine j_iconst (v := (0 : Int32)) C dX6_not3_25 rfl ?_
      exact j_iretw C dX6_not3_26
set_option maxRecDepth 100000 in
set_option maxHeartbeats 4000000 in
theorem ct_X6_both3 (γ : Gm) (E : Ev) (M : Mi) (L : Ml)   (h0 : MAt E) : Ct γ yX6_both3 cX6_both3 3 (some .int) ⟨20, 0, 0, 443⟩ [.ref (E.2.1 0)] E M L (Q_iw γ E) 0 0 (F_X6_both3 M L) := by
  refine ct_of (own := RX6) (lv := [some (.ref (E.2.1 0)), none, none]) (by decide +kernel) rfl rfl (Nat.le_of_ble_eq_true rfl) (fun κ C hγ hN => ?_)
  subst hγ
  have hn : ∀ i, i < 3 → i < knL κ := fun i h => by rw [hN]; exact h
  have k45 : ∀ (kf5 : Mi → Ml → Int32 → Option (Int32 × Mi × Ml)), (∀ (M : Mi) (L : Ml) (x1 : Int32), JF κ (PQ κ (Q_iw (kγ κ) E) 0 0) 5 [some (.ref (E.2.1 0)), some (.int x1), none] [] E M L 0 0 (kf5 M L x1)) → ∀ (M : Mi) (L : Ml) (s0 : Int32), JF κ (PQ κ (Q_iw (kγ κ) E) 0 0) 45 [some (.ref (E.2.1 0)), none, none] [.int s0] E M L 0 0 (F_X6_both3_k45 kf5 M L s0) := by
    intro kf5 hkf5 M L s0
    unfold F_X6_both3_k45
    refine j_istore_n (i := 1) (lv' := [some (.ref (E.2.1 0)), some (.int s0), none]) C dX6_both3_45 rfl (hn 1 (by decide)) rfl ?_
    refine j_goto (tgt := 5) C dX6_both3_46 (by decide) ?_
    exact hkf5 M L s0
  have k44 : ∀ (kf5 : Mi → Ml → Int32 → Option (Int32 × Mi × Ml)), (∀ (M : Mi) (L : Ml) (x1 : Int32), JF κ (PQ κ (Q_iw (kγ κ) E) 0 0) 5 [some (.ref (E.2.1 0)), some (.int x1), none] [] E M L 0 0 (kf5 M L x1)) → ∀ (M : Mi) (L : Ml), JF κ (PQ κ (Q_iw (kγ κ) E) 0 0) 44 [some (.ref (E.2.1 0)), none, none] [] E M L 0 0 (F_X6_both3_k44 kf5 M L) := by
    intro kf5 hkf5 M L
    unfold F_X6_both3_k44
    refine j_iconst (v := (0 : Int32)) C dX6_both3_44 rfl ?_
    exact k45 kf5 hkf5 M L ((0 : Int32))
  have k5 : ∀ (n : Nat) (M : Mi) (L : Ml) (x1 : Int32), JF κ (PQ κ (Q_iw (kγ κ) E) 0 0) 5 [some (.ref (E.2.1 0)), some (.int x1), none] [] E M L 0 0 (F_X6_both3_k5  n M L x1) := by
    intro n
    induction n with
    | zero => intros; exact jf_none
    | succ n ih =>
      intro M L x1
      unfold F_X6_both3_k5
      refine j_aload_n C dX6_both3_5 rfl rfl ?_
      refine j_bipush (v := (97 : Int32)) C dX6_both3_6 (by decide) ?_
      refine j_bipush (v := (110 : Int32)) C dX6_both3_8 (by decide) ?_
      refine j_bipush (v := (100 : Int32)) C dX6_both3_10 (by decide) ?_
      refine j_iconst (v := (0 : Int32)) C dX6_both3_12 rfl ?_
      refine j_iconst (v := (0 : Int32)) C dX6_both3_13 rfl ?_
      refine j_iconst (v := (0 : Int32)) C dX6_both3_14 rfl ?_
      refine j_pc (pc2 := 15) rfl ?_
      refine j_iconst (v := (0 : Int32)) C dX6_both3_15 rfl ?_
      refine j_iconst (v := (0 : Int32)) C dX6_both3_16 rfl ?_
      refine j_callV_i (st := []) C dX6_both3_17 (ct_X6_isWord (kγ κ) E M L (97 : Int32) (110 : Int32) (100 : Int32) (0 : Int32) (0 : Int32) (0 : Int32) (0 : Int32) (0 : Int32) h0) mi_X6_isWord tw_995 FC6 (MAt.S h0) rfl rfl (Nat.le_of_ble_eq_true rfl) ⟨⟨rfl, rfl⟩, ⟨Nat.le_of_ble_eq_true rfl, Nat.le_of_ble_eq_true rfl⟩, ⟨Nat.zero_le _, Nat.zero_le _⟩⟩ (fun v17 => ?_)
      refine j_if_eq (tgt := 49) C dX6_both3_20 (by decide) ?_ ?_
      · refine j_iload_n C dX6_both3_49 rfl rfl ?_
        exact j_iretw C dX6_both3_50
      · refine j_aload_n C dX6_both3_23 rfl rfl ?_
        refine j_callV_vw (st := []) C dX6_both3_24 (ct_X6_next (kγ κ) E M L h0) mi_X6_next tw_982 FC6 (MAt.S h0) rfl rfl (Nat.le_of_ble_eq_true rfl) ⟨⟨rfl, rfl⟩, ⟨Nat.le_of_ble_eq_true rfl, Nat.le_of_ble_eq_true rfl⟩, ⟨Nat.zero_le _, Nat.zero_le _⟩⟩ (fun r24 => ?_)
        refine j_aload_n C dX6_both3_27 rfl rfl ?_
        refine j_callV_iw (st := []) C dX6_both3_28 (ct_X6_not3 (kγ κ) E r24.1 r24.2 h0) mi_X6_not3 tw_1035 FC6 (MAt.S h0) rfl rfl (Nat.le_of_ble_eq_true rfl) ⟨⟨rfl, rfl⟩, ⟨Nat.le_of_ble_eq_true rfl, Nat.le_of_ble_eq_true rfl⟩, ⟨Nat.zero_le _, Nat.zero_le _⟩⟩ (fun r28 => ?_)
        refine j_istore_n (i := 2) (lv' := [some (.ref (E.2.1 0)), some (.int x1), some (.int r28.1)]) C dX6_both3_31 rfl (hn 2 (by decide)) rfl ?_
        refine j_iload_n C dX6_both3_32 rfl rfl ?_
        refine j_if_eq (tgt := 44) C dX6_both3_33 (by decide) ?_ ?_
        · refine j_mask [true, false, false] (lv' := [some (.ref (E.2.1 0)), none, none]) rfl ?_
          exact k44 (F_X6_both3_k5  n) ih r28.2.1 r28.2.2
        · refine j_iload_n C dX6_both3_36 rfl rfl ?_
          refine j_if_eq (tgt := 44) C dX6_both3_37 (by decide) ?_ ?_
          · refine j_mask [true, false, false] (lv' := [some (.ref (E.2.1 0)), none, none]) rfl ?_
            exact k44 (F_X6_both3_k5  n) ih r28.2.1 r28.2.2
          · refine j_iconst (v := (1 : Int32)) C dX6_both3_40 rfl ?_
            refine j_goto (tgt := 45) C dX6_both3_41 (by decide) ?_
            refine j_mask [true, false, false] (lv' := [some (.ref (E.2.1 0)), none, none]) rfl ?_
            exact k45 (F_X6_both3_k5  n) ih r28.2.1 r28.2.2 ((1 : Int32))
  unfold F_X6_both3
  refine j_aload_n C dX6_both3_0 rfl rfl ?_
  refine j_callV_iw (st := []) C dX6_both3_1 (ct_X6_not3 (kγ κ) E M L h0) mi_X6_not3 tw_1035 FC6 (MAt.S h0) rfl rfl (Nat.le_of_ble_eq_true rfl) ⟨⟨rfl, rfl⟩, ⟨Nat.le_of_ble_eq_true rfl, Nat.le_of_ble_eq_true rfl⟩, ⟨Nat.zero_le _, Nat.zero_le _⟩⟩ (fun r1 => ?_)
  refine j_istore_n (i := 1) (lv' := [some (.ref (E.2.1 0)), some (.int r1.1), none]) C dX6_both3_4 rfl (hn 1 (by decide)) rfl ?_
  exact k5 FU r1.2.1 r1.2.2 r1.1
set_option maxRecDepth 100000 in
set_option maxHeartbeats 4000000 in
theorem ct_X6_either3 (γ : Gm) (E : Ev) (M : Mi) (L : Ml)   (h0 : MAt E) : Ct γ yX6_either3 cX6_either3 3 (some .int) ⟨21, 0, 0, 465⟩ [.ref (E.2.1 0)] E M L (Q_iw γ E) 0 0 (F_X6_either3 M L) := by
  refine ct_of (own := RX6) (lv := [some (.ref (E.2.1 0)), none, none]) (by decide +kernel) rfl rfl (Nat.le_of_ble_eq_true rfl) (fun κ C hγ hN => ?_)
  subst hγ
  have hn : ∀ i, i < 3 → i < knL κ := fun i h => by rw [hN]; exact h
  have k44 : ∀ (kf5 : Mi → Ml → Int32 → Option (Int32 × Mi × Ml)), (∀ (M : Mi) (L : Ml) (x1 : Int32), JF κ (PQ κ (Q_iw (kγ κ) E) 0 0) 5 [some (.ref (E.2.1 0)), some (.int x1), none] [] E M L 0 0 (kf5 M L x1)) → ∀ (M : Mi) (L : Ml) (s0 : Int32), JF κ (PQ κ (Q_iw (kγ κ) E) 0 0) 44 [some (.ref (E.2.1 0)), none, none] [.int s0] E M L 0 0 (F_X6_either3_k44 kf5 M L s0) := by
    intro kf5 hkf5 M L s0
    unfold F_X6_either3_k44
    refine j_istore_n (i := 1) (lv' := [some (.ref (E.2.1 0)), some (.int s0), none]) C dX6_either3_44 rfl (hn 1 (by decide)) rfl ?_
    refine j_goto (tgt := 5) C dX6_either3_45 (by decide) ?_
    exact hkf5 M L s0
  have k39 : ∀ (kf5 : Mi → Ml → Int32 → Option (Int32 × Mi × Ml)), (∀ (M : Mi) (L : Ml) (x1 : Int32), JF κ (PQ κ (Q_iw (kγ κ) E) 0 0) 5 [some (.ref (E.2.1 0)), some (.int x1), none] [] E M L 0 0 (kf5 M L x1)) → ∀ (M : Mi) (L : Ml), JF κ (PQ κ (Q_iw (kγ κ) E) 0 0) 39 [some (.ref (E.2.1 0)), none, none] [] E M L 0 0 (F_X6_either3_k39 kf5 M L) := by
    intro kf5 hkf5 M L
    unfold F_X6_either3_k39
    refine j_iconst (v := (1 : Int32)) C dX6_either3_39 rfl ?_
    refine j_goto (tgt := 44) C dX6_either3_40 (by decide) ?_
    exact k44 kf5 hkf5 M L ((1 : Int32))
  have k5 : ∀ (n : Nat) (M : Mi) (L : Ml) (x1 : Int32), JF κ (PQ κ (Q_iw (kγ κ) E) 0 0) 5 [some (.ref (E.2.1 0)), some (.int x1), none] [] E M L 0 0 (F_X6_either3_k5  n M L x1) := by
    intro n
    induction n with
    | zero => intros; exact jf_none
    | succ n ih =>
      intro M L x1
      unfold F_X6_either3_k5
      refine j_aload_n C dX6_either3_5 rfl rfl ?_
      refine j_bipush (v := (111 : Int32)) C dX6_either3_6 (by decide) ?_
      refine j_bipush (v := (114 : Int32)) C dX6_either3_8 (by decide) ?_
      refine j_iconst (v := (0 : Int32)) C dX6_either3_10 rfl ?_
      refine j_iconst (v := (0 : Int32)) C dX6_either3_11 rfl ?_
      refine j_iconst (v := (0 : Int32)) C dX6_either3_12 rfl ?_
      refine j_iconst (v := (0 : Int32)) C dX6_either3_13 rfl ?_
      refine j_pc (pc2 := 14) rfl ?_
      refine j_iconst (v := (0 : Int32)) C dX6_either3_14 rfl ?_
      refine j_iconst (v := (0 : Int32)) C dX6_either3_15 rfl ?_
      refine j_callV_i (st := []) C dX6_either3_16 (ct_X6_isWord (kγ κ) E M L (111 : Int32) (114 : Int32) (0 : Int32) (0 : Int32) (0 : Int32) (0 : Int32) (0 : Int32) (0 : Int32) h0) mi_X6_isWord tw_995 FC6 (MAt.S h0) rfl rfl (Nat.le_of_ble_eq_true rfl) ⟨⟨rfl, rfl⟩, ⟨Nat.le_of_ble_eq_true rfl, Nat.le_of_ble_eq_true rfl⟩, ⟨Nat.zero_le _, Nat.zero_le _⟩⟩ (fun v16 => ?_)
      refine j_if_eq (tgt := 48) C dX6_either3_19 (by decide) ?_ ?_
      · refine j_iload_n C dX6_either3_48 rfl rfl ?_
        exact j_iretw C dX6_either3_49
      · refine j_aload_n C dX6_either3_22 rfl rfl ?_
        refine j_callV_vw (st := []) C dX6_either3_23 (ct_X6_next (kγ κ) E M L h0) mi_X6_next tw_982 FC6 (MAt.S h0) rfl rfl (Nat.le_of_ble_eq_true rfl) ⟨⟨rfl, rfl⟩, ⟨Nat.le_of_ble_eq_true rfl, Nat.le_of_ble_eq_true rfl⟩, ⟨Nat.zero_le _, Nat.zero_le _⟩⟩ (fun r23 => ?_)
        refine j_aload_n C dX6_either3_26 rfl rfl ?_
        refine j_callV_iw (st := []) C dX6_either3_27 (ct_X6_both3 (kγ κ) E r23.1 r23.2 h0) mi_X6_both3 tw_1125 FC6 (MAt.S h0) rfl rfl (Nat.le_of_ble_eq_true rfl) ⟨⟨rfl, rfl⟩, ⟨Nat.le_of_ble_eq_true rfl, Nat.le_of_ble_eq_true rfl⟩, ⟨Nat.zero_le _, Nat.zero_le _⟩⟩ (fun r27 => ?_)
        refine j_istore_n (i := 2) (lv' := [some (.ref (E.2.1 0)), some (.int x1), some (.int r27.1)]) C dX6_either3_30 rfl (hn 2 (by decide)) rfl ?_
        refine j_iload_n C dX6_either3_31 rfl rfl ?_
        refine j_if_ne (tgt := 39) C dX6_either3_32 (by decide) ?_ ?_
        · refine j_mask [true, false, false] (lv' := [some (.ref (E.2.1 0)), none, none]) rfl ?_
          exact k39 (F_X6_either3_k5  n) ih r27.2.1 r27.2.2
        · refine j_iload_n C dX6_either3_35 rfl rfl ?_
          refine j_if_eq (tgt := 43) C dX6_either3_36 (by decide) ?_ ?_
          · refine j_iconst (v := (0 : Int32)) C dX6_either3_43 rfl ?_
            refine j_mask [true, false, false] (lv' := [some (.ref (E.2.1 0)), none, none]) rfl ?_
            exact k44 (F_X6_either3_k5  n) ih r27.2.1 r27.2.2 ((0 : Int32))
          · refine j_mask [true, false, false] (lv' := [some (.ref (E.2.1 0)), none, none]) rfl ?_
            exact k39 (F_X6_either3_k5  n) ih r27.2.1 r27.2.2
  unfold F_X6_either3
  refine j_aload_n C dX6_either3_0 rfl rfl ?_
  refine j_callV_iw (st := []) C dX6_either3_1 (ct_X6_both3 (kγ κ) E M L h0) mi_X6_both3 tw_1125 FC6 (MAt.S h0) rfl rfl (Nat.le_of_ble_eq_true rfl) ⟨⟨rfl, rfl⟩, ⟨Nat.le_of_ble_eq_true rfl, Nat.le_of_ble_eq_true rfl⟩, ⟨Nat.zero_le _, Nat.zero_le _⟩⟩ (fun r1 => ?_)
  refine j_istore_n (i := 1) (lv' := [some (.ref (E.2.1 0)), some (.int r1.1), none]) C dX6_either3_4 rfl (hn 1 (by decide)) rfl ?_
  exact k5 FU r1.2.1 r1.2.2 r1.1
set_option maxRecDepth 100000 in
set_option maxHeartbeats 4000000 in
theorem ct_X6_atom2 (γ : Gm) (E : Ev) (M : Mi) (L : Ml)   (h0 : MAt E) : Ct γ yX6_atom2 cX6_atom2 2 (some .int) ⟨22, 0, 0, 487⟩ [.ref (E.2.1 0)] E M L (Q_iw γ E) 0 0 (F_X6_atom2 M L) := by
  refine ct_of (own := RX6) (lv := [some (.ref (E.2.1 0)), none]) (by decide +kernel) rfl rfl (Nat.le_of_ble_eq_true rfl) (fun κ C hγ hN => ?_)
  subst hγ
  have hn : ∀ i, i < 2 → i < knL κ := fun i h => by rw [hN]; exact h
  have k157 : ∀ (M : Mi) (L : Ml) (x1 : Int32), JF κ (PQ κ (Q_iw (kγ κ) E) 0 0) 157 [some (.ref (E.2.1 0)), some (.int x1)] [] E M L 0 0 (F_X6_atom2_k157  M L x1) := by
    intro M L x1
    unfold F_X6_atom2_k157
    refine j_aload_n C dX6_atom2_157 rfl rfl ?_
    refine j_callV_vw (st := []) C dX6_atom2_158 (ct_X6_fail (kγ κ) E M L h0) mi_X6_fail tw_1007 FC6 (MAt.S h0) rfl rfl (Nat.le_of_ble_eq_true rfl) ⟨⟨rfl, rfl⟩, ⟨Nat.le_of_ble_eq_true rfl, Nat.le_of_ble_eq_true rfl⟩, ⟨Nat.zero_le _, Nat.zero_le _⟩⟩ (fun r158 => ?_)
    refine j_iload_n C dX6_atom2_161 rfl rfl ?_
    exact j_iretw C dX6_atom2_162
  have k123 : ∀ (M : Mi) (L : Ml) (x1 : Int32), JF κ (PQ κ (Q_iw (kγ κ) E) 0 0) 123 [some (.ref (E.2.1 0)), some (.int x1)] [] E M L 0 0 (F_X6_atom2_k123  M L x1) := by
    intro M L x1
    unfold F_X6_atom2_k123
    refine j_aload_n C dX6_atom2_123 rfl rfl ?_
    refine j_getI (j := 26) C dX6_atom2_124 FC6 (MAt.S h0) (by decide) rfl tw_829 ?_
    refine j_if_ne (tgt := 157) C dX6_atom2_127 (by decide) ?_ ?_
    · exact k157 M L x1
    · refine j_aload_n C dX6_atom2_130 rfl rfl ?_
      refine j_getI (j := 22) C dX6_atom2_131 FC6 (MAt.S h0) (by decide) rfl tw_825 ?_
      refine j_iconst (v := (1 : Int32)) C dX6_atom2_134 rfl ?_
      refine j_icmp_ne (tgt := 157) C dX6_atom2_135 (by decide) ?_ ?_
      · exact k157 M L x1
      · refine j_aload_n C dX6_atom2_138 rfl rfl ?_
        refine j_callV_iw (st := []) C dX6_atom2_139 (ct_X6_name (kγ κ) E M L h0) mi_X6_name tw_1063 FC6 (MAt.S h0) rfl rfl (Nat.le_of_ble_eq_true rfl) ⟨⟨rfl, rfl⟩, ⟨Nat.le_of_ble_eq_true rfl, Nat.le_of_ble_eq_true rfl⟩, ⟨Nat.zero_le _, Nat.zero_le _⟩⟩ (fun r139 => ?_)
        refine j_istore_n (i := 1) (lv' := [some (.ref (E.2.1 0)), some (.int r139.1)]) C dX6_atom2_142 rfl (hn 1 (by decide)) rfl ?_
        refine j_aload_n C dX6_atom2_143 rfl rfl ?_
        refine j_getI (j := 26) C dX6_atom2_144 FC6 (MAt.S h0) (by decide) rfl tw_829 ?_
        refine j_if_ne (tgt := 161) C dX6_atom2_147 (by decide) ?_ ?_
        · refine j_iload_n C dX6_atom2_161 rfl rfl ?_
          exact j_iretw C dX6_atom2_162
        · refine j_aload_n C dX6_atom2_150 rfl rfl ?_
          refine j_callV_vw (st := []) C dX6_atom2_151 (ct_X6_next (kγ κ) E r139.2.1 r139.2.2 h0) mi_X6_next tw_982 FC6 (MAt.S h0) rfl rfl (Nat.le_of_ble_eq_true rfl) ⟨⟨rfl, rfl⟩, ⟨Nat.le_of_ble_eq_true rfl, Nat.le_of_ble_eq_true rfl⟩, ⟨Nat.zero_le _, Nat.zero_le _⟩⟩ (fun r151 => ?_)
          refine j_goto (tgt := 161) C dX6_atom2_154 (by decide) ?_
          refine j_iload_n C dX6_atom2_161 rfl rfl ?_
          exact j_iretw C dX6_atom2_162
  have k71 : ∀ (M : Mi) (L : Ml) (x1 : Int32), JF κ (PQ κ (Q_iw (kγ κ) E) 0 0) 71 [some (.ref (E.2.1 0)), some (.int x1)] [] E M L 0 0 (F_X6_atom2_k71  M L x1) := by
    intro M L x1
    unfold F_X6_atom2_k71
    refine j_aload_n C dX6_atom2_71 rfl rfl ?_
    refine j_dup C dX6_atom2_72 rfl ?_
    refine j_getI (j := 25) C dX6_atom2_73 FC6 (MAt.S h0) (by decide) rfl tw_828 ?_
    refine j_iconst (v := (1 : Int32)) C dX6_atom2_76 rfl ?_
    refine j_isub C dX6_atom2_77 ?_
    refine j_putI (j := 25) C dX6_atom2_78 FC6 (MAt.S h0) (by decide) rfl rfl rfl rfl tw_828 ?_
    refine j_aload_n C dX6_atom2_81 rfl rfl ?_
    refine j_pc (pc2 := 82) rfl ?_
    refine j_getI (j := 26) C dX6_atom2_82 FC6 (MAt.S h0) (by decide) rfl tw_829 ?_
    refine j_if_ne (tgt := 161) C dX6_atom2_85 (by decide) ?_ ?_
    · refine j_iload_n C dX6_atom2_161 rfl rfl ?_
      exact j_iretw C dX6_atom2_162
    · refine j_aload_n C dX6_atom2_88 rfl rfl ?_
      refine j_callV_vw (st := []) C dX6_atom2_89 (ct_X6_next (kγ κ) E (up2 M 0 25 ((M 0 25) - (1 : Int32))) L h0) mi_X6_next tw_982 FC6 (MAt.S h0) rfl rfl (Nat.le_of_ble_eq_true rfl) ⟨⟨rfl, rfl⟩, ⟨Nat.le_of_ble_eq_true rfl, Nat.le_of_ble_eq_true rfl⟩, ⟨Nat.zero_le _, Nat.zero_le _⟩⟩ (fun r89 => ?_)
      refine j_goto (tgt := 161) C dX6_atom2_92 (by decide) ?_
      refine j_iload_n C dX6_atom2_161 rfl rfl ?_
      exact j_iretw C dX6_atom2_162
  unfold F_X6_atom2
  refine j_iconst (v := (0 : Int32)) C dX6_atom2_0 rfl ?_
  refine j_istore_n (i := 1) (lv' := [some (.ref (E.2.1 0)), some (.int (0 : Int32))]) C dX6_atom2_1 rfl (hn 1 (by decide)) rfl ?_
  refine j_aload_n C dX6_atom2_2 rfl rfl ?_
  refine j_bipush (v := (45 : Int32)) C dX6_atom2_3 (by decide) ?_
  refine j_callV_i (st := []) C dX6_atom2_5 (ct_X6_isSign (kγ κ) E M L (45 : Int32) h0) mi_X6_isSign tw_1059 FC6 (MAt.S h0) rfl rfl (Nat.le_of_ble_eq_true rfl) ⟨⟨rfl, rfl⟩, ⟨Nat.le_of_ble_eq_true rfl, Nat.le_of_ble_eq_true rfl⟩, ⟨Nat.zero_le _, Nat.zero_le _⟩⟩ (fun v5 => ?_)
  refine j_if_eq (tgt := 37) C dX6_atom2_8 (by decide) ?_ ?_
  · refine j_aload_n C dX6_atom2_37 rfl rfl ?_
    refine j_bipush (v := (40 : Int32)) C dX6_atom2_38 (by decide) ?_
    refine j_callV_i (st := []) C dX6_atom2_40 (ct_X6_isSign (kγ κ) E M L (40 : Int32) h0) mi_X6_isSign tw_1059 FC6 (MAt.S h0) rfl rfl (Nat.le_of_ble_eq_true rfl) ⟨⟨rfl, rfl⟩, ⟨Nat.le_of_ble_eq_true rfl, Nat.le_of_ble_eq_true rfl⟩, ⟨Nat.zero_le _, Nat.zero_le _⟩⟩ (fun v40 => ?_)
    refine j_if_eq (tgt := 95) C dX6_atom2_43 (by decide) ?_ ?_
    · refine j_aload_n C dX6_atom2_95 rfl rfl ?_
      refine j_getI (j := 26) C dX6_atom2_96 FC6 (MAt.S h0) (by decide) rfl tw_829 ?_
      refine j_if_ne (tgt := 123) C dX6_atom2_99 (by decide) ?_ ?_
      · exact k123 M L ((0 : Int32))
      · refine j_aload_n C dX6_atom2_102 rfl rfl ?_
        refine j_getI (j := 22) C dX6_atom2_103 FC6 (MAt.S h0) (by decide) rfl tw_825 ?_
        refine j_iconst (v := (2 : Int32)) C dX6_atom2_106 rfl ?_
        refine j_icmp_ne (tgt := 123) C dX6_atom2_107 (by decide) ?_ ?_
        · exact k123 M L ((0 : Int32))
        · refine j_aload_n C dX6_atom2_110 rfl rfl ?_
          refine j_getL (j := 24) C dX6_atom2_111 FC6 (MAt.S h0) (by decide) rfl tw_827 ?_
          refine j_l2i C dX6_atom2_114 ?_
          refine j_istore_n (i := 1) (lv' := [some (.ref (E.2.1 0)), some (.int (Int64.toInt32 (L 0 24)))]) C dX6_atom2_115 rfl (hn 1 (by decide)) rfl ?_
          refine j_aload_n C dX6_atom2_116 rfl rfl ?_
          refine j_callV_vw (st := []) C dX6_atom2_117 (ct_X6_next (kγ κ) E M L h0) mi_X6_next tw_982 FC6 (MAt.S h0) rfl rfl (Nat.le_of_ble_eq_true rfl) ⟨⟨rfl, rfl⟩, ⟨Nat.le_of_ble_eq_true rfl, Nat.le_of_ble_eq_true rfl⟩, ⟨Nat.zero_le _, Nat.zero_le _⟩⟩ (fun r117 => ?_)
          refine j_goto (tgt := 161) C dX6_atom2_120 (by decide) ?_
          refine j_iload_n C dX6_atom2_161 rfl rfl ?_
          exact j_iretw C dX6_atom2_162
    · refine j_aload_n C dX6_atom2_46 rfl rfl ?_
      refine j_callV_iw (st := []) C dX6_atom2_47 (ct_X6_opens (kγ κ) E M L h0) mi_X6_opens tw_1023 FC6 (MAt.S h0) rfl rfl (Nat.le_of_ble_eq_true rfl) ⟨⟨rfl, rfl⟩, ⟨Nat.le_of_ble_eq_true rfl, Nat.le_of_ble_eq_true rfl⟩, ⟨Nat.zero_le _, Nat.zero_le _⟩⟩ (fun r47 => ?_)
      refine j_if_eq (tgt := 161) C dX6_atom2_50 (by decide) ?_ ?_
      · refine j_iload_n C dX6_atom2_161 rfl rfl ?_
        exact j_iretw C dX6_atom2_162
      · refine j_aload_n C dX6_atom2_53 rfl rfl ?_
        refine j_callV_iw (st := []) C dX6_atom2_54 (ct_X6_either3 (kγ κ) E r47.2.1 r47.2.2 h0) mi_X6_either3 tw_1121 FC6 (MAt.S h0) rfl rfl (Nat.le_of_ble_eq_true rfl) ⟨⟨rfl, rfl⟩, ⟨Nat.le_of_ble_eq_true rfl, Nat.le_of_ble_eq_true rfl⟩, ⟨Nat.zero_le _, Nat.zero_le _⟩⟩ (fun r54 => ?_)
        refine j_istore_n (i := 1) (lv' := [some (.ref (E.2.1 0)), some (.int r54.1)]) C dX6_atom2_57 rfl (hn 1 (by decide)) rfl ?_
        refine j_aload_n C dX6_atom2_58 rfl rfl ?_
        refine j_bipush (v := (41 : Int32)) C dX6_atom2_59 (by decide) ?_
        refine j_callV_i (st := []) C dX6_atom2_61 (ct_X6_isSign (kγ κ) E r54.2.1 r54.2.2 (41 : Int32) h0) mi_X6_isSign tw_1059 FC6 (MAt.S h0) rfl rfl (Nat.le_of_ble_eq_true rfl) ⟨⟨rfl, rfl⟩, ⟨Nat.le_of_ble_eq_true rfl, Nat.le_of_ble_eq_true rfl⟩, ⟨Nat.zero_le _, Nat.zero_le _⟩⟩ (fun v61 => ?_)
        refine j_if_ne (tgt := 71) C dX6_atom2_64 (by decide) ?_ ?_
        · exact k71 r54.2.1 r54.2.2 r54.1
        · refine j_aload_n C dX6_atom2_67 rfl rfl ?_
          refine j_callV_vw (st := []) C dX6_atom2_68 (ct_X6_fail (kγ κ) E r54.2.1 r54.2.2 h0) mi_X6_fail tw_1007 FC6 (MAt.S h0) rfl rfl (Nat.le_of_ble_eq_true rfl) ⟨⟨rfl, rfl⟩, ⟨Nat.le_of_ble_eq_true rfl, Nat.le_of_ble_eq_true rfl⟩, ⟨Nat.zero_le _, Nat.zero_le _⟩⟩ (fun r68 => ?_)
          exact k71 r68.1 r68.2 r54.1
  · refine j_aload_n C dX6_atom2_11 rfl rfl ?_
    refine j_callV_iw (st := []) C dX6_atom2_12 (ct_X6_opens (kγ κ) E M L h0) mi_X6_opens tw_1023 FC6 (MAt.S h0) rfl rfl (Nat.le_of_ble_eq_true rfl) ⟨⟨rfl, rfl⟩, ⟨Nat.le_of_ble_eq_true rfl, Nat.le_of_ble_eq_true rfl⟩, ⟨Nat.zero_le _, Nat.zero_le _⟩⟩ (fun r12 => ?_)
    refine j_if_eq (tgt := 161) C dX6_atom2_15 (by decide) ?_ ?_
    · refine j_iload_n C dX6_atom2_161 rfl rfl ?_
      exact j_iretw C dX6_atom2_162
    · refine j_aload_n C dX6_atom2_18 rfl rfl ?_
      refine j_callV_iw (st := []) C dX6_atom2_19 (ct_X6_atom3 (kγ κ) E r12.2.1 r12.2.2 h0) mi_X6_atom3 tw_1097 FC6 (MAt.S h0) rfl rfl (Nat.le_of_ble_eq_true rfl) ⟨⟨rfl, rfl⟩, ⟨Nat.le_of_ble_eq_true rfl, Nat.le_of_ble_eq_true rfl⟩, ⟨Nat.zero_le _, Nat.zero_le _⟩⟩ (fun r19 => ?_)
      refine j_ineg C dX6_atom2_22 ?_
      refine j_istore_n (i := 1) (lv' := [some (.ref (E.2.1 0)), some (.int (-r19.1))]) C dX6_atom2_23 rfl (hn 1 (by decide)) rfl ?_
      refine j_aload_n C dX6_atom2_24 rfl rfl ?_
      refine j_dup C dX6_atom2_25 rfl ?_
      refine j_getI (j := 25) C dX6_atom2_26 FC6 (MAt.S h0) (by decide) rfl tw_828 ?_
      refine j_pc (pc2 := 29) rfl ?_
      refine j_iconst (v := (1 : Int32)) C dX6_atom2_29 rfl ?_
      refine j_isub C dX6_atom2_30 ?_
      refine j_putI (j := 25) C dX6_atom2_31 FC6 (MAt.S h0) (by decide) rfl rfl rfl rfl tw_828 ?_
      refine j_goto (tgt := 161) C dX6_atom2_34 (by decide) ?_
      refine j_iload_n C dX6_atom2_161 rfl rfl ?_
      exact j_iretw C dX6_atom2_162
set_option maxRecDepth 100000 in
set_option maxHeartbeats 4000000 in
theorem ct_X6_term2 (γ : Gm) (E : Ev) (M : Mi) (L : Ml)   (h0 : MAt E) : Ct γ yX6_term2 cX6_term2 2 (some .int) ⟨23, 0, 0, 508⟩ [.ref (E.2.1 0)] E M L (Q_iw γ E) 0 0 (F_X6_term2 M L) := by
  refine ct_of (own := RX6) (lv := [some (.ref (E.2.1 0)), none]) (by decide +kernel) rfl rfl (Nat.le_of_ble_eq_true rfl) (fun κ C hγ hN => ?_)
  subst hγ
  have hn : ∀ i, i < 2 → i < knL κ := fun i h => by rw [hN]; exact h
  have k5 : ∀ (n : Nat) (M : Mi) (L : Ml) (x1 : Int32), JF κ (PQ κ (Q_iw (kγ κ) E) 0 0) 5 [some (.ref (E.2.1 0)), some (.int x1)] [] E M L 0 0 (F_X6_term2_k5  n M L x1) := by
    intro n
    induction n with
    | zero => intros; exact jf_none
    | succ n ih =>
      intro M L x1
      unfold F_X6_term2_k5
      refine j_aload_n C dX6_term2_5 rfl rfl ?_
      refine j_bipush (v := (42 : Int32)) C dX6_term2_6 (by decide) ?_
      refine j_callV_i (st := []) C dX6_term2_8 (ct_X6_isSign (kγ κ) E M L (42 : Int32) h0) mi_X6_isSign tw_1059 FC6 (MAt.S h0) rfl rfl (Nat.le_of_ble_eq_true rfl) ⟨⟨rfl, rfl⟩, ⟨Nat.le_of_ble_eq_true rfl, Nat.le_of_ble_eq_true rfl⟩, ⟨Nat.zero_le _, Nat.zero_le _⟩⟩ (fun v8 => ?_)
      refine j_if_eq (tgt := 28) C dX6_term2_11 (by decide) ?_ ?_
      · refine j_iload_n C dX6_term2_28 rfl rfl ?_
        exact j_iretw C dX6_term2_29
      · refine j_aload_n C dX6_term2_14 rfl rfl ?_
        refine j_callV_vw (st := []) C dX6_term2_15 (ct_X6_next (kγ κ) E M L h0) mi_X6_next tw_982 FC6 (MAt.S h0) rfl rfl (Nat.le_of_ble_eq_true rfl) ⟨⟨rfl, rfl⟩, ⟨Nat.le_of_ble_eq_true rfl, Nat.le_of_ble_eq_true rfl⟩, ⟨Nat.zero_le _, Nat.zero_le _⟩⟩ (fun r15 => ?_)
        refine j_iload_n C dX6_term2_18 rfl rfl ?_
        refine j_aload_n C dX6_term2_19 rfl rfl ?_
        refine j_callV_iw (st := [.int x1]) C dX6_term2_20 (ct_X6_atom2 (kγ κ) E r15.1 r15.2 h0) mi_X6_atom2 tw_1117 FC6 (MAt.S h0) rfl rfl (Nat.le_of_ble_eq_true rfl) ⟨⟨rfl, rfl⟩, ⟨Nat.le_of_ble_eq_true rfl, Nat.le_of_ble_eq_true rfl⟩, ⟨Nat.zero_le _, Nat.zero_le _⟩⟩ (fun r20 => ?_)
        refine j_imul C dX6_term2_23 ?_
        refine j_istore_n (i := 1) (lv' := [some (.ref (E.2.1 0)), some (.int (x1 * r20.1))]) C dX6_term2_24 rfl (hn 1 (by decide)) rfl ?_
        refine j_pc (pc2 := 25) rfl ?_
        refine j_goto (tgt := 5) C dX6_term2_25 (by decide) ?_
        exact ih r20.2.1 r20.2.2 ((x1 * r20.1))
  unfold F_X6_term2
  refine j_aload_n C dX6_term2_0 rfl rfl ?_
  refine j_callV_iw (st := []) C dX6_term2_1 (ct_X6_atom2 (kγ κ) E M L h0) mi_X6_atom2 tw_1117 FC6 (MAt.S h0) rfl rfl (Nat.le_of_ble_eq_true rfl) ⟨⟨rfl, rfl⟩, ⟨Nat.le_of_ble_eq_true rfl, Nat.le_of_ble_eq_true rfl⟩, ⟨Nat.zero_le _, Nat.zero_le _⟩⟩ (fun r1 => ?_)
  refine j_istore_n (i := 1) (lv' := [some (.ref (E.2.1 0)), some (.int r1.1)]) C dX6_term2_4 rfl (hn 1 (by decide)) rfl ?_
  exact k5 FU r1.2.1 r1.2.2 r1.1
set_option maxRecDepth 100000 in
set_option maxHeartbeats 4000000 in
theorem ct_X6_added2 (γ : Gm) (E : Ev) (M : Mi) (L : Ml)   (h0 : MAt E) : Ct γ yX6_added2 cX6_added2 4 (some .int) ⟨24, 0, 0, 529⟩ [.ref (E.2.1 0)] E M L (Q_iw γ E) 0 0 (F_X6_added2 M L) := by
  refine ct_of (own := RX6) (lv := [some (.ref (E.2.1 0)), none, none, none]) (by decide +kernel) rfl rfl (Nat.le_of_ble_eq_true rfl) (fun κ C hγ hN => ?_)
  subst hγ
  have hn : ∀ i, i < 4 → i < knL κ := fun i h => by rw [hN]; exact h
  have k62 : ∀ (kf5 : Mi → Ml → Int32 → Option (Int32 × Mi × Ml)), (∀ (M : Mi) (L : Ml) (x1 : Int32), JF κ (PQ κ (Q_iw (kγ κ) E) 0 0) 5 [some (.ref (E.2.1 0)), some (.int x1), none, none] [] E M L 0 0 (kf5 M L x1)) → ∀ (M : Mi) (L : Ml) (s0 : Int32), JF κ (PQ κ (Q_iw (kγ κ) E) 0 0) 62 [some (.ref (E.2.1 0)), none, none, none] [.int s0] E M L 0 0 (F_X6_added2_k62 kf5 M L s0) := by
    intro kf5 hkf5 M L s0
    unfold F_X6_added2_k62
    refine j_istore_n (i := 1) (lv' := [some (.ref (E.2.1 0)), some (.int s0), none, none]) C dX6_added2_62 rfl (hn 1 (by decide)) rfl ?_
    refine j_goto (tgt := 5) C dX6_added2_63 (by decide) ?_
    exact hkf5 M L s0
  have k39 : ∀ (kf5 : Mi → Ml → Int32 → Option (Int32 × Mi × Ml)), (∀ (M : Mi) (L : Ml) (x1 : Int32), JF κ (PQ κ (Q_iw (kγ κ) E) 0 0) 5 [some (.ref (E.2.1 0)), some (.int x1), none, none] [] E M L 0 0 (kf5 M L x1)) → ∀ (M : Mi) (L : Ml) (x1 : Int32) (s0 : Int32), JF κ (PQ κ (Q_iw (kγ κ) E) 0 0) 39 [some (.ref (E.2.1 0)), some (.int x1), none, none] [.int s0] E M L 0 0 (F_X6_added2_k39 kf5 M L x1 s0) := by
    intro kf5 hkf5 M L x1 s0
    unfold F_X6_added2_k39
    refine j_istore_n (i := 2) (lv' := [some (.ref (E.2.1 0)), some (.int x1), some (.int s0), none]) C dX6_added2_39 rfl (hn 2 (by decide)) rfl ?_
    refine j_aload_n C dX6_added2_40 rfl rfl ?_
    refine j_callV_vw (st := []) C dX6_added2_41 (ct_X6_next (kγ κ) E M L h0) mi_X6_next tw_982 FC6 (MAt.S h0) rfl rfl (Nat.le_of_ble_eq_true rfl) ⟨⟨rfl, rfl⟩, ⟨Nat.le_of_ble_eq_true rfl, Nat.le_of_ble_eq_true rfl⟩, ⟨Nat.zero_le _, Nat.zero_le _⟩⟩ (fun r41 => ?_)
    refine j_aload_n C dX6_added2_44 rfl rfl ?_
    refine j_callV_iw (st := []) C dX6_added2_45 (ct_X6_term2 (kγ κ) E r41.1 r41.2 h0) mi_X6_term2 tw_1113 FC6 (MAt.S h0) rfl rfl (Nat.le_of_ble_eq_true rfl) ⟨⟨rfl, rfl⟩, ⟨Nat.le_of_ble_eq_true rfl, Nat.le_of_ble_eq_true rfl⟩, ⟨Nat.zero_le _, Nat.zero_le _⟩⟩ (fun r45 => ?_)
    refine j_istore_n (i := 3) (lv' := [some (.ref (E.2.1 0)), some (.int x1), some (.int s0), some (.int r45.1)]) C dX6_added2_48 rfl (hn 3 (by decide)) rfl ?_
    refine j_iload_n C dX6_added2_49 rfl rfl ?_
    refine j_pc (pc2 := 50) rfl ?_
    refine j_if_eq (tgt := 59) C dX6_added2_50 (by decide) ?_ ?_
    · refine j_iload_n C dX6_added2_59 rfl rfl ?_
      refine j_iload_n C dX6_added2_60 rfl rfl ?_
      refine j_isub C dX6_added2_61 ?_
      refine j_mask [true, false, false, false] (lv' := [some (.ref (E.2.1 0)), none, none, none]) rfl ?_
      exact k62 kf5 hkf5 r45.2.1 r45.2.2 ((x1 - r45.1))
    · refine j_iload_n C dX6_added2_53 rfl rfl ?_
      refine j_iload_n C dX6_added2_54 rfl rfl ?_
      refine j_iadd C dX6_added2_55 ?_
      refine j_goto (tgt := 62) C dX6_added2_56 (by decide) ?_
      refine j_mask [true, false, false, false] (lv' := [some (.ref (E.2.1 0)), none, none, none]) rfl ?_
      exact k62 kf5 hkf5 r45.2.1 r45.2.2 ((x1 + r45.1))
  have k23 : ∀ (kf5 : Mi → Ml → Int32 → Option (Int32 × Mi × Ml)), (∀ (M : Mi) (L : Ml) (x1 : Int32), JF κ (PQ κ (Q_iw (kγ κ) E) 0 0) 5 [some (.ref (E.2.1 0)), some (.int x1), none, none] [] E M L 0 0 (kf5 M L x1)) → ∀ (M : Mi) (L : Ml) (x1 : Int32), JF κ (PQ κ (Q_iw (kγ κ) E) 0 0) 23 [some (.ref (E.2.1 0)), some (.int x1), none, none] [] E M L 0 0 (F_X6_added2_k23 kf5 M L x1) := by
    intro kf5 hkf5 M L x1
    unfold F_X6_added2_k23
    refine j_aload_n C dX6_added2_23 rfl rfl ?_
    refine j_getL (j := 24) C dX6_added2_24 FC6 (MAt.S h0) (by decide) rfl tw_827 ?_
    refine j_ldc2 (v := (43 : Int64)) C dX6_added2_27 tw_1067 ?_
    refine j_lcmp C dX6_added2_30 ?_
    refine j_if_ne (tgt := 38) C dX6_added2_31 (by decide) ?_ ?_
    · refine j_iconst (v := (0 : Int32)) C dX6_added2_38 rfl ?_
      exact k39 kf5 hkf5 M L x1 ((0 : Int32))
    · refine j_iconst (v := (1 : Int32)) C dX6_added2_34 rfl ?_
      refine j_goto (tgt := 39) C dX6_added2_35 (by decide) ?_
      exact k39 kf5 hkf5 M L x1 ((1 : Int32))
  have k5 : ∀ (n : Nat) (M : Mi) (L : Ml) (x1 : Int32), JF κ (PQ κ (Q_iw (kγ κ) E) 0 0) 5 [some (.ref (E.2.1 0)), some (.int x1), none, none] [] E M L 0 0 (F_X6_added2_k5  n M L x1) := by
    intro n
    induction n with
    | zero => intros; exact jf_none
    | succ n ih =>
      intro M L x1
      unfold F_X6_added2_k5
      refine j_aload_n C dX6_added2_5 rfl rfl ?_
      refine j_bipush (v := (43 : Int32)) C dX6_added2_6 (by decide) ?_
      refine j_callV_i (st := []) C dX6_added2_8 (ct_X6_isSign (kγ κ) E M L (43 : Int32) h0) mi_X6_isSign tw_1059 FC6 (MAt.S h0) rfl rfl (Nat.le_of_ble_eq_true rfl) ⟨⟨rfl, rfl⟩, ⟨Nat.le_of_ble_eq_true rfl, Nat.le_of_ble_eq_true rfl⟩, ⟨Nat.zero_le _, Nat.zero_le _⟩⟩ (fun v8 => ?_)
      refine j_if_ne (tgt := 23) C dX6_added2_11 (by decide) ?_ ?_
      · exact k23 (F_X6_added2_k5  n) ih M L x1
      · refine j_aload_n C dX6_added2_14 rfl rfl ?_
        refine j_bipush (v := (45 : Int32)) C dX6_added2_15 (by decide) ?_
        refine j_callV_i (st := []) C dX6_added2_17 (ct_X6_isSign (kγ κ) E M L (45 : Int32) h0) mi_X6_isSign tw_1059 FC6 (MAt.S h0) rfl rfl (Nat.le_of_ble_eq_true rfl) ⟨⟨rfl, rfl⟩, ⟨Nat.le_of_ble_eq_true rfl, Nat.le_of_ble_eq_true rfl⟩, ⟨Nat.zero_le _, Nat.zero_le _⟩⟩ (fun v17 => ?_)
        refine j_if_eq (tgt := 66) C dX6_added2_20 (by decide) ?_ ?_
        · refine j_iload_n C dX6_added2_66 rfl rfl ?_
          exact j_iretw C dX6_added2_67
        · exact k23 (F_X6_added2_k5  n) ih M L x1
  unfold F_X6_added2
  refine j_aload_n C dX6_added2_0 rfl rfl ?_
  refine j_callV_iw (st := []) C dX6_added2_1 (ct_X6_term2 (kγ κ) E M L h0) mi_X6_term2 tw_1113 FC6 (MAt.S h0) rfl rfl (Nat.le_of_ble_eq_true rfl) ⟨⟨rfl, rfl⟩, ⟨Nat.le_of_ble_eq_true rfl, Nat.le_of_ble_eq_true rfl⟩, ⟨Nat.zero_le _, Nat.zero_le _⟩⟩ (fun r1 => ?_)
  refine j_istore_n (i := 1) (lv' := [some (.ref (E.2.1 0)), some (.int r1.1), none, none]) C dX6_added2_4 rfl (hn 1 (by decide)) rfl ?_
  exact k5 FU r1.2.1 r1.2.2 r1.1
set_option maxRecDepth 100000 in
set_option maxHeartbeats 4000000 in
theorem ct_X6_not2 (γ : Gm) (E : Ev) (M : Mi) (L : Ml)   (h0 : MAt E) : Ct γ yX6_not2 cX6_not2 4 (some .int) ⟨25, 0, 0, 552⟩ [.ref (E.2.1 0)] E M L (Q_iw γ E) 0 0 (F_X6_not2 M L) := by
  refine ct_of (own := RX6) (lv := [some (.ref (E.2.1 0)), none, none, none]) (by decide +kernel) rfl rfl (Nat.le_of_ble_eq_true rfl) (fun κ C hγ hN => ?_)
  subst hγ
  have hn : ∀ i, i < 4 → i < knL κ := fun i h => by rw [hN]; exact h
  have k120 : ∀ (M : Mi) (L : Ml), JF κ (PQ κ (Q_iw (kγ κ) E) 0 0) 120 [none, none, none, none] [] E M L 0 0 (F_X6_not2_k120  M L) := by
    intro M L
    unfold F_X6_not2_k120
    refine j_iconst (v := (1 : Int32)) C dX6_not2_120 rfl ?_
    refine j_goto (tgt := 125) C dX6_not2_121 (by decide) ?_
    exact j_iretw C dX6_not2_125
  have k93 : ∀ (M : Mi) (L : Ml) (x1 : Int32) (s0 : Int32), JF κ (PQ κ (Q_iw (kγ κ) E) 0 0) 93 [some (.ref (E.2.1 0)), some (.int x1), none, none] [.int s0] E M L 0 0 (F_X6_not2_k93  M L x1 s0) := by
    intro M L x1 s0
    unfold F_X6_not2_k93
    refine j_istore_n (i := 2) (lv' := [some (.ref (E.2.1 0)), some (.int x1), some (.int s0), none]) C dX6_not2_93 rfl (hn 2 (by decide)) rfl ?_
    refine j_aload_n C dX6_not2_94 rfl rfl ?_
    refine j_callV_vw (st := []) C dX6_not2_95 (ct_X6_next (kγ κ) E M L h0) mi_X6_next tw_982 FC6 (MAt.S h0) rfl rfl (Nat.le_of_ble_eq_true rfl) ⟨⟨rfl, rfl⟩, ⟨Nat.le_of_ble_eq_true rfl, Nat.le_of_ble_eq_true rfl⟩, ⟨Nat.zero_le _, Nat.zero_le _⟩⟩ (fun r95 => ?_)
    refine j_aload_n C dX6_not2_98 rfl rfl ?_
    refine j_callV_iw (st := []) C dX6_not2_99 (ct_X6_added2 (kγ κ) E r95.1 r95.2 h0) mi_X6_added2 tw_1109 FC6 (MAt.S h0) rfl rfl (Nat.le_of_ble_eq_true rfl) ⟨⟨rfl, rfl⟩, ⟨Nat.le_of_ble_eq_true rfl, Nat.le_of_ble_eq_true rfl⟩, ⟨Nat.zero_le _, Nat.zero_le _⟩⟩ (fun r99 => ?_)
    refine j_istore_n (i := 3) (lv' := [some (.ref (E.2.1 0)), some (.int x1), some (.int s0), some (.int r99.1)]) C dX6_not2_102 rfl (hn 3 (by decide)) rfl ?_
    refine j_iload_n C dX6_not2_103 rfl rfl ?_
    refine j_pc (pc2 := 104) rfl ?_
    refine j_if_eq (tgt := 115) C dX6_not2_104 (by decide) ?_ ?_
    · refine j_iload_n C dX6_not2_115 rfl rfl ?_
      refine j_iload_n C dX6_not2_116 rfl rfl ?_
      refine j_icmp_ne (tgt := 124) C dX6_not2_117 (by decide) ?_ ?_
      · refine j_iconst (v := (0 : Int32)) C dX6_not2_124 rfl ?_
        exact j_iretw C dX6_not2_125
      · refine j_mask [false, false, false, false] (lv' := [none, none, none, none]) rfl ?_
        exact k120 r99.2.1 r99.2.2
    · refine j_iload_n C dX6_not2_107 rfl rfl ?_
      refine j_iload_n C dX6_not2_108 rfl rfl ?_
      refine j_icmp_ge (tgt := 124) C dX6_not2_109 (by decide) ?_ ?_
      · refine j_iconst (v := (0 : Int32)) C dX6_not2_124 rfl ?_
        exact j_iretw C dX6_not2_125
      · refine j_goto (tgt := 120) C dX6_not2_112 (by decide) ?_
        refine j_mask [false, false, false, false] (lv' := [none, none, none, none]) rfl ?_
        exact k120 r99.2.1 r99.2.2
  have k77 : ∀ (M : Mi) (L : Ml) (x1 : Int32), JF κ (PQ κ (Q_iw (kγ κ) E) 0 0) 77 [some (.ref (E.2.1 0)), some (.int x1), none, none] [] E M L 0 0 (F_X6_not2_k77  M L x1) := by
    intro M L x1
    unfold F_X6_not2_k77
    refine j_aload_n C dX6_not2_77 rfl rfl ?_
    refine j_getL (j := 24) C dX6_not2_78 FC6 (MAt.S h0) (by decide) rfl tw_827 ?_
    refine j_ldc2 (v := (60 : Int64)) C dX6_not2_81 tw_1068 ?_
    refine j_lcmp C dX6_not2_84 ?_
    refine j_if_ne (tgt := 92) C dX6_not2_85 (by decide) ?_ ?_
    · refine j_iconst (v := (0 : Int32)) C dX6_not2_92 rfl ?_
      exact k93 M L x1 ((0 : Int32))
    · refine j_iconst (v := (1 : Int32)) C dX6_not2_88 rfl ?_
      refine j_goto (tgt := 93) C dX6_not2_89 (by decide) ?_
      exact k93 M L x1 ((1 : Int32))
  unfold F_X6_not2
  refine j_aload_n C dX6_not2_0 rfl rfl ?_
  refine j_bipush (v := (110 : Int32)) C dX6_not2_1 (by decide) ?_
  refine j_bipush (v := (111 : Int32)) C dX6_not2_3 (by decide) ?_
  refine j_bipush (v := (116 : Int32)) C dX6_not2_5 (by decide) ?_
  refine j_iconst (v := (0 : Int32)) C dX6_not2_7 rfl ?_
  refine j_iconst (v := (0 : Int32)) C dX6_not2_8 rfl ?_
  refine j_iconst (v := (0 : Int32)) C dX6_not2_9 rfl ?_
  refine j_pc (pc2 := 10) rfl ?_
  refine j_iconst (v := (0 : Int32)) C dX6_not2_10 rfl ?_
  refine j_iconst (v := (0 : Int32)) C dX6_not2_11 rfl ?_
  refine j_callV_i (st := []) C dX6_not2_12 (ct_X6_isWord (kγ κ) E M L (110 : Int32) (111 : Int32) (116 : Int32) (0 : Int32) (0 : Int32) (0 : Int32) (0 : Int32) (0 : Int32) h0) mi_X6_isWord tw_995 FC6 (MAt.S h0) rfl rfl (Nat.le_of_ble_eq_true rfl) ⟨⟨rfl, rfl⟩, ⟨Nat.le_of_ble_eq_true rfl, Nat.le_of_ble_eq_true rfl⟩, ⟨Nat.zero_le _, Nat.zero_le _⟩⟩ (fun v12 => ?_)
  refine j_if_eq (tgt := 52) C dX6_not2_15 (by decide) ?_ ?_
  · refine j_aload_n C dX6_not2_52 rfl rfl ?_
    refine j_callV_iw (st := []) C dX6_not2_53 (ct_X6_added2 (kγ κ) E M L h0) mi_X6_added2 tw_1109 FC6 (MAt.S h0) rfl rfl (Nat.le_of_ble_eq_true rfl) ⟨⟨rfl, rfl⟩, ⟨Nat.le_of_ble_eq_true rfl, Nat.le_of_ble_eq_true rfl⟩, ⟨Nat.zero_le _, Nat.zero_le _⟩⟩ (fun r53 => ?_)
    refine j_istore_n (i := 1) (lv' := [some (.ref (E.2.1 0)), some (.int r53.1), none, none]) C dX6_not2_56 rfl (hn 1 (by decide)) rfl ?_
    refine j_aload_n C dX6_not2_57 rfl rfl ?_
    refine j_bipush (v := (60 : Int32)) C dX6_not2_58 (by decide) ?_
    refine j_callV_i (st := []) C dX6_not2_60 (ct_X6_isSign (kγ κ) E r53.2.1 r53.2.2 (60 : Int32) h0) mi_X6_isSign tw_1059 FC6 (MAt.S h0) rfl rfl (Nat.le_of_ble_eq_true rfl) ⟨⟨rfl, rfl⟩, ⟨Nat.le_of_ble_eq_true rfl, Nat.le_of_ble_eq_true rfl⟩, ⟨Nat.zero_le _, Nat.zero_le _⟩⟩ (fun v60 => ?_)
    refine j_if_ne (tgt := 77) C dX6_not2_63 (by decide) ?_ ?_
    · exact k77 r53.2.1 r53.2.2 r53.1
    · refine j_aload_n C dX6_not2_66 rfl rfl ?_
      refine j_bipush (v := (61 : Int32)) C dX6_not2_67 (by decide) ?_
      refine j_callV_i (st := []) C dX6_not2_69 (ct_X6_isSign (kγ κ) E r53.2.1 r53.2.2 (61 : Int32) h0) mi_X6_isSign tw_1059 FC6 (MAt.S h0) rfl rfl (Nat.le_of_ble_eq_true rfl) ⟨⟨rfl, rfl⟩, ⟨Nat.le_of_ble_eq_true rfl, Nat.le_of_ble_eq_true rfl⟩, ⟨Nat.zero_le _, Nat.zero_le _⟩⟩ (fun v69 => ?_)
      refine j_if_ne (tgt := 77) C dX6_not2_72 (by decide) ?_ ?_
      · exact k77 r53.2.1 r53.2.2 r53.1
      · refine j_iload_n C dX6_not2_75 rfl rfl ?_
        exact j_iretw C dX6_not2_76
  · refine j_aload_n C dX6_not2_18 rfl rfl ?_
    refine j_callV_iw (st := []) C dX6_not2_19 (ct_X6_opens (kγ κ) E M L h0) mi_X6_opens tw_1023 FC6 (MAt.S h0) rfl rfl (Nat.le_of_ble_eq_true rfl) ⟨⟨rfl, rfl⟩, ⟨Nat.le_of_ble_eq_true rfl, Nat.le_of_ble_eq_true rfl⟩, ⟨Nat.zero_le _, Nat.zero_le _⟩⟩ (fun r19 => ?_)
    refine j_if_ne (tgt := 27) C dX6_not2_22 (by decide) ?_ ?_
    · refine j_aload_n C dX6_not2_27 rfl rfl ?_
      refine j_callV_iw (st := []) C dX6_not2_28 (ct_X6_not3 (kγ κ) E r19.2.1 r19.2.2 h0) mi_X6_not3 tw_1035 FC6 (MAt.S h0) rfl rfl (Nat.le_of_ble_eq_true rfl) ⟨⟨rfl, rfl⟩, ⟨Nat.le_of_ble_eq_true rfl, Nat.le_of_ble_eq_true rfl⟩, ⟨Nat.zero_le _, Nat.zero_le _⟩⟩ (fun r28 => ?_)
      refine j_istore_n (i := 1) (lv' := [some (.ref (E.2.1 0)), some (.int r28.1), none, none]) C dX6_not2_31 rfl (hn 1 (by decide)) rfl ?_
      refine j_aload_n C dX6_not2_32 rfl rfl ?_
      refine j_dup C dX6_not2_33 rfl ?_
      refine j_getI (j := 25) C dX6_not2_34 FC6 (MAt.S h0) (by decide) rfl tw_828 ?_
      refine j_iconst (v := (1 : Int32)) C dX6_not2_37 rfl ?_
      refine j_pc (pc2 := 38) rfl ?_
      refine j_isub C dX6_not2_38 ?_
      refine j_putI (j := 25) C dX6_not2_39 FC6 (MAt.S h0) (by decide) rfl rfl rfl rfl tw_828 ?_
      refine j_iload_n C dX6_not2_42 rfl rfl ?_
      refine j_if_ne (tgt := 50) C dX6_not2_43 (by decide) ?_ ?_
      · refine j_iconst (v := (0 : Int32)) C dX6_not2_50 rfl ?_
        exact j_iretw C dX6_not2_51
      · refine j_iconst (v := (1 : Int32)) C dX6_not2_46 rfl ?_
        refine j_goto (tgt := 51) C dX6_not2_47 (by decide) ?_
        exact j_iretw C dX6_not2_51
    · refine j_iconst (v := (0 : Int32)) C dX6_not2_25 rfl ?_
      exact j_iretw C dX6_not2_26
set_option maxRecDepth 100000 in
set_option maxHeartbeats 4000000 in
theorem ct_X6_both2 (γ : Gm) (E : Ev) (M : Mi) (L : Ml)   (h0 : MAt E) : Ct γ yX6_both2 cX6_both2 3 (some .int) ⟨26, 0, 0, 575⟩ [.ref (E.2.1 0)] E M L (Q_iw γ E) 0 0 (F_X6_both2 M L) := by
  refine ct_of (own := RX6) (lv := [some (.ref (E.2.1 0)), none, none]) (by decide +kernel) rfl rfl (Nat.le_of_ble_eq_true rfl) (fun κ C hγ hN => ?_)
  subst hγ
  have hn : ∀ i, i < 3 → i < knL κ := fun i h => by rw [hN]; exact h
  have k45 : ∀ (kf5 : Mi → Ml → Int32 → Option (Int32 × Mi × Ml)), (∀ (M : Mi) (L : Ml) (x1 : Int32), JF κ (PQ κ (Q_iw (kγ κ) E) 0 0) 5 [some (.ref (E.2.1 0)), some (.int x1), none] [] E M L 0 0 (kf5 M L x1)) → ∀ (M : Mi) (L : Ml) (s0 : Int32), JF κ (PQ κ (Q_iw (kγ κ) E) 0 0) 45 [some (.ref (E.2.1 0)), none, none] [.int s0] E M L 0 0 (F_X6_both2_k45 kf5 M L s0) := by
    intro kf5 hkf5 M L s0
    unfold F_X6_both2_k45
    refine j_istore_n (i := 1) (lv' := [some (.ref (E.2.1 0)), some (.int s0), none]) C dX6_both2_45 rfl (hn 1 (by decide)) rfl ?_
    refine j_goto (tgt := 5) C dX6_both2_46 (by decide) ?_
    exact hkf5 M L s0
  have k44 : ∀ (kf5 : Mi → Ml → Int32 → Option (Int32 × Mi × Ml)), (∀ (M : Mi) (L : Ml) (x1 : Int32), JF κ (PQ κ (Q_iw (kγ κ) E) 0 0) 5 [some (.ref (E.2.1 0)), some (.int x1), none] [] E M L 0 0 (kf5 M L x1)) → ∀ (M : Mi) (L : Ml), JF κ (PQ κ (Q_iw (kγ κ) E) 0 0) 44 [some (.ref (E.2.1 0)), none, none] [] E M L 0 0 (F_X6_both2_k44 kf5 M L) := by
    intro kf5 hkf5 M L
    unfold F_X6_both2_k44
    refine j_iconst (v := (0 : Int32)) C dX6_both2_44 rfl ?_
    exact k45 kf5 hkf5 M L ((0 : Int32))
  have k5 : ∀ (n : Nat) (M : Mi) (L : Ml) (x1 : Int32), JF κ (PQ κ (Q_iw (kγ κ) E) 0 0) 5 [some (.ref (E.2.1 0)), some (.int x1), none] [] E M L 0 0 (F_X6_both2_k5  n M L x1) := by
    intro n
    induction n with
    | zero => intros; exact jf_none
    | succ n ih =>
      intro M L x1
      unfold F_X6_both2_k5
      refine j_aload_n C dX6_both2_5 rfl rfl ?_
      refine j_bipush (v := (97 : Int32)) C dX6_both2_6 (by decide) ?_
      refine j_bipush (v := (110 : Int32)) C dX6_both2_8 (by decide) ?_
      refine j_bipush (v := (100 : Int32)) C dX6_both2_10 (by decide) ?_
      refine j_iconst (v := (0 : Int32)) C dX6_both2_12 rfl ?_
      refine j_iconst (v := (0 : Int32)) C dX6_both2_13 rfl ?_
      refine j_iconst (v := (0 : Int32)) C dX6_both2_14 rfl ?_
      refine j_pc (pc2 := 15) rfl ?_
      refine j_iconst (v := (0 : Int32)) C dX6_both2_15 rfl ?_
      refine j_iconst (v := (0 : Int32)) C dX6_both2_16 rfl ?_
      refine j_callV_i (st := []) C dX6_both2_17 (ct_X6_isWord (kγ κ) E M L (97 : Int32) (110 : Int32) (100 : Int32) (0 : Int32) (0 : Int32) (0 : Int32) (0 : Int32) (0 : Int32) h0) mi_X6_isWord tw_995 FC6 (MAt.S h0) rfl rfl (Nat.le_of_ble_eq_true rfl) ⟨⟨rfl, rfl⟩, ⟨Nat.le_of_ble_eq_true rfl, Nat.le_of_ble_eq_true rfl⟩, ⟨Nat.zero_le _, Nat.zero_le _⟩⟩ (fun v17 => ?_)
      refine j_if_eq (tgt := 49) C dX6_both2_20 (by decide) ?_ ?_
      · refine j_iload_n C dX6_both2_49 rfl rfl ?_
        exact j_iretw C dX6_both2_50
      · refine j_aload_n C dX6_both2_23 rfl rfl ?_
        refine j_callV_vw (st := []) C dX6_both2_24 (ct_X6_next (kγ κ) E M L h0) mi_X6_next tw_982 FC6 (MAt.S h0) rfl rfl (Nat.le_of_ble_eq_true rfl) ⟨⟨rfl, rfl⟩, ⟨Nat.le_of_ble_eq_true rfl, Nat.le_of_ble_eq_true rfl⟩, ⟨Nat.zero_le _, Nat.zero_le _⟩⟩ (fun r24 => ?_)
        refine j_aload_n C dX6_both2_27 rfl rfl ?_
        refine j_callV_iw (st := []) C dX6_both2_28 (ct_X6_not2 (kγ κ) E r24.1 r24.2 h0) mi_X6_not2 tw_1031 FC6 (MAt.S h0) rfl rfl (Nat.le_of_ble_eq_true rfl) ⟨⟨rfl, rfl⟩, ⟨Nat.le_of_ble_eq_true rfl, Nat.le_of_ble_eq_true rfl⟩, ⟨Nat.zero_le _, Nat.zero_le _⟩⟩ (fun r28 => ?_)
        refine j_istore_n (i := 2) (lv' := [some (.ref (E.2.1 0)), some (.int x1), some (.int r28.1)]) C dX6_both2_31 rfl (hn 2 (by decide)) rfl ?_
        refine j_iload_n C dX6_both2_32 rfl rfl ?_
        refine j_if_eq (tgt := 44) C dX6_both2_33 (by decide) ?_ ?_
        · refine j_mask [true, false, false] (lv' := [some (.ref (E.2.1 0)), none, none]) rfl ?_
          exact k44 (F_X6_both2_k5  n) ih r28.2.1 r28.2.2
        · refine j_iload_n C dX6_both2_36 rfl rfl ?_
          refine j_if_eq (tgt := 44) C dX6_both2_37 (by decide) ?_ ?_
          · refine j_mask [true, false, false] (lv' := [some (.ref (E.2.1 0)), none, none]) rfl ?_
            exact k44 (F_X6_both2_k5  n) ih r28.2.1 r28.2.2
          · refine j_iconst (v := (1 : Int32)) C dX6_both2_40 rfl ?_
            refine j_goto (tgt := 45) C dX6_both2_41 (by decide) ?_
            refine j_mask [true, false, false] (lv' := [some (.ref (E.2.1 0)), none, none]) rfl ?_
            exact k45 (F_X6_both2_k5  n) ih r28.2.1 r28.2.2 ((1 : Int32))
  unfold F_X6_both2
  refine j_aload_n C dX6_both2_0 rfl rfl ?_
  refine j_callV_iw (st := []) C dX6_both2_1 (ct_X6_not2 (kγ κ) E M L h0) mi_X6_not2 tw_1031 FC6 (MAt.S h0) rfl rfl (Nat.le_of_ble_eq_true rfl) ⟨⟨rfl, rfl⟩, ⟨Nat.le_of_ble_eq_true rfl, Nat.le_of_ble_eq_true rfl⟩, ⟨Nat.zero_le _, Nat.zero_le _⟩⟩ (fun r1 => ?_)
  refine j_istore_n (i := 1) (lv' := [some (.ref (E.2.1 0)), some (.int r1.1), none]) C dX6_both2_4 rfl (hn 1 (by decide)) rfl ?_
  exact k5 FU r1.2.1 r1.2.2 r1.1
set_option maxRecDepth 100000 in
set_option maxHeartbeats 4000000 in
theorem ct_X6_either2 (γ : Gm) (E : Ev) (M : Mi) (L : Ml)   (h0 : MAt E) : Ct γ yX6_either2 cX6_either2 3 (some .int) ⟨27, 0, 0, 597⟩ [.ref (E.2.1 0)] E M L (Q_iw γ E) 0 0 (F_X6_either2 M L) := by
  refine ct_of (own := RX6) (lv := [some (.ref (E.2.1 0)), none, none]) (by decide +kernel) rfl rfl (Nat.le_of_ble_eq_true rfl) (fun κ C hγ hN => ?_)
  subst hγ
  have hn : ∀ i, i < 3 → i < knL κ := fun i h => by rw [hN]; exact h
  have k44 : ∀ (kf5 : Mi → Ml → Int32 → Option (Int32 × Mi × Ml)), (∀ (M : Mi) (L : Ml) (x1 : Int32), JF κ (PQ κ (Q_iw (kγ κ) E) 0 0) 5 [some (.ref (E.2.1 0)), some (.int x1), none] [] E M L 0 0 (kf5 M L x1)) → ∀ (M : Mi) (L : Ml) (s0 : Int32), JF κ (PQ κ (Q_iw (kγ κ) E) 0 0) 44 [some (.ref (E.2.1 0)), none, none] [.int s0] E M L 0 0 (F_X6_either2_k44 kf5 M L s0) := by
    intro kf5 hkf5 M L s0
    unfold F_X6_either2_k44
    refine j_istore_n (i := 1) (lv' := [some (.ref (E.2.1 0)), some (.int s0), none]) C dX6_either2_44 rfl (hn 1 (by decide)) rfl ?_
    refine j_goto (tgt := 5) C dX6_either2_45 (by decide) ?_
    exact hkf5 M L s0
  have k39 : ∀ (kf5 : Mi → Ml → Int32 → Option (Int32 × Mi × Ml)), (∀ (M : Mi) (L : Ml) (x1 : Int32), JF κ (PQ κ (Q_iw (kγ κ) E) 0 0) 5 [some (.ref (E.2.1 0)), some (.int x1), none] [] E M L 0 0 (kf5 M L x1)) → ∀ (M : Mi) (L : Ml), JF κ (PQ κ (Q_iw (kγ κ) E) 0 0) 39 [some (.ref (E.2.1 0)), none, none] [] E M L 0 0 (F_X6_either2_k39 kf5 M L) := by
    intro kf5 hkf5 M L
    unfold F_X6_either2_k39
    refine j_iconst (v := (1 : Int32)) C dX6_either2_39 rfl ?_
    refine j_goto (tgt := 44) C dX6_either2_40 (by decide) ?_
    exact k44 kf5 hkf5 M L ((1 : Int32))
  have k5 : ∀ (n : Nat) (M : Mi) (L : Ml) (x1 : Int32), JF κ (PQ κ (Q_iw (kγ κ) E) 0 0) 5 [some (.ref (E.2.1 0)), some (.int x1), none] [] E M L 0 0 (F_X6_either2_k5  n M L x1) := by
    intro n
    induction n with
    | zero => intros; exact jf_none
    | succ n ih =>
      intro M L x1
      unfold F_X6_either2_k5
      refine j_aload_n C dX6_either2_5 rfl rfl ?_
      refine j_bipush (v := (111 : Int32)) C dX6_either2_6 (by decide) ?_
      refine j_bipush (v := (114 : Int32)) C dX6_either2_8 (by decide) ?_
      refine j_iconst (v := (0 : Int32)) C dX6_either2_10 rfl ?_
      refine j_iconst (v := (0 : Int32)) C dX6_either2_11 rfl ?_
      refine j_iconst (v := (0 : Int32)) C dX6_either2_12 rfl ?_
      refine j_iconst (v := (0 : Int32)) C dX6_either2_13 rfl ?_
      refine j_pc (pc2 := 14) rfl ?_
      refine j_iconst (v := (0 : Int32)) C dX6_either2_14 rfl ?_
      refine j_iconst (v := (0 : Int32)) C dX6_either2_15 rfl ?_
      refine j_callV_i (st := []) C dX6_either2_16 (ct_X6_isWord (kγ κ) E M L (111 : Int32) (114 : Int32) (0 : Int32) (0 : Int32) (0 : Int32) (0 : Int32) (0 : Int32) (0 : Int32) h0) mi_X6_isWord tw_995 FC6 (MAt.S h0) rfl rfl (Nat.le_of_ble_eq_true rfl) ⟨⟨rfl, rfl⟩, ⟨Nat.le_of_ble_eq_true rfl, Nat.le_of_ble_eq_true rfl⟩, ⟨Nat.zero_le _, Nat.zero_le _⟩⟩ (fun v16 => ?_)
      refine j_if_eq (tgt := 48) C dX6_either2_19 (by decide) ?_ ?_
      · refine j_iload_n C dX6_either2_48 rfl rfl ?_
        exact j_iretw C dX6_either2_49
      · refine j_aload_n C dX6_either2_22 rfl rfl ?_
        refine j_callV_vw (st := []) C dX6_either2_23 (ct_X6_next (kγ κ) E M L h0) mi_X6_next tw_982 FC6 (MAt.S h0) rfl rfl (Nat.le_of_ble_eq_true rfl) ⟨⟨rfl, rfl⟩, ⟨Nat.le_of_ble_eq_true rfl, Nat.le_of_ble_eq_true rfl⟩, ⟨Nat.zero_le _, Nat.zero_le _⟩⟩ (fun r23 => ?_)
        refine j_aload_n C dX6_either2_26 rfl rfl ?_
        refine j_callV_iw (st := []) C dX6_either2_27 (ct_X6_both2 (kγ κ) E r23.1 r23.2 h0) mi_X6_both2 tw_1145 FC6 (MAt.S h0) rfl rfl (Nat.le_of_ble_eq_true rfl) ⟨⟨rfl, rfl⟩, ⟨Nat.le_of_ble_eq_true rfl, Nat.le_of_ble_eq_true rfl⟩, ⟨Nat.zero_le _, Nat.zero_le _⟩⟩ (fun r27 => ?_)
        refine j_istore_n (i := 2) (lv' := [some (.ref (E.2.1 0)), some (.int x1), some (.int r27.1)]) C dX6_either2_30 rfl (hn 2 (by decide)) rfl ?_
        refine j_iload_n C dX6_either2_31 rfl rfl ?_
        refine j_if_ne (tgt := 39) C dX6_either2_32 (by decide) ?_ ?_
        · refine j_mask [true, false, false] (lv' := [some (.ref (E.2.1 0)), none, none]) rfl ?_
          exact k39 (F_X6_either2_k5  n) ih r27.2.1 r27.2.2
        · refine j_iload_n C dX6_either2_35 rfl rfl ?_
          refine j_if_eq (tgt := 43) C dX6_either2_36 (by decide) ?_ ?_
          · refine j_iconst (v := (0 : Int32)) C dX6_either2_43 rfl ?_
            refine j_mask [true, false, false] (lv' := [some (.ref (E.2.1 0)), none, none]) rfl ?_
            exact k44 (F_X6_either2_k5  n) ih r27.2.1 r27.2.2 ((0 : Int32))
          · refine j_mask [true, false, false] (lv' := [some (.ref (E.2.1 0)), none, none]) rfl ?_
            exact k39 (F_X6_either2_k5  n) ih r27.2.1 r27.2.2
  unfold F_X6_either2
  refine j_aload_n C dX6_either2_0 rfl rfl ?_
  refine j_callV_iw (st := []) C dX6_either2_1 (ct_X6_both2 (kγ κ) E M L h0) mi_X6_both2 tw_1145 FC6 (MAt.S h0) rfl rfl (Nat.le_of_ble_eq_true rfl) ⟨⟨rfl, rfl⟩, ⟨Nat.le_of_ble_eq_true rfl, Nat.le_of_ble_eq_true rfl⟩, ⟨Nat.zero_le _, Nat.zero_le _⟩⟩ (fun r1 => ?_)
  refine j_istore_n (i := 1) (lv' := [some (.ref (E.2.1 0)), some (.int r1.1), none]) C dX6_either2_4 rfl (hn 1 (by decide)) rfl ?_
  exact k5 FU r1.2.1 r1.2.2 r1.1
set_option maxRecDepth 100000 in
set_option maxHeartbeats 4000000 in
theorem ct_X6_atom1 (γ : Gm) (E : Ev) (M : Mi) (L : Ml)   (h0 : MAt E) : Ct γ yX6_atom1 cX6_atom1 2 (some .int) ⟨28, 0, 0, 619⟩ [.ref (E.2.1 0)] E M L (Q_iw γ E) 0 0 (F_X6_atom1 M L) := by
  refine ct_of (own := RX6) (lv := [some (.ref (E.2.1 0)), none]) (by decide +kernel) rfl rfl (Nat.le_of_ble_eq_true rfl) (fun κ C hγ hN => ?_)
  subst hγ
  have hn : ∀ i, i < 2 → i < knL κ := fun i h => by rw [hN]; exact h
  have k157 : ∀ (M : Mi) (L : Ml) (x1 : Int32), JF κ (PQ κ (Q_iw (kγ κ) E) 0 0) 157 [some (.ref (E.2.1 0)), some (.int x1)] [] E M L 0 0 (F_X6_atom1_k157  M L x1) := by
    intro M L x1
    unfold F_X6_atom1_k157
    refine j_aload_n C dX6_atom1_157 rfl rfl ?_
    refine j_callV_vw (st := []) C dX6_atom1_158 (ct_X6_fail (kγ κ) E M L h0) mi_X6_fail tw_1007 FC6 (MAt.S h0) rfl rfl (Nat.le_of_ble_eq_true rfl) ⟨⟨rfl, rfl⟩, ⟨Nat.le_of_ble_eq_true rfl, Nat.le_of_ble_eq_true rfl⟩, ⟨Nat.zero_le _, Nat.zero_le _⟩⟩ (fun r158 => ?_)
    refine j_iload_n C dX6_atom1_161 rfl rfl ?_
    exact j_iretw C dX6_atom1_162
  have k123 : ∀ (M : Mi) (L : Ml) (x1 : Int32), JF κ (PQ κ (Q_iw (kγ κ) E) 0 0) 123 [some (.ref (E.2.1 0)), some (.int x1)] [] E M L 0 0 (F_X6_atom1_k123  M L x1) := by
    intro M L x1
    unfold F_X6_atom1_k123
    refine j_aload_n C dX6_atom1_123 rfl rfl ?_
    refine j_getI (j := 26) C dX6_atom1_124 FC6 (MAt.S h0) (by decide) rfl tw_829 ?_
    refine j_if_ne (tgt := 157) C dX6_atom1_127 (by decide) ?_ ?_
    · exact k157 M L x1
    · refine j_aload_n C dX6_atom1_130 rfl rfl ?_
      refine j_getI (j := 22) C dX6_atom1_131 FC6 (MAt.S h0) (by decide) rfl tw_825 ?_
      refine j_iconst (v := (1 : Int32)) C dX6_atom1_134 rfl ?_
      refine j_icmp_ne (tgt := 157) C dX6_atom1_135 (by decide) ?_ ?_
      · exact k157 M L x1
      · refine j_aload_n C dX6_atom1_138 rfl rfl ?_
        refine j_callV_iw (st := []) C dX6_atom1_139 (ct_X6_name (kγ κ) E M L h0) mi_X6_name tw_1063 FC6 (MAt.S h0) rfl rfl (Nat.le_of_ble_eq_true rfl) ⟨⟨rfl, rfl⟩, ⟨Nat.le_of_ble_eq_true rfl, Nat.le_of_ble_eq_true rfl⟩, ⟨Nat.zero_le _, Nat.zero_le _⟩⟩ (fun r139 => ?_)
        refine j_istore_n (i := 1) (lv' := [some (.ref (E.2.1 0)), some (.int r139.1)]) C dX6_atom1_142 rfl (hn 1 (by decide)) rfl ?_
        refine j_aload_n C dX6_atom1_143 rfl rfl ?_
        refine j_getI (j := 26) C dX6_atom1_144 FC6 (MAt.S h0) (by decide) rfl tw_829 ?_
        refine j_if_ne (tgt := 161) C dX6_atom1_147 (by decide) ?_ ?_
        · refine j_iload_n C dX6_atom1_161 rfl rfl ?_
          exact j_iretw C dX6_atom1_162
        · refine j_aload_n C dX6_atom1_150 rfl rfl ?_
          refine j_callV_vw (st := []) C dX6_atom1_151 (ct_X6_next (kγ κ) E r139.2.1 r139.2.2 h0) mi_X6_next tw_982 FC6 (MAt.S h0) rfl rfl (Nat.le_of_ble_eq_true rfl) ⟨⟨rfl, rfl⟩, ⟨Nat.le_of_ble_eq_true rfl, Nat.le_of_ble_eq_true rfl⟩, ⟨Nat.zero_le _, Nat.zero_le _⟩⟩ (fun r151 => ?_)
          refine j_goto (tgt := 161) C dX6_atom1_154 (by decide) ?_
          refine j_iload_n C dX6_atom1_161 rfl rfl ?_
          exact j_iretw C dX6_atom1_162
  have k71 : ∀ (M : Mi) (L : Ml) (x1 : Int32), JF κ (PQ κ (Q_iw (kγ κ) E) 0 0) 71 [some (.ref (E.2.1 0)), some (.int x1)] [] E M L 0 0 (F_X6_atom1_k71  M L x1) := by
    intro M L x1
    unfold F_X6_atom1_k71
    refine j_aload_n C dX6_atom1_71 rfl rfl ?_
    refine j_dup C dX6_atom1_72 rfl ?_
    refine j_getI (j := 25) C dX6_atom1_73 FC6 (MAt.S h0) (by decide) rfl tw_828 ?_
    refine j_iconst (v := (1 : Int32)) C dX6_atom1_76 rfl ?_
    refine j_isub C dX6_atom1_77 ?_
    refine j_putI (j := 25) C dX6_atom1_78 FC6 (MAt.S h0) (by decide) rfl rfl rfl rfl tw_828 ?_
    refine j_aload_n C dX6_atom1_81 rfl rfl ?_
    refine j_pc (pc2 := 82) rfl ?_
    refine j_getI (j := 26) C dX6_atom1_82 FC6 (MAt.S h0) (by decide) rfl tw_829 ?_
    refine j_if_ne (tgt := 161) C dX6_atom1_85 (by decide) ?_ ?_
    · refine j_iload_n C dX6_atom1_161 rfl rfl ?_
      exact j_iretw C dX6_atom1_162
    · refine j_aload_n C dX6_atom1_88 rfl rfl ?_
      refine j_callV_vw (st := []) C dX6_atom1_89 (ct_X6_next (kγ κ) E (up2 M 0 25 ((M 0 25) - (1 : Int32))) L h0) mi_X6_next tw_982 FC6 (MAt.S h0) rfl rfl (Nat.le_of_ble_eq_true rfl) ⟨⟨rfl, rfl⟩, ⟨Nat.le_of_ble_eq_true rfl, Nat.le_of_ble_eq_true rfl⟩, ⟨Nat.zero_le _, Nat.zero_le _⟩⟩ (fun r89 => ?_)
      refine j_goto (tgt := 161) C dX6_atom1_92 (by decide) ?_
      refine j_iload_n C dX6_atom1_161 rfl rfl ?_
      exact j_iretw C dX6_atom1_162
  unfold F_X6_atom1
  refine j_iconst (v := (0 : Int32)) C dX6_atom1_0 rfl ?_
  refine j_istore_n (i := 1) (lv' := [some (.ref (E.2.1 0)), some (.int (0 : Int32))]) C dX6_atom1_1 rfl (hn 1 (by decide)) rfl ?_
  refine j_aload_n C dX6_atom1_2 rfl rfl ?_
  refine j_bipush (v := (45 : Int32)) C dX6_atom1_3 (by decide) ?_
  refine j_callV_i (st := []) C dX6_atom1_5 (ct_X6_isSign (kγ κ) E M L (45 : Int32) h0) mi_X6_isSign tw_1059 FC6 (MAt.S h0) rfl rfl (Nat.le_of_ble_eq_true rfl) ⟨⟨rfl, rfl⟩, ⟨Nat.le_of_ble_eq_true rfl, Nat.le_of_ble_eq_true rfl⟩, ⟨Nat.zero_le _, Nat.zero_le _⟩⟩ (fun v5 => ?_)
  refine j_if_eq (tgt := 37) C dX6_atom1_8 (by decide) ?_ ?_
  · refine j_aload_n C dX6_atom1_37 rfl rfl ?_
    refine j_bipush (v := (40 : Int32)) C dX6_atom1_38 (by decide) ?_
    refine j_callV_i (st := []) C dX6_atom1_40 (ct_X6_isSign (kγ κ) E M L (40 : Int32) h0) mi_X6_isSign tw_1059 FC6 (MAt.S h0) rfl rfl (Nat.le_of_ble_eq_true rfl) ⟨⟨rfl, rfl⟩, ⟨Nat.le_of_ble_eq_true rfl, Nat.le_of_ble_eq_true rfl⟩, ⟨Nat.zero_le _, Nat.zero_le _⟩⟩ (fun v40 => ?_)
    refine j_if_eq (tgt := 95) C dX6_atom1_43 (by decide) ?_ ?_
    · refine j_aload_n C dX6_atom1_95 rfl rfl ?_
      refine j_getI (j := 26) C dX6_atom1_96 FC6 (MAt.S h0) (by decide) rfl tw_829 ?_
      refine j_if_ne (tgt := 123) C dX6_atom1_99 (by decide) ?_ ?_
      · exact k123 M L ((0 : Int32))
      · refine j_aload_n C dX6_atom1_102 rfl rfl ?_
        refine j_getI (j := 22) C dX6_atom1_103 FC6 (MAt.S h0) (by decide) rfl tw_825 ?_
        refine j_iconst (v := (2 : Int32)) C dX6_atom1_106 rfl ?_
        refine j_icmp_ne (tgt := 123) C dX6_atom1_107 (by decide) ?_ ?_
        · exact k123 M L ((0 : Int32))
        · refine j_aload_n C dX6_atom1_110 rfl rfl ?_
          refine j_getL (j := 24) C dX6_atom1_111 FC6 (MAt.S h0) (by decide) rfl tw_827 ?_
          refine j_l2i C dX6_atom1_114 ?_
          refine j_istore_n (i := 1) (lv' := [some (.ref (E.2.1 0)), some (.int (Int64.toInt32 (L 0 24)))]) C dX6_atom1_115 rfl (hn 1 (by decide)) rfl ?_
          refine j_aload_n C dX6_atom1_116 rfl rfl ?_
          refine j_callV_vw (st := []) C dX6_atom1_117 (ct_X6_next (kγ κ) E M L h0) mi_X6_next tw_982 FC6 (MAt.S h0) rfl rfl (Nat.le_of_ble_eq_true rfl) ⟨⟨rfl, rfl⟩, ⟨Nat.le_of_ble_eq_true rfl, Nat.le_of_ble_eq_true rfl⟩, ⟨Nat.zero_le _, Nat.zero_le _⟩⟩ (fun r117 => ?_)
          refine j_goto (tgt := 161) C dX6_atom1_120 (by decide) ?_
          refine j_iload_n C dX6_atom1_161 rfl rfl ?_
          exact j_iretw C dX6_atom1_162
    · refine j_aload_n C dX6_atom1_46 rfl rfl ?_
      refine j_callV_iw (st := []) C dX6_atom1_47 (ct_X6_opens (kγ κ) E M L h0) mi_X6_opens tw_1023 FC6 (MAt.S h0) rfl rfl (Nat.le_of_ble_eq_true rfl) ⟨⟨rfl, rfl⟩, ⟨Nat.le_of_ble_eq_true rfl, Nat.le_of_ble_eq_true rfl⟩, ⟨Nat.zero_le _, Nat.zero_le _⟩⟩ (fun r47 => ?_)
      refine j_if_eq (tgt := 161) C dX6_atom1_50 (by decide) ?_ ?_
      · refine j_iload_n C dX6_atom1_161 rfl rfl ?_
        exact j_iretw C dX6_atom1_162
      · refine j_aload_n C dX6_atom1_53 rfl rfl ?_
        refine j_callV_iw (st := []) C dX6_atom1_54 (ct_X6_either2 (kγ κ) E r47.2.1 r47.2.2 h0) mi_X6_either2 tw_1141 FC6 (MAt.S h0) rfl rfl (Nat.le_of_ble_eq_true rfl) ⟨⟨rfl, rfl⟩, ⟨Nat.le_of_ble_eq_true rfl, Nat.le_of_ble_eq_true rfl⟩, ⟨Nat.zero_le _, Nat.zero_le _⟩⟩ (fun r54 => ?_)
        refine j_istore_n (i := 1) (lv' := [some (.ref (E.2.1 0)), some (.int r54.1)]) C dX6_atom1_57 rfl (hn 1 (by decide)) rfl ?_
        refine j_aload_n C dX6_atom1_58 rfl rfl ?_
        refine j_bipush (v := (41 : Int32)) C dX6_atom1_59 (by decide) ?_
        refine j_callV_i (st := []) C dX6_atom1_61 (ct_X6_isSign (kγ κ) E r54.2.1 r54.2.2 (41 : Int32) h0) mi_X6_isSign tw_1059 FC6 (MAt.S h0) rfl rfl (Nat.le_of_ble_eq_true rfl) ⟨⟨rfl, rfl⟩, ⟨Nat.le_of_ble_eq_true rfl, Nat.le_of_ble_eq_true rfl⟩, ⟨Nat.zero_le _, Nat.zero_le _⟩⟩ (fun v61 => ?_)
        refine j_if_ne (tgt := 71) C dX6_atom1_64 (by decide) ?_ ?_
        · exact k71 r54.2.1 r54.2.2 r54.1
        · refine j_aload_n C dX6_atom1_67 rfl rfl ?_
          refine j_callV_vw (st := []) C dX6_atom1_68 (ct_X6_fail (kγ κ) E r54.2.1 r54.2.2 h0) mi_X6_fail tw_1007 FC6 (MAt.S h0) rfl rfl (Nat.le_of_ble_eq_true rfl) ⟨⟨rfl, rfl⟩, ⟨Nat.le_of_ble_eq_true rfl, Nat.le_of_ble_eq_true rfl⟩, ⟨Nat.zero_le _, Nat.zero_le _⟩⟩ (fun r68 => ?_)
          exact k71 r68.1 r68.2 r54.1
  · refine j_aload_n C dX6_atom1_11 rfl rfl ?_
    refine j_callV_iw (st := []) C dX6_atom1_12 (ct_X6_opens (kγ κ) E M L h0) mi_X6_opens tw_1023 FC6 (MAt.S h0) rfl rfl (Nat.le_of_ble_eq_true rfl) ⟨⟨rfl, rfl⟩, ⟨Nat.le_of_ble_eq_true rfl, Nat.le_of_ble_eq_true rfl⟩, ⟨Nat.zero_le _, Nat.zero_le _⟩⟩ (fun r12 => ?_)
    refine j_if_eq (tgt := 161) C dX6_atom1_15 (by decide) ?_ ?_
    · refine j_iload_n C dX6_atom1_161 rfl rfl ?_
      exact j_iretw C dX6_atom1_162
    · refine j_aload_n C dX6_atom1_18 rfl rfl ?_
      refine j_callV_iw (st := []) C dX6_atom1_19 (ct_X6_atom2 (kγ κ) E r12.2.1 r12.2.2 h0) mi_X6_atom2 tw_1117 FC6 (MAt.S h0) rfl rfl (Nat.le_of_ble_eq_true rfl) ⟨⟨rfl, rfl⟩, ⟨Nat.le_of_ble_eq_true rfl, Nat.le_of_ble_eq_true rfl⟩, ⟨Nat.zero_le _, Nat.zero_le _⟩⟩ (fun r19 => ?_)
      refine j_ineg C dX6_atom1_22 ?_
      refine j_istore_n (i := 1) (lv' := [some (.ref (E.2.1 0)), some (.int (-r19.1))]) C dX6_atom1_23 rfl (hn 1 (by decide)) rfl ?_
      refine j_aload_n C dX6_atom1_24 rfl rfl ?_
      refine j_dup C dX6_atom1_25 rfl ?_
      refine j_getI (j := 25) C dX6_atom1_26 FC6 (MAt.S h0) (by decide) rfl tw_828 ?_
      refine j_pc (pc2 := 29) rfl ?_
      refine j_iconst (v := (1 : Int32)) C dX6_atom1_29 rfl ?_
      refine j_isub C dX6_atom1_30 ?_
      refine j_putI (j := 25) C dX6_atom1_31 FC6 (MAt.S h0) (by decide) rfl rfl rfl rfl tw_828 ?_
      refine j_goto (tgt := 161) C dX6_atom1_34 (by decide) ?_
      refine j_iload_n C dX6_atom1_161 rfl rfl ?_
      exact j_iretw C dX6_atom1_162
set_option maxRecDepth 100000 in
set_option maxHeartbeats 4000000 in
theorem ct_X6_term1 (γ : Gm) (E : Ev) (M : Mi) (L : Ml)   (h0 : MAt E) : Ct γ yX6_term1 cX6_term1 2 (some .int) ⟨29, 0, 0, 640⟩ [.ref (E.2.1 0)] E M L (Q_iw γ E) 0 0 (F_X6_term1 M L) := by
  refine ct_of (own := RX6) (lv := [some (.ref (E.2.1 0)), none]) (by decide +kernel) rfl rfl (Nat.le_of_ble_eq_true rfl) (fun κ C hγ hN => ?_)
  subst hγ
  have hn : ∀ i, i < 2 → i < knL κ := fun i h => by rw [hN]; exact h
  have k5 : ∀ (n : Nat) (M : Mi) (L : Ml) (x1 : Int32), JF κ (PQ κ (Q_iw (kγ κ) E) 0 0) 5 [some (.ref (E.2.1 0)), some (.int x1)] [] E M L 0 0 (F_X6_term1_k5  n M L x1) := by
    intro n
    induction n with
    | zero => intros; exact jf_none
    | succ n ih =>
      intro M L x1
      unfold F_X6_term1_k5
      refine j_aload_n C dX6_term1_5 rfl rfl ?_
      refine j_bipush (v := (42 : Int32)) C dX6_term1_6 (by decide) ?_
      refine j_callV_i (st := []) C dX6_term1_8 (ct_X6_isSign (kγ κ) E M L (42 : Int32) h0) mi_X6_isSign tw_1059 FC6 (MAt.S h0) rfl rfl (Nat.le_of_ble_eq_true rfl) ⟨⟨rfl, rfl⟩, ⟨Nat.le_of_ble_eq_true rfl, Nat.le_of_ble_eq_true rfl⟩, ⟨Nat.zero_le _, Nat.zero_le _⟩⟩ (fun v8 => ?_)
      refine j_if_eq (tgt := 28) C dX6_term1_11 (by decide) ?_ ?_
      · refine j_iload_n C dX6_term1_28 rfl rfl ?_
        exact j_iretw C dX6_term1_29
      · refine j_aload_n C dX6_term1_14 rfl rfl ?_
        refine j_callV_vw (st := []) C dX6_term1_15 (ct_X6_next (kγ κ) E M L h0) mi_X6_next tw_982 FC6 (MAt.S h0) rfl rfl (Nat.le_of_ble_eq_true rfl) ⟨⟨rfl, rfl⟩, ⟨Nat.le_of_ble_eq_true rfl, Nat.le_of_ble_eq_true rfl⟩, ⟨Nat.zero_le _, Nat.zero_le _⟩⟩ (fun r15 => ?_)
        refine j_iload_n C dX6_term1_18 rfl rfl ?_
        refine j_aload_n C dX6_term1_19 rfl rfl ?_
        refine j_callV_iw (st := [.int x1]) C dX6_term1_20 (ct_X6_atom1 (kγ κ) E r15.1 r15.2 h0) mi_X6_atom1 tw_1137 FC6 (MAt.S h0) rfl rfl (Nat.le_of_ble_eq_true rfl) ⟨⟨rfl, rfl⟩, ⟨Nat.le_of_ble_eq_true rfl, Nat.le_of_ble_eq_true rfl⟩, ⟨Nat.zero_le _, Nat.zero_le _⟩⟩ (fun r20 => ?_)
        refine j_imul C dX6_term1_23 ?_
        refine j_istore_n (i := 1) (lv' := [some (.ref (E.2.1 0)), some (.int (x1 * r20.1))]) C dX6_term1_24 rfl (hn 1 (by decide)) rfl ?_
        refine j_pc (pc2 := 25) rfl ?_
        refine j_goto (tgt := 5) C dX6_term1_25 (by decide) ?_
        exact ih r20.2.1 r20.2.2 ((x1 * r20.1))
  unfold F_X6_term1
  refine j_aload_n C dX6_term1_0 rfl rfl ?_
  refine j_callV_iw (st := []) C dX6_term1_1 (ct_X6_atom1 (kγ κ) E M L h0) mi_X6_atom1 tw_1137 FC6 (MAt.S h0) rfl rfl (Nat.le_of_ble_eq_true rfl) ⟨⟨rfl, rfl⟩, ⟨Nat.le_of_ble_eq_true rfl, Nat.le_of_ble_eq_true rfl⟩, ⟨Nat.zero_le _, Nat.zero_le _⟩⟩ (fun r1 => ?_)
  refine j_istore_n (i := 1) (lv' := [some (.ref (E.2.1 0)), some (.int r1.1)]) C dX6_term1_4 rfl (hn 1 (by decide)) rfl ?_
  exact k5 FU r1.2.1 r1.2.2 r1.1
set_option maxRecDepth 100000 in
set_option maxHeartbeats 4000000 in
theorem ct_X6_added1 (γ : Gm) (E : Ev) (M : Mi) (L : Ml)   (h0 : MAt E) : Ct γ yX6_added1 cX6_added1 4 (some .int) ⟨30, 0, 0, 661⟩ [.ref (E.2.1 0)] E M L (Q_iw γ E) 0 0 (F_X6_added1 M L) := by
  refine ct_of (own := RX6) (lv := [some (.ref (E.2.1 0)), none, none, none]) (by decide +kernel) rfl rfl (Nat.le_of_ble_eq_true rfl) (fun κ C hγ hN => ?_)
  subst hγ
  have hn : ∀ i, i < 4 → i < knL κ := fun i h => by rw [hN]; exact h
  have k62 : ∀ (kf5 : Mi → Ml → Int32 → Option (Int32 × Mi × Ml)), (∀ (M : Mi) (L : Ml) (x1 : Int32), JF κ (PQ κ (Q_iw (kγ κ) E) 0 0) 5 [some (.ref (E.2.1 0)), some (.int x1), none, none] [] E M L 0 0 (kf5 M L x1)) → ∀ (M : Mi) (L : Ml) (s0 : Int32), JF κ (PQ κ (Q_iw (kγ κ) E) 0 0) 62 [some (.ref (E.2.1 0)), none, none, none] [.int s0] E M L 0 0 (F_X6_added1_k62 kf5 M L s0) := by
    intro kf5 hkf5 M L s0
    unfold F_X6_added1_k62
    refine j_istore_n (i := 1) (lv' := [some (.ref (E.2.1 0)), some (.int s0), none, none]) C dX6_added1_62 rfl (hn 1 (by decide)) rfl ?_
    refine j_goto (tgt := 5) C dX6_added1_63 (by decide) ?_
    exact hkf5 M L s0
  have k39 : ∀ (kf5 : Mi → Ml → Int32 → Option (Int32 × Mi × Ml)), (∀ (M : Mi) (L : Ml) (x1 : Int32), JF κ (PQ κ (Q_iw (kγ κ) E) 0 0) 5 [some (.ref (E.2.1 0)), some (.int x1), none, none] [] E M L 0 0 (kf5 M L x1)) → ∀ (M : Mi) (L : Ml) (x1 : Int32) (s0 : Int32), JF κ (PQ κ (Q_iw (kγ κ) E) 0 0) 39 [some (.ref (E.2.1 0)), some (.int x1), none, none] [.int s0] E M L 0 0 (F_X6_added1_k39 kf5 M L x1 s0) := by
    intro kf5 hkf5 M L x1 s0
    unfold F_X6_added1_k39
    refine j_istore_n (i := 2) (lv' := [some (.ref (E.2.1 0)), some (.int x1), some (.int s0), none]) C dX6_added1_39 rfl (hn 2 (by decide)) rfl ?_
    refine j_aload_n C dX6_added1_40 rfl rfl ?_
    refine j_callV_vw (st := []) C dX6_added1_41 (ct_X6_next (kγ κ) E M L h0) mi_X6_next tw_982 FC6 (MAt.S h0) rfl rfl (Nat.le_of_ble_eq_true rfl) ⟨⟨rfl, rfl⟩, ⟨Nat.le_of_ble_eq_true rfl, Nat.le_of_ble_eq_true rfl⟩, ⟨Nat.zero_le _, Nat.zero_le _⟩⟩ (fun r41 => ?_)
    refine j_aload_n C dX6_added1_44 rfl rfl ?_
    refine j_callV_iw (st := []) C dX6_added1_45 (ct_X6_term1 (kγ κ) E r41.1 r41.2 h0) mi_X6_term1 tw_1133 FC6 (MAt.S h0) rfl rfl (Nat.le_of_ble_eq_true rfl) ⟨⟨rfl, rfl⟩, ⟨Nat.le_of_ble_eq_true rfl, Nat.le_of_ble_eq_true rfl⟩, ⟨Nat.zero_le _, Nat.zero_le _⟩⟩ (fun r45 => ?_)
    refine j_istore_n (i := 3) (lv' := [some (.ref (E.2.1 0)), some (.int x1), some (.int s0), some (.int r45.1)]) C dX6_added1_48 rfl (hn 3 (by decide)) rfl ?_
    refine j_iload_n C dX6_added1_49 rfl rfl ?_
    refine j_pc (pc2 := 50) rfl ?_
    refine j_if_eq (tgt := 59) C dX6_added1_50 (by decide) ?_ ?_
    · refine j_iload_n C dX6_added1_59 rfl rfl ?_
      refine j_iload_n C dX6_added1_60 rfl rfl ?_
      refine j_isub C dX6_added1_61 ?_
      refine j_mask [true, false, false, false] (lv' := [some (.ref (E.2.1 0)), none, none, none]) rfl ?_
      exact k62 kf5 hkf5 r45.2.1 r45.2.2 ((x1 - r45.1))
    · refine j_iload_n C dX6_added1_53 rfl rfl ?_
      refine j_iload_n C dX6_added1_54 rfl rfl ?_
      refine j_iadd C dX6_added1_55 ?_
      refine j_goto (tgt := 62) C dX6_added1_56 (by decide) ?_
      refine j_mask [true, false, false, false] (lv' := [some (.ref (E.2.1 0)), none, none, none]) rfl ?_
      exact k62 kf5 hkf5 r45.2.1 r45.2.2 ((x1 + r45.1))
  have k23 : ∀ (kf5 : Mi → Ml → Int32 → Option (Int32 × Mi × Ml)), (∀ (M : Mi) (L : Ml) (x1 : Int32), JF κ (PQ κ (Q_iw (kγ κ) E) 0 0) 5 [some (.ref (E.2.1 0)), some (.int x1), none, none] [] E M L 0 0 (kf5 M L x1)) → ∀ (M : Mi) (L : Ml) (x1 : Int32), JF κ (PQ κ (Q_iw (kγ κ) E) 0 0) 23 [some (.ref (E.2.1 0)), some (.int x1), none, none] [] E M L 0 0 (F_X6_added1_k23 kf5 M L x1) := by
    intro kf5 hkf5 M L x1
    unfold F_X6_added1_k23
    refine j_aload_n C dX6_added1_23 rfl rfl ?_
    refine j_getL (j := 24) C dX6_added1_24 FC6 (MAt.S h0) (by decide) rfl tw_827 ?_
    refine j_ldc2 (v := (43 : Int64)) C dX6_added1_27 tw_1067 ?_
    refine j_lcmp C dX6_added1_30 ?_
    refine j_if_ne (tgt := 38) C dX6_added1_31 (by decide) ?_ ?_
    · refine j_iconst (v := (0 : Int32)) C dX6_added1_38 rfl ?_
      exact k39 kf5 hkf5 M L x1 ((0 : Int32))
    · refine j_iconst (v := (1 : Int32)) C dX6_added1_34 rfl ?_
      refine j_goto (tgt := 39) C dX6_added1_35 (by decide) ?_
      exact k39 kf5 hkf5 M L x1 ((1 : Int32))
  have k5 : ∀ (n : Nat) (M : Mi) (L : Ml) (x1 : Int32), JF κ (PQ κ (Q_iw (kγ κ) E) 0 0) 5 [some (.ref (E.2.1 0)), some (.int x1), none, none] [] E M L 0 0 (F_X6_added1_k5  n M L x1) := by
    intro n
    induction n with
    | zero => intros; exact jf_none
    | succ n ih =>
      intro M L x1
      unfold F_X6_added1_k5
      refine j_aload_n C dX6_added1_5 rfl rfl ?_
      refine j_bipush (v := (43 : Int32)) C dX6_added1_6 (by decide) ?_
      refine j_callV_i (st := []) C dX6_added1_8 (ct_X6_isSign (kγ κ) E M L (43 : Int32) h0) mi_X6_isSign tw_1059 FC6 (MAt.S h0) rfl rfl (Nat.le_of_ble_eq_true rfl) ⟨⟨rfl, rfl⟩, ⟨Nat.le_of_ble_eq_true rfl, Nat.le_of_ble_eq_true rfl⟩, ⟨Nat.zero_le _, Nat.zero_le _⟩⟩ (fun v8 => ?_)
      refine j_if_ne (tgt := 23) C dX6_added1_11 (by decide) ?_ ?_
      · exact k23 (F_X6_added1_k5  n) ih M L x1
      · refine j_aload_n C dX6_added1_14 rfl rfl ?_
        refine j_bipush (v := (45 : Int32)) C dX6_added1_15 (by decide) ?_
        refine j_callV_i (st := []) C dX6_added1_17 (ct_X6_isSign (kγ κ) E M L (45 : Int32) h0) mi_X6_isSign tw_1059 FC6 (MAt.S h0) rfl rfl (Nat.le_of_ble_eq_true rfl) ⟨⟨rfl, rfl⟩, ⟨Nat.le_of_ble_eq_true rfl, Nat.le_of_ble_eq_true rfl⟩, ⟨Nat.zero_le _, Nat.zero_le _⟩⟩ (fun v17 => ?_)
        refine j_if_eq (tgt := 66) C dX6_added1_20 (by decide) ?_ ?_
        · refine j_iload_n C dX6_added1_66 rfl rfl ?_
          exact j_iretw C dX6_added1_67
        · exact k23 (F_X6_added1_k5  n) ih M L x1
  unfold F_X6_added1
  refine j_aload_n C dX6_added1_0 rfl rfl ?_
  refine j_callV_iw (st := []) C dX6_added1_1 (ct_X6_term1 (kγ κ) E M L h0) mi_X6_term1 tw_1133 FC6 (MAt.S h0) rfl rfl (Nat.le_of_ble_eq_true rfl) ⟨⟨rfl, rfl⟩, ⟨Nat.le_of_ble_eq_true rfl, Nat.le_of_ble_eq_true rfl⟩, ⟨Nat.zero_le _, Nat.zero_le _⟩⟩ (fun r1 => ?_)
  refine j_istore_n (i := 1) (lv' := [some (.ref (E.2.1 0)), some (.int r1.1), none, none]) C dX6_added1_4 rfl (hn 1 (by decide)) rfl ?_
  exact k5 FU r1.2.1 r1.2.2 r1.1
set_option maxRecDepth 100000 in
set_option maxHeartbeats 4000000 in
theorem ct_X6_not1 (γ : Gm) (E : Ev) (M : Mi) (L : Ml)   (h0 : MAt E) : Ct γ yX6_not1 cX6_not1 4 (some .int) ⟨31, 0, 0, 684⟩ [.ref (E.2.1 0)] E M L (Q_iw γ E) 0 0 (F_X6_not1 M L) := by
  refine ct_of (own := RX6) (lv := [some (.ref (E.2.1 0)), none, none, none]) (by decide +kernel) rfl rfl (Nat.le_of_ble_eq_true rfl) (fun κ C hγ hN => ?_)
  subst hγ
  have hn : ∀ i, i < 4 → i < knL κ := fun i h => by rw [hN]; exact h
  have k120 : ∀ (M : Mi) (L : Ml), JF κ (PQ κ (Q_iw (kγ κ) E) 0 0) 120 [none, none, none, none] [] E M L 0 0 (F_X6_not1_k120  M L) := by
    intro M L
    unfold F_X6_not1_k120
    refine j_iconst (v := (1 : Int32)) C dX6_not1_120 rfl ?_
    refine j_goto (tgt := 125) C dX6_not1_121 (by decide) ?_
    exact j_iretw C dX6_not1_125
  have k93 : ∀ (M : Mi) (L : Ml) (x1 : Int32) (s0 : Int32), JF κ (PQ κ (Q_iw (kγ κ) E) 0 0) 93 [some (.ref (E.2.1 0)), some (.int x1), none, none] [.int s0] E M L 0 0 (F_X6_not1_k93  M L x1 s0) := by
    intro M L x1 s0
    unfold F_X6_not1_k93
    refine j_istore_n (i := 2) (lv' := [some (.ref (E.2.1 0)), some (.int x1), some (.int s0), none]) C dX6_not1_93 rfl (hn 2 (by decide)) rfl ?_
    refine j_aload_n C dX6_not1_94 rfl rfl ?_
    refine j_callV_vw (st := []) C dX6_not1_95 (ct_X6_next (kγ κ) E M L h0) mi_X6_next tw_982 FC6 (MAt.S h0) rfl rfl (Nat.le_of_ble_eq_true rfl) ⟨⟨rfl, rfl⟩, ⟨Nat.le_of_ble_eq_true rfl, Nat.le_of_ble_eq_true rfl⟩, ⟨Nat.zero_le _, Nat.zero_le _⟩⟩ (fun r95 => ?_)
    refine j_aload_n C dX6_not1_98 rfl rfl ?_
    refine j_callV_iw (st := []) C dX6_not1_99 (ct_X6_added1 (kγ κ) E r95.1 r95.2 h0) mi_X6_added1 tw_1129 FC6 (MAt.S h0) rfl rfl (Nat.le_of_ble_eq_true rfl) ⟨⟨rfl, rfl⟩, ⟨Nat.le_of_ble_eq_true rfl, Nat.le_of_ble_eq_true rfl⟩, ⟨Nat.zero_le _, Nat.zero_le _⟩⟩ (fun r99 => ?_)
    refine j_istore_n (i := 3) (lv' := [some (.ref (E.2.1 0)), some (.int x1), some (.int s0), some (.int r99.1)]) C dX6_not1_102 rfl (hn 3 (by decide)) rfl ?_
    refine j_iload_n C dX6_not1_103 rfl rfl ?_
    refine j_pc (pc2 := 104) rfl ?_
    refine j_if_eq (tgt := 115) C dX6_not1_104 (by decide) ?_ ?_
    · refine j_iload_n C dX6_not1_115 rfl rfl ?_
      refine j_iload_n C dX6_not1_116 rfl rfl ?_
      refine j_icmp_ne (tgt := 124) C dX6_not1_117 (by decide) ?_ ?_
      · refine j_iconst (v := (0 : Int32)) C dX6_not1_124 rfl ?_
        exact j_iretw C dX6_not1_125
      · refine j_mask [false, false, false, false] (lv' := [none, none, none, none]) rfl ?_
        exact k120 r99.2.1 r99.2.2
    · refine j_iload_n C dX6_not1_107 rfl rfl ?_
      refine j_iload_n C dX6_not1_108 rfl rfl ?_
      refine j_icmp_ge (tgt := 124) C dX6_not1_109 (by decide) ?_ ?_
      · refine j_iconst (v := (0 : Int32)) C dX6_not1_124 rfl ?_
        exact j_iretw C dX6_not1_125
      · refine j_goto (tgt := 120) C dX6_not1_112 (by decide) ?_
        refine j_mask [false, false, false, false] (lv' := [none, none, none, none]) rfl ?_
        exact k120 r99.2.1 r99.2.2
  have k77 : ∀ (M : Mi) (L : Ml) (x1 : Int32), JF κ (PQ κ (Q_iw (kγ κ) E) 0 0) 77 [some (.ref (E.2.1 0)), some (.int x1), none, none] [] E M L 0 0 (F_X6_not1_k77  M L x1) := by
    intro M L x1
    unfold F_X6_not1_k77
    refine j_aload_n C dX6_not1_77 rfl rfl ?_
    refine j_getL (j := 24) C dX6_not1_78 FC6 (MAt.S h0) (by decide) rfl tw_827 ?_
    refine j_ldc2 (v := (60 : Int64)) C dX6_not1_81 tw_1068 ?_
    refine j_lcmp C dX6_not1_84 ?_
    refine j_if_ne (tgt := 92) C dX6_not1_85 (by decide) ?_ ?_
    · refine j_iconst (v := (0 : Int32)) C dX6_not1_92 rfl ?_
      exact k93 M L x1 ((0 : Int32))
    · refine j_iconst (v := (1 : Int32)) C dX6_not1_88 rfl ?_
      refine j_goto (tgt := 93) C dX6_not1_89 (by decide) ?_
      exact k93 M L x1 ((1 : Int32))
  unfold F_X6_not1
  refine j_aload_n C dX6_not1_0 rfl rfl ?_
  refine j_bipush (v := (110 : Int32)) C dX6_not1_1 (by decide) ?_
  refine j_bipush (v := (111 : Int32)) C dX6_not1_3 (by decide) ?_
  refine j_bipush (v := (116 : Int32)) C dX6_not1_5 (by decide) ?_
  refine j_iconst (v := (0 : Int32)) C dX6_not1_7 rfl ?_
  refine j_iconst (v := (0 : Int32)) C dX6_not1_8 rfl ?_
  refine j_iconst (v := (0 : Int32)) C dX6_not1_9 rfl ?_
  refine j_pc (pc2 := 10) rfl ?_
  refine j_iconst (v := (0 : Int32)) C dX6_not1_10 rfl ?_
  refine j_iconst (v := (0 : Int32)) C dX6_not1_11 rfl ?_
  refine j_callV_i (st := []) C dX6_not1_12 (ct_X6_isWord (kγ κ) E M L (110 : Int32) (111 : Int32) (116 : Int32) (0 : Int32) (0 : Int32) (0 : Int32) (0 : Int32) (0 : Int32) h0) mi_X6_isWord tw_995 FC6 (MAt.S h0) rfl rfl (Nat.le_of_ble_eq_true rfl) ⟨⟨rfl, rfl⟩, ⟨Nat.le_of_ble_eq_true rfl, Nat.le_of_ble_eq_true rfl⟩, ⟨Nat.zero_le _, Nat.zero_le _⟩⟩ (fun v12 => ?_)
  refine j_if_eq (tgt := 52) C dX6_not1_15 (by decide) ?_ ?_
  · refine j_aload_n C dX6_not1_52 rfl rfl ?_
    refine j_callV_iw (st := []) C dX6_not1_53 (ct_X6_added1 (kγ κ) E M L h0) mi_X6_added1 tw_1129 FC6 (MAt.S h0) rfl rfl (Nat.le_of_ble_eq_true rfl) ⟨⟨rfl, rfl⟩, ⟨Nat.le_of_ble_eq_true rfl, Nat.le_of_ble_eq_true rfl⟩, ⟨Nat.zero_le _, Nat.zero_le _⟩⟩ (fun r53 => ?_)
    refine j_istore_n (i := 1) (lv' := [some (.ref (E.2.1 0)), some (.int r53.1), none, none]) C dX6_not1_56 rfl (hn 1 (by decide)) rfl ?_
    refine j_aload_n C dX6_not1_57 rfl rfl ?_
    refine j_bipush (v := (60 : Int32)) C dX6_not1_58 (by decide) ?_
    refine j_callV_i (st := []) C dX6_not1_60 (ct_X6_isSign (kγ κ) E r53.2.1 r53.2.2 (60 : Int32) h0) mi_X6_isSign tw_1059 FC6 (MAt.S h0) rfl rfl (Nat.le_of_ble_eq_true rfl) ⟨⟨rfl, rfl⟩, ⟨Nat.le_of_ble_eq_true rfl, Nat.le_of_ble_eq_true rfl⟩, ⟨Nat.zero_le _, Nat.zero_le _⟩⟩ (fun v60 => ?_)
    refine j_if_ne (tgt := 77) C dX6_not1_63 (by decide) ?_ ?_
    · exact k77 r53.2.1 r53.2.2 r53.1
    · refine j_aload_n C dX6_not1_66 rfl rfl ?_
      refine j_bipush (v := (61 : Int32)) C dX6_not1_67 (by decide) ?_
      refine j_callV_i (st := []) C dX6_not1_69 (ct_X6_isSign (kγ κ) E r53.2.1 r53.2.2 (61 : Int32) h0) mi_X6_isSign tw_1059 FC6 (MAt.S h0) rfl rfl (Nat.le_of_ble_eq_true rfl) ⟨⟨rfl, rfl⟩, ⟨Nat.le_of_ble_eq_true rfl, Nat.le_of_ble_eq_true rfl⟩, ⟨Nat.zero_le _, Nat.zero_le _⟩⟩ (fun v69 => ?_)
      refine j_if_ne (tgt := 77) C dX6_not1_72 (by decide) ?_ ?_
      · exact k77 r53.2.1 r53.2.2 r53.1
      · refine j_iload_n C dX6_not1_75 rfl rfl ?_
        exact j_iretw C dX6_not1_76
  · refine j_aload_n C dX6_not1_18 rfl rfl ?_
    refine j_callV_iw (st := []) C dX6_not1_19 (ct_X6_opens (kγ κ) E M L h0) mi_X6_opens tw_1023 FC6 (MAt.S h0) rfl rfl (Nat.le_of_ble_eq_true rfl) ⟨⟨rfl, rfl⟩, ⟨Nat.le_of_ble_eq_true rfl, Nat.le_of_ble_eq_true rfl⟩, ⟨Nat.zero_le _, Nat.zero_le _⟩⟩ (fun r19 => ?_)
    refine j_if_ne (tgt := 27) C dX6_not1_22 (by decide) ?_ ?_
    · refine j_aload_n C dX6_not1_27 rfl rfl ?_
      refine j_callV_iw (st := []) C dX6_not1_28 (ct_X6_not2 (kγ κ) E r19.2.1 r19.2.2 h0) mi_X6_not2 tw_1031 FC6 (MAt.S h0) rfl rfl (Nat.le_of_ble_eq_true rfl) ⟨⟨rfl, rfl⟩, ⟨Nat.le_of_ble_eq_true rfl, Nat.le_of_ble_eq_true rfl⟩, ⟨Nat.zero_le _, Nat.zero_le _⟩⟩ (fun r28 => ?_)
      refine j_istore_n (i := 1) (lv' := [some (.ref (E.2.1 0)), some (.int r28.1), none, none]) C dX6_not1_31 rfl (hn 1 (by decide)) rfl ?_
      refine j_aload_n C dX6_not1_32 rfl rfl ?_
      refine j_dup C dX6_not1_33 rfl ?_
      refine j_getI (j := 25) C dX6_not1_34 FC6 (MAt.S h0) (by decide) rfl tw_828 ?_
      refine j_iconst (v := (1 : Int32)) C dX6_not1_37 rfl ?_
      refine j_pc (pc2 := 38) rfl ?_
      refine j_isub C dX6_not1_38 ?_
      refine j_putI (j := 25) C dX6_not1_39 FC6 (MAt.S h0) (by decide) rfl rfl rfl rfl tw_828 ?_
      refine j_iload_n C dX6_not1_42 rfl rfl ?_
      refine j_if_ne (tgt := 50) C dX6_not1_43 (by decide) ?_ ?_
      · refine j_iconst (v := (0 : Int32)) C dX6_not1_50 rfl ?_
        exact j_iretw C dX6_not1_51
      · refine j_iconst (v := (1 : Int32)) C dX6_not1_46 rfl ?_
        refine j_goto (tgt := 51) C dX6_not1_47 (by decide) ?_
        exact j_iretw C dX6_not1_51
    · refine j_iconst (v := (0 : Int32)) C dX6_not1_25 rfl ?_
      exact j_iretw C dX6_not1_26
set_option maxRecDepth 100000 in
set_option maxHeartbeats 4000000 in
theorem ct_X6_both1 (γ : Gm) (E : Ev) (M : Mi) (L : Ml)   (h0 : MAt E) : Ct γ yX6_both1 cX6_both1 3 (some .int) ⟨32, 0, 0, 707⟩ [.ref (E.2.1 0)] E M L (Q_iw γ E) 0 0 (F_X6_both1 M L) := by
  refine ct_of (own := RX6) (lv := [some (.ref (E.2.1 0)), none, none]) (by decide +kernel) rfl rfl (Nat.le_of_ble_eq_true rfl) (fun κ C hγ hN => ?_)
  subst hγ
  have hn : ∀ i, i < 3 → i < knL κ := fun i h => by rw [hN]; exact h
  have k45 : ∀ (kf5 : Mi → Ml → Int32 → Option (Int32 × Mi × Ml)), (∀ (M : Mi) (L : Ml) (x1 : Int32), JF κ (PQ κ (Q_iw (kγ κ) E) 0 0) 5 [some (.ref (E.2.1 0)), some (.int x1), none] [] E M L 0 0 (kf5 M L x1)) → ∀ (M : Mi) (L : Ml) (s0 : Int32), JF κ (PQ κ (Q_iw (kγ κ) E) 0 0) 45 [some (.ref (E.2.1 0)), none, none] [.int s0] E M L 0 0 (F_X6_both1_k45 kf5 M L s0) := by
    intro kf5 hkf5 M L s0
    unfold F_X6_both1_k45
    refine j_istore_n (i := 1) (lv' := [some (.ref (E.2.1 0)), some (.int s0), none]) C dX6_both1_45 rfl (hn 1 (by decide)) rfl ?_
    refine j_goto (tgt := 5) C dX6_both1_46 (by decide) ?_
    exact hkf5 M L s0
  have k44 : ∀ (kf5 : Mi → Ml → Int32 → Option (Int32 × Mi × Ml)), (∀ (M : Mi) (L : Ml) (x1 : Int32), JF κ (PQ κ (Q_iw (kγ κ) E) 0 0) 5 [some (.ref (E.2.1 0)), some (.int x1), none] [] E M L 0 0 (kf5 M L x1)) → ∀ (M : Mi) (L : Ml), JF κ (PQ κ (Q_iw (kγ κ) E) 0 0) 44 [some (.ref (E.2.1 0)), none, none] [] E M L 0 0 (F_X6_both1_k44 kf5 M L) := by
    intro kf5 hkf5 M L
    unfold F_X6_both1_k44
    refine j_iconst (v := (0 : Int32)) C dX6_both1_44 rfl ?_
    exact k45 kf5 hkf5 M L ((0 : Int32))
  have k5 : ∀ (n : Nat) (M : Mi) (L : Ml) (x1 : Int32), JF κ (PQ κ (Q_iw (kγ κ) E) 0 0) 5 [some (.ref (E.2.1 0)), some (.int x1), none] [] E M L 0 0 (F_X6_both1_k5  n M L x1) := by
    intro n
    induction n with
    | zero => intros; exact jf_none
    | succ n ih =>
      intro M L x1
      unfold F_X6_both1_k5
      refine j_aload_n C dX6_both1_5 rfl rfl ?_
      refine j_bipush (v := (97 : Int32)) C dX6_both1_6 (by decide) ?_
      refine j_bipush (v := (110 : Int32)) C dX6_both1_8 (by decide) ?_
      refine j_bipush (v := (100 : Int32)) C dX6_both1_10 (by decide) ?_
      refine j_iconst (v := (0 : Int32)) C dX6_both1_12 rfl ?_
      refine j_iconst (v := (0 : Int32)) C dX6_both1_13 rfl ?_
      refine j_iconst (v := (0 : Int32)) C dX6_both1_14 rfl ?_
      refine j_pc (pc2 := 15) rfl ?_
      refine j_iconst (v := (0 : Int32)) C dX6_both1_15 rfl ?_
      refine j_iconst (v := (0 : Int32)) C dX6_both1_16 rfl ?_
      refine j_callV_i (st := []) C dX6_both1_17 (ct_X6_isWord (kγ κ) E M L (97 : Int32) (110 : Int32) (100 : Int32) (0 : Int32) (0 : Int32) (0 : Int32) (0 : Int32) (0 : Int32) h0) mi_X6_isWord tw_995 FC6 (MAt.S h0) rfl rfl (Nat.le_of_ble_eq_true rfl) ⟨⟨rfl, rfl⟩, ⟨Nat.le_of_ble_eq_true rfl, Nat.le_of_ble_eq_true rfl⟩, ⟨Nat.zero_le _, Nat.zero_le _⟩⟩ (fun v17 => ?_)
      refine j_if_eq (tgt := 49) C dX6_both1_20 (by decide) ?_ ?_
      · refine j_iload_n C dX6_both1_49 rfl rfl ?_
        exact j_iretw C dX6_both1_50
      · refine j_aload_n C dX6_both1_23 rfl rfl ?_
        refine j_callV_vw (st := []) C dX6_both1_24 (ct_X6_next (kγ κ) E M L h0) mi_X6_next tw_982 FC6 (MAt.S h0) rfl rfl (Nat.le_of_ble_eq_true rfl) ⟨⟨rfl, rfl⟩, ⟨Nat.le_of_ble_eq_true rfl, Nat.le_of_ble_eq_true rfl⟩, ⟨Nat.zero_le _, Nat.zero_le _⟩⟩ (fun r24 => ?_)
        refine j_aload_n C dX6_both1_27 rfl rfl ?_
        refine j_callV_iw (st := []) C dX6_both1_28 (ct_X6_not1 (kγ κ) E r24.1 r24.2 h0) mi_X6_not1 tw_1027 FC6 (MAt.S h0) rfl rfl (Nat.le_of_ble_eq_true rfl) ⟨⟨rfl, rfl⟩, ⟨Nat.le_of_ble_eq_true rfl, Nat.le_of_ble_eq_true rfl⟩, ⟨Nat.zero_le _, Nat.zero_le _⟩⟩ (fun r28 => ?_)
        refine j_istore_n (i := 2) (lv' := [some (.ref (E.2.1 0)), some (.int x1), some (.int r28.1)]) C dX6_both1_31 rfl (hn 2 (by decide)) rfl ?_
        refine j_iload_n C dX6_both1_32 rfl rfl ?_
        refine j_if_eq (tgt := 44) C dX6_both1_33 (by decide) ?_ ?_
        · refine j_mask [true, false, false] (lv' := [some (.ref (E.2.1 0)), none, none]) rfl ?_
          exact k44 (F_X6_both1_k5  n) ih r28.2.1 r28.2.2
        · refine j_iload_n C dX6_both1_36 rfl rfl ?_
          refine j_if_eq (tgt := 44) C dX6_both1_37 (by decide) ?_ ?_
          · refine j_mask [true, false, false] (lv' := [some (.ref (E.2.1 0)), none, none]) rfl ?_
            exact k44 (F_X6_both1_k5  n) ih r28.2.1 r28.2.2
          · refine j_iconst (v := (1 : Int32)) C dX6_both1_40 rfl ?_
            refine j_goto (tgt := 45) C dX6_both1_41 (by decide) ?_
            refine j_mask [true, false, false] (lv' := [some (.ref (E.2.1 0)), none, none]) rfl ?_
            exact k45 (F_X6_both1_k5  n) ih r28.2.1 r28.2.2 ((1 : Int32))
  unfold F_X6_both1
  refine j_aload_n C dX6_both1_0 rfl rfl ?_
  refine j_callV_iw (st := []) C dX6_both1_1 (ct_X6_not1 (kγ κ) E M L h0) mi_X6_not1 tw_1027 FC6 (MAt.S h0) rfl rfl (Nat.le_of_ble_eq_true rfl) ⟨⟨rfl, rfl⟩, ⟨Nat.le_of_ble_eq_true rfl, Nat.le_of_ble_eq_true rfl⟩, ⟨Nat.zero_le _, Nat.zero_le _⟩⟩ (fun r1 => ?_)
  refine j_istore_n (i := 1) (lv' := [some (.ref (E.2.1 0)), some (.int r1.1), none]) C dX6_both1_4 rfl (hn 1 (by decide)) rfl ?_
  exact k5 FU r1.2.1 r1.2.2 r1.1
set_option maxRecDepth 100000 in
set_option maxHeartbeats 4000000 in
theorem ct_X6_either1 (γ : Gm) (E : Ev) (M : Mi) (L : Ml)   (h0 : MAt E) : Ct γ yX6_either1 cX6_either1 3 (some .int) ⟨33, 0, 0, 729⟩ [.ref (E.2.1 0)] E M L (Q_iw γ E) 0 0 (F_X6_either1 M L) := by
  refine ct_of (own := RX6) (lv := [some (.ref (E.2.1 0)), none, none]) (by decide +kernel) rfl rfl (Nat.le_of_ble_eq_true rfl) (fun κ C hγ hN => ?_)
  subst hγ
  have hn : ∀ i, i < 3 → i < knL κ := fun i h => by rw [hN]; exact h
  have k44 : ∀ (kf5 : Mi → Ml → Int32 → Option (Int32 × Mi × Ml)), (∀ (M : Mi) (L : Ml) (x1 : Int32), JF κ (PQ κ (Q_iw (kγ κ) E) 0 0) 5 [some (.ref (E.2.1 0)), some (.int x1), none] [] E M L 0 0 (kf5 M L x1)) → ∀ (M : Mi) (L : Ml) (s0 : Int32), JF κ (PQ κ (Q_iw (kγ κ) E) 0 0) 44 [some (.ref (E.2.1 0)), none, none] [.int s0] E M L 0 0 (F_X6_either1_k44 kf5 M L s0) := by
    intro kf5 hkf5 M L s0
    unfold F_X6_either1_k44
    refine j_istore_n (i := 1) (lv' := [some (.ref (E.2.1 0)), some (.int s0), none]) C dX6_either1_44 rfl (hn 1 (by decide)) rfl ?_
    refine j_goto (tgt := 5) C dX6_either1_45 (by decide) ?_
    exact hkf5 M L s0
  have k39 : ∀ (kf5 : Mi → Ml → Int32 → Option (Int32 × Mi × Ml)), (∀ (M : Mi) (L : Ml) (x1 : Int32), JF κ (PQ κ (Q_iw (kγ κ) E) 0 0) 5 [some (.ref (E.2.1 0)), some (.int x1), none] [] E M L 0 0 (kf5 M L x1)) → ∀ (M : Mi) (L : Ml), JF κ (PQ κ (Q_iw (kγ κ) E) 0 0) 39 [some (.ref (E.2.1 0)), none, none] [] E M L 0 0 (F_X6_either1_k39 kf5 M L) := by
    intro kf5 hkf5 M L
    unfold F_X6_either1_k39
    refine j_iconst (v := (1 : Int32)) C dX6_either1_39 rfl ?_
    refine j_goto (tgt := 44) C dX6_either1_40 (by decide) ?_
    exact k44 kf5 hkf5 M L ((1 : Int32))
  have k5 : ∀ (n : Nat) (M : Mi) (L : Ml) (x1 : Int32), JF κ (PQ κ (Q_iw (kγ κ) E) 0 0) 5 [some (.ref (E.2.1 0)), some (.int x1), none] [] E M L 0 0 (F_X6_either1_k5  n M L x1) := by
    intro n
    induction n with
    | zero => intros; exact jf_none
    | succ n ih =>
      intro M L x1
      unfold F_X6_either1_k5
      refine j_aload_n C dX6_either1_5 rfl rfl ?_
      refine j_bipush (v := (111 : Int32)) C dX6_either1_6 (by decide) ?_
      refine j_bipush (v := (114 : Int32)) C dX6_either1_8 (by decide) ?_
      refine j_iconst (v := (0 : Int32)) C dX6_either1_10 rfl ?_
      refine j_iconst (v := (0 : Int32)) C dX6_either1_11 rfl ?_
      refine j_iconst (v := (0 : Int32)) C dX6_either1_12 rfl ?_
      refine j_iconst (v := (0 : Int32)) C dX6_either1_13 rfl ?_
      refine j_pc (pc2 := 14) rfl ?_
      refine j_iconst (v := (0 : Int32)) C dX6_either1_14 rfl ?_
      refine j_iconst (v := (0 : Int32)) C dX6_either1_15 rfl ?_
      refine j_callV_i (st := []) C dX6_either1_16 (ct_X6_isWord (kγ κ) E M L (111 : Int32) (114 : Int32) (0 : Int32) (0 : Int32) (0 : Int32) (0 : Int32) (0 : Int32) (0 : Int32) h0) mi_X6_isWord tw_995 FC6 (MAt.S h0) rfl rfl (Nat.le_of_ble_eq_true rfl) ⟨⟨rfl, rfl⟩, ⟨Nat.le_of_ble_eq_true rfl, Nat.le_of_ble_eq_true rfl⟩, ⟨Nat.zero_le _, Nat.zero_le _⟩⟩ (fun v16 => ?_)
      refine j_if_eq (tgt := 48) C dX6_either1_19 (by decide) ?_ ?_
      · refine j_iload_n C dX6_either1_48 rfl rfl ?_
        exact j_iretw C dX6_either1_49
      · refine j_aload_n C dX6_either1_22 rfl rfl ?_
        refine j_callV_vw (st := []) C dX6_either1_23 (ct_X6_next (kγ κ) E M L h0) mi_X6_next tw_982 FC6 (MAt.S h0) rfl rfl (Nat.le_of_ble_eq_true rfl) ⟨⟨rfl, rfl⟩, ⟨Nat.le_of_ble_eq_true rfl, Nat.le_of_ble_eq_true rfl⟩, ⟨Nat.zero_le _, Nat.zero_le _⟩⟩ (fun r23 => ?_)
        refine j_aload_n C dX6_either1_26 rfl rfl ?_
        refine j_callV_iw (st := []) C dX6_either1_27 (ct_X6_both1 (kγ κ) E r23.1 r23.2 h0) mi_X6_both1 tw_1165 FC6 (MAt.S h0) rfl rfl (Nat.le_of_ble_eq_true rfl) ⟨⟨rfl, rfl⟩, ⟨Nat.le_of_ble_eq_true rfl, Nat.le_of_ble_eq_true rfl⟩, ⟨Nat.zero_le _, Nat.zero_le _⟩⟩ (fun r27 => ?_)
        refine j_istore_n (i := 2) (lv' := [some (.ref (E.2.1 0)), some (.int x1), some (.int r27.1)]) C dX6_either1_30 rfl (hn 2 (by decide)) rfl ?_
        refine j_iload_n C dX6_either1_31 rfl rfl ?_
        refine j_if_ne (tgt := 39) C dX6_either1_32 (by decide) ?_ ?_
        · refine j_mask [true, false, false] (lv' := [some (.ref (E.2.1 0)), none, none]) rfl ?_
          exact k39 (F_X6_either1_k5  n) ih r27.2.1 r27.2.2
        · refine j_iload_n C dX6_either1_35 rfl rfl ?_
          refine j_if_eq (tgt := 43) C dX6_either1_36 (by decide) ?_ ?_
          · refine j_iconst (v := (0 : Int32)) C dX6_either1_43 rfl ?_
            refine j_mask [true, false, false] (lv' := [some (.ref (E.2.1 0)), none, none]) rfl ?_
            exact k44 (F_X6_either1_k5  n) ih r27.2.1 r27.2.2 ((0 : Int32))
          · refine j_mask [true, false, false] (lv' := [some (.ref (E.2.1 0)), none, none]) rfl ?_
            exact k39 (F_X6_either1_k5  n) ih r27.2.1 r27.2.2
  unfold F_X6_either1
  refine j_aload_n C dX6_either1_0 rfl rfl ?_
  refine j_callV_iw (st := []) C dX6_either1_1 (ct_X6_both1 (kγ κ) E M L h0) mi_X6_both1 tw_1165 FC6 (MAt.S h0) rfl rfl (Nat.le_of_ble_eq_true rfl) ⟨⟨rfl, rfl⟩, ⟨Nat.le_of_ble_eq_true rfl, Nat.le_of_ble_eq_true rfl⟩, ⟨Nat.zero_le _, Nat.zero_le _⟩⟩ (fun r1 => ?_)
  refine j_istore_n (i := 1) (lv' := [some (.ref (E.2.1 0)), some (.int r1.1), none]) C dX6_either1_4 rfl (hn 1 (by decide)) rfl ?_
  exact k5 FU r1.2.1 r1.2.2 r1.1
set_option maxRecDepth 100000 in
set_option maxHeartbeats 4000000 in
theorem ct_X6_atom0 (γ : Gm) (E : Ev) (M : Mi) (L : Ml)   (h0 : MAt E) : Ct γ yX6_atom0 cX6_atom0 2 (some .int) ⟨34, 0, 0, 751⟩ [.ref (E.2.1 0)] E M L (Q_iw γ E) 0 0 (F_X6_atom0 M L) := by
  refine ct_of (own := RX6) (lv := [some (.ref (E.2.1 0)), none]) (by decide +kernel) rfl rfl (Nat.le_of_ble_eq_true rfl) (fun κ C hγ hN => ?_)
  subst hγ
  have hn : ∀ i, i < 2 → i < knL κ := fun i h => by rw [hN]; exact h
  have k157 : ∀ (M : Mi) (L : Ml) (x1 : Int32), JF κ (PQ κ (Q_iw (kγ κ) E) 0 0) 157 [some (.ref (E.2.1 0)), some (.int x1)] [] E M L 0 0 (F_X6_atom0_k157  M L x1) := by
    intro M L x1
    unfold F_X6_atom0_k157
    refine j_aload_n C dX6_atom0_157 rfl rfl ?_
    refine j_callV_vw (st := []) C dX6_atom0_158 (ct_X6_fail (kγ κ) E M L h0) mi_X6_fail tw_1007 FC6 (MAt.S h0) rfl rfl (Nat.le_of_ble_eq_true rfl) ⟨⟨rfl, rfl⟩, ⟨Nat.le_of_ble_eq_true rfl, Nat.le_of_ble_eq_true rfl⟩, ⟨Nat.zero_le _, Nat.zero_le _⟩⟩ (fun r158 => ?_)
    refine j_iload_n C dX6_atom0_161 rfl rfl ?_
    exact j_iretw C dX6_atom0_162
  have k123 : ∀ (M : Mi) (L : Ml) (x1 : Int32), JF κ (PQ κ (Q_iw (kγ κ) E) 0 0) 123 [some (.ref (E.2.1 0)), some (.int x1)] [] E M L 0 0 (F_X6_atom0_k123  M L x1) := by
    intro M L x1
    unfold F_X6_atom0_k123
    refine j_aload_n C dX6_atom0_123 rfl rfl ?_
    refine j_getI (j := 26) C dX6_atom0_124 FC6 (MAt.S h0) (by decide) rfl tw_829 ?_
    refine j_if_ne (tgt := 157) C dX6_atom0_127 (by decide) ?_ ?_
    · exact k157 M L x1
    · refine j_aload_n C dX6_atom0_130 rfl rfl ?_
      refine j_getI (j := 22) C dX6_atom0_131 FC6 (MAt.S h0) (by decide) rfl tw_825 ?_
      refine j_iconst (v := (1 : Int32)) C dX6_atom0_134 rfl ?_
      refine j_icmp_ne (tgt := 157) C dX6_atom0_135 (by decide) ?_ ?_
      · exact k157 M L x1
      · refine j_aload_n C dX6_atom0_138 rfl rfl ?_
        refine j_callV_iw (st := []) C dX6_atom0_139 (ct_X6_name (kγ κ) E M L h0) mi_X6_name tw_1063 FC6 (MAt.S h0) rfl rfl (Nat.le_of_ble_eq_true rfl) ⟨⟨rfl, rfl⟩, ⟨Nat.le_of_ble_eq_true rfl, Nat.le_of_ble_eq_true rfl⟩, ⟨Nat.zero_le _, Nat.zero_le _⟩⟩ (fun r139 => ?_)
        refine j_istore_n (i := 1) (lv' := [some (.ref (E.2.1 0)), some (.int r139.1)]) C dX6_atom0_142 rfl (hn 1 (by decide)) rfl ?_
        refine j_aload_n C dX6_atom0_143 rfl rfl ?_
        refine j_getI (j := 26) C dX6_atom0_144 FC6 (MAt.S h0) (by decide) rfl tw_829 ?_
        refine j_if_ne (tgt := 161) C dX6_atom0_147 (by decide) ?_ ?_
        · refine j_iload_n C dX6_atom0_161 rfl rfl ?_
          exact j_iretw C dX6_atom0_162
        · refine j_aload_n C dX6_atom0_150 rfl rfl ?_
          refine j_callV_vw (st := []) C dX6_atom0_151 (ct_X6_next (kγ κ) E r139.2.1 r139.2.2 h0) mi_X6_next tw_982 FC6 (MAt.S h0) rfl rfl (Nat.le_of_ble_eq_true rfl) ⟨⟨rfl, rfl⟩, ⟨Nat.le_of_ble_eq_true rfl, Nat.le_of_ble_eq_true rfl⟩, ⟨Nat.zero_le _, Nat.zero_le _⟩⟩ (fun r151 => ?_)
          refine j_goto (tgt := 161) C dX6_atom0_154 (by decide) ?_
          refine j_iload_n C dX6_atom0_161 rfl rfl ?_
          exact j_iretw C dX6_atom0_162
  have k71 : ∀ (M : Mi) (L : Ml) (x1 : Int32), JF κ (PQ κ (Q_iw (kγ κ) E) 0 0) 71 [some (.ref (E.2.1 0)), some (.int x1)] [] E M L 0 0 (F_X6_atom0_k71  M L x1) := by
    intro M L x1
    unfold F_X6_atom0_k71
    refine j_aload_n C dX6_atom0_71 rfl rfl ?_
    refine j_dup C dX6_atom0_72 rfl ?_
    refine j_getI (j := 25) C dX6_atom0_73 FC6 (MAt.S h0) (by decide) rfl tw_828 ?_
    refine j_iconst (v := (1 : Int32)) C dX6_atom0_76 rfl ?_
    refine j_isub C dX6_atom0_77 ?_
    refine j_putI (j := 25) C dX6_atom0_78 FC6 (MAt.S h0) (by decide) rfl rfl rfl rfl tw_828 ?_
    refine j_aload_n C dX6_atom0_81 rfl rfl ?_
    refine j_pc (pc2 := 82) rfl ?_
    refine j_getI (j := 26) C dX6_atom0_82 FC6 (MAt.S h0) (by decide) rfl tw_829 ?_
    refine j_if_ne (tgt := 161) C dX6_atom0_85 (by decide) ?_ ?_
    · refine j_iload_n C dX6_atom0_161 rfl rfl ?_
      exact j_iretw C dX6_atom0_162
    · refine j_aload_n C dX6_atom0_88 rfl rfl ?_
      refine j_callV_vw (st := []) C dX6_atom0_89 (ct_X6_next (kγ κ) E (up2 M 0 25 ((M 0 25) - (1 : Int32))) L h0) mi_X6_next tw_982 FC6 (MAt.S h0) rfl rfl (Nat.le_of_ble_eq_true rfl) ⟨⟨rfl, rfl⟩, ⟨Nat.le_of_ble_eq_true rfl, Nat.le_of_ble_eq_true rfl⟩, ⟨Nat.zero_le _, Nat.zero_le _⟩⟩ (fun r89 => ?_)
      refine j_goto (tgt := 161) C dX6_atom0_92 (by decide) ?_
      refine j_iload_n C dX6_atom0_161 rfl rfl ?_
      exact j_iretw C dX6_atom0_162
  unfold F_X6_atom0
  refine j_iconst (v := (0 : Int32)) C dX6_atom0_0 rfl ?_
  refine j_istore_n (i := 1) (lv' := [some (.ref (E.2.1 0)), some (.int (0 : Int32))]) C dX6_atom0_1 rfl (hn 1 (by decide)) rfl ?_
  refine j_aload_n C dX6_atom0_2 rfl rfl ?_
  refine j_bipush (v := (45 : Int32)) C dX6_atom0_3 (by decide) ?_
  refine j_callV_i (st := []) C dX6_atom0_5 (ct_X6_isSign (kγ κ) E M L (45 : Int32) h0) mi_X6_isSign tw_1059 FC6 (MAt.S h0) rfl rfl (Nat.le_of_ble_eq_true rfl) ⟨⟨rfl, rfl⟩, ⟨Nat.le_of_ble_eq_true rfl, Nat.le_of_ble_eq_true rfl⟩, ⟨Nat.zero_le _, Nat.zero_le _⟩⟩ (fun v5 => ?_)
  refine j_if_eq (tgt := 37) C dX6_atom0_8 (by decide) ?_ ?_
  · refine j_aload_n C dX6_atom0_37 rfl rfl ?_
    refine j_bipush (v := (40 : Int32)) C dX6_atom0_38 (by decide) ?_
    refine j_callV_i (st := []) C dX6_atom0_40 (ct_X6_isSign (kγ κ) E M L (40 : Int32) h0) mi_X6_isSign tw_1059 FC6 (MAt.S h0) rfl rfl (Nat.le_of_ble_eq_true rfl) ⟨⟨rfl, rfl⟩, ⟨Nat.le_of_ble_eq_true rfl, Nat.le_of_ble_eq_true rfl⟩, ⟨Nat.zero_le _, Nat.zero_le _⟩⟩ (fun v40 => ?_)
    refine j_if_eq (tgt := 95) C dX6_atom0_43 (by decide) ?_ ?_
    · refine j_aload_n C dX6_atom0_95 rfl rfl ?_
      refine j_getI (j := 26) C dX6_atom0_96 FC6 (MAt.S h0) (by decide) rfl tw_829 ?_
      refine j_if_ne (tgt := 123) C dX6_atom0_99 (by decide) ?_ ?_
      · exact k123 M L ((0 : Int32))
      · refine j_aload_n C dX6_atom0_102 rfl rfl ?_
        refine j_getI (j := 22) C dX6_atom0_103 FC6 (MAt.S h0) (by decide) rfl tw_825 ?_
        refine j_iconst (v := (2 : Int32)) C dX6_atom0_106 rfl ?_
        refine j_icmp_ne (tgt := 123) C dX6_atom0_107 (by decide) ?_ ?_
        · exact k123 M L ((0 : Int32))
        · refine j_aload_n C dX6_atom0_110 rfl rfl ?_
          refine j_getL (j := 24) C dX6_atom0_111 FC6 (MAt.S h0) (by decide) rfl tw_827 ?_
          refine j_l2i C dX6_atom0_114 ?_
          refine j_istore_n (i := 1) (lv' := [some (.ref (E.2.1 0)), some (.int (Int64.toInt32 (L 0 24)))]) C dX6_atom0_115 rfl (hn 1 (by decide)) rfl ?_
          refine j_aload_n C dX6_atom0_116 rfl rfl ?_
          refine j_callV_vw (st := []) C dX6_atom0_117 (ct_X6_next (kγ κ) E M L h0) mi_X6_next tw_982 FC6 (MAt.S h0) rfl rfl (Nat.le_of_ble_eq_true rfl) ⟨⟨rfl, rfl⟩, ⟨Nat.le_of_ble_eq_true rfl, Nat.le_of_ble_eq_true rfl⟩, ⟨Nat.zero_le _, Nat.zero_le _⟩⟩ (fun r117 => ?_)
          refine j_goto (tgt := 161) C dX6_atom0_120 (by decide) ?_
          refine j_iload_n C dX6_atom0_161 rfl rfl ?_
          exact j_iretw C dX6_atom0_162
    · refine j_aload_n C dX6_atom0_46 rfl rfl ?_
      refine j_callV_iw (st := []) C dX6_atom0_47 (ct_X6_opens (kγ κ) E M L h0) mi_X6_opens tw_1023 FC6 (MAt.S h0) rfl rfl (Nat.le_of_ble_eq_true rfl) ⟨⟨rfl, rfl⟩, ⟨Nat.le_of_ble_eq_true rfl, Nat.le_of_ble_eq_true rfl⟩, ⟨Nat.zero_le _, Nat.zero_le _⟩⟩ (fun r47 => ?_)
      refine j_if_eq (tgt := 161) C dX6_atom0_50 (by decide) ?_ ?_
      · refine j_iload_n C dX6_atom0_161 rfl rfl ?_
        exact j_iretw C dX6_atom0_162
      · refine j_aload_n C dX6_atom0_53 rfl rfl ?_
        refine j_callV_iw (st := []) C dX6_atom0_54 (ct_X6_either1 (kγ κ) E r47.2.1 r47.2.2 h0) mi_X6_either1 tw_1161 FC6 (MAt.S h0) rfl rfl (Nat.le_of_ble_eq_true rfl) ⟨⟨rfl, rfl⟩, ⟨Nat.le_of_ble_eq_true rfl, Nat.le_of_ble_eq_true rfl⟩, ⟨Nat.zero_le _, Nat.zero_le _⟩⟩ (fun r54 => ?_)
        refine j_istore_n (i := 1) (lv' := [some (.ref (E.2.1 0)), some (.int r54.1)]) C dX6_atom0_57 rfl (hn 1 (by decide)) rfl ?_
        refine j_aload_n C dX6_atom0_58 rfl rfl ?_
        refine j_bipush (v := (41 : Int32)) C dX6_atom0_59 (by decide) ?_
        refine j_callV_i (st := []) C dX6_atom0_61 (ct_X6_isSign (kγ κ) E r54.2.1 r54.2.2 (41 : Int32) h0) mi_X6_isSign tw_1059 FC6 (MAt.S h0) rfl rfl (Nat.le_of_ble_eq_true rfl) ⟨⟨rfl, rfl⟩, ⟨Nat.le_of_ble_eq_true rfl, Nat.le_of_ble_eq_true rfl⟩, ⟨Nat.zero_le _, Nat.zero_le _⟩⟩ (fun v61 => ?_)
        refine j_if_ne (tgt := 71) C dX6_atom0_64 (by decide) ?_ ?_
        · exact k71 r54.2.1 r54.2.2 r54.1
        · refine j_aload_n C dX6_atom0_67 rfl rfl ?_
          refine j_callV_vw (st := []) C dX6_atom0_68 (ct_X6_fail (kγ κ) E r54.2.1 r54.2.2 h0) mi_X6_fail tw_1007 FC6 (MAt.S h0) rfl rfl (Nat.le_of_ble_eq_true rfl) ⟨⟨rfl, rfl⟩, ⟨Nat.le_of_ble_eq_true rfl, Nat.le_of_ble_eq_true rfl⟩, ⟨Nat.zero_le _, Nat.zero_le _⟩⟩ (fun r68 => ?_)
          exact k71 r68.1 r68.2 r54.1
  · refine j_aload_n C dX6_atom0_11 rfl rfl ?_
    refine j_callV_iw (st := []) C dX6_atom0_12 (ct_X6_opens (kγ κ) E M L h0) mi_X6_opens tw_1023 FC6 (MAt.S h0) rfl rfl (Nat.le_of_ble_eq_true rfl) ⟨⟨rfl, rfl⟩, ⟨Nat.le_of_ble_eq_true rfl, Nat.le_of_ble_eq_true rfl⟩, ⟨Nat.zero_le _, Nat.zero_le _⟩⟩ (fun r12 => ?_)
    refine j_if_eq (tgt := 161) C dX6_atom0_15 (by decide) ?_ ?_
    · refine j_iload_n C dX6_atom0_161 rfl rfl ?_
      exact j_iretw C dX6_atom0_162
    · refine j_aload_n C dX6_atom0_18 rfl rfl ?_
      refine j_callV_iw (st := []) C dX6_atom0_19 (ct_X6_atom1 (kγ κ) E r12.2.1 r12.2.2 h0) mi_X6_atom1 tw_1137 FC6 (MAt.S h0) rfl rfl (Nat.le_of_ble_eq_true rfl) ⟨⟨rfl, rfl⟩, ⟨Nat.le_of_ble_eq_true rfl, Nat.le_of_ble_eq_true rfl⟩, ⟨Nat.zero_le _, Nat.zero_le _⟩⟩ (fun r19 => ?_)
      refine j_ineg C dX6_atom0_22 ?_
      refine j_istore_n (i := 1) (lv' := [some (.ref (E.2.1 0)), some (.int (-r19.1))]) C dX6_atom0_23 rfl (hn 1 (by decide)) rfl ?_
      refine j_aload_n C dX6_atom0_24 rfl rfl ?_
      refine j_dup C dX6_atom0_25 rfl ?_
      refine j_getI (j := 25) C dX6_atom0_26 FC6 (MAt.S h0) (by decide) rfl tw_828 ?_
      refine j_pc (pc2 := 29) rfl ?_
      refine j_iconst (v := (1 : Int32)) C dX6_atom0_29 rfl ?_
      refine j_isub C dX6_atom0_30 ?_
      refine j_putI (j := 25) C dX6_atom0_31 FC6 (MAt.S h0) (by decide) rfl rfl rfl rfl tw_828 ?_
      refine j_goto (tgt := 161) C dX6_atom0_34 (by decide) ?_
      refine j_iload_n C dX6_atom0_161 rfl rfl ?_
      exact j_iretw C dX6_atom0_162
set_option maxRecDepth 100000 in
set_option maxHeartbeats 4000000 in
theorem ct_X6_term0 (γ : Gm) (E : Ev) (M : Mi) (L : Ml)   (h0 : MAt E) : Ct γ yX6_term0 cX6_term0 2 (some .int) ⟨35, 0, 0, 772⟩ [.ref (E.2.1 0)] E M L (Q_iw γ E) 0 0 (F_X6_term0 M L) := by
  refine ct_of (own := RX6) (lv := [some (.ref (E.2.1 0)), none]) (by decide +kernel) rfl rfl (Nat.le_of_ble_eq_true rfl) (fun κ C hγ hN => ?_)
  subst hγ
  have hn : ∀ i, i < 2 → i < knL κ := fun i h => by rw [hN]; exact h
  have k5 : ∀ (n : Nat) (M : Mi) (L : Ml) (x1 : Int32), JF κ (PQ κ (Q_iw (kγ κ) E) 0 0) 5 [some (.ref (E.2.1 0)), some (.int x1)] [] E M L 0 0 (F_X6_term0_k5  n M L x1) := by
    intro n
    induction n with
    | zero => intros; exact jf_none
    | succ n ih =>
      intro M L x1
      unfold F_X6_term0_k5
      refine j_aload_n C dX6_term0_5 rfl rfl ?_
      refine j_bipush (v := (42 : Int32)) C dX6_term0_6 (by decide) ?_
      refine j_callV_i (st := []) C dX6_term0_8 (ct_X6_isSign (kγ κ) E M L (42 : Int32) h0) mi_X6_isSign tw_1059 FC6 (MAt.S h0) rfl rfl (Nat.le_of_ble_eq_true rfl) ⟨⟨rfl, rfl⟩, ⟨Nat.le_of_ble_eq_true rfl, Nat.le_of_ble_eq_true rfl⟩, ⟨Nat.zero_le _, Nat.zero_le _⟩⟩ (fun v8 => ?_)
      refine j_if_eq (tgt := 28) C dX6_term0_11 (by decide) ?_ ?_
      · refine j_iload_n C dX6_term0_28 rfl rfl ?_
        exact j_iretw C dX6_term0_29
      · refine j_aload_n C dX6_term0_14 rfl rfl ?_
        refine j_callV_vw (st := []) C dX6_term0_15 (ct_X6_next (kγ κ) E M L h0) mi_X6_next tw_982 FC6 (MAt.S h0) rfl rfl (Nat.le_of_ble_eq_true rfl) ⟨⟨rfl, rfl⟩, ⟨Nat.le_of_ble_eq_true rfl, Nat.le_of_ble_eq_true rfl⟩, ⟨Nat.zero_le _, Nat.zero_le _⟩⟩ (fun r15 => ?_)
        refine j_iload_n C dX6_term0_18 rfl rfl ?_
        refine j_aload_n C dX6_term0_19 rfl rfl ?_
        refine j_callV_iw (st := [.int x1]) C dX6_term0_20 (ct_X6_atom0 (kγ κ) E r15.1 r15.2 h0) mi_X6_atom0 tw_1157 FC6 (MAt.S h0) rfl rfl (Nat.le_of_ble_eq_true rfl) ⟨⟨rfl, rfl⟩, ⟨Nat.le_of_ble_eq_true rfl, Nat.le_of_ble_eq_true rfl⟩, ⟨Nat.zero_le _, Nat.zero_le _⟩⟩ (fun r20 => ?_)
        refine j_imul C dX6_term0_23 ?_
        refine j_istore_n (i := 1) (lv' := [some (.ref (E.2.1 0)), some (.int (x1 * r20.1))]) C dX6_term0_24 rfl (hn 1 (by decide)) rfl ?_
        refine j_pc (pc2 := 25) rfl ?_
        refine j_goto (tgt := 5) C dX6_term0_25 (by decide) ?_
        exact ih r20.2.1 r20.2.2 ((x1 * r20.1))
  unfold F_X6_term0
  refine j_aload_n C dX6_term0_0 rfl rfl ?_
  refine j_callV_iw (st := []) C dX6_term0_1 (ct_X6_atom0 (kγ κ) E M L h0) mi_X6_atom0 tw_1157 FC6 (MAt.S h0) rfl rfl (Nat.le_of_ble_eq_true rfl) ⟨⟨rfl, rfl⟩, ⟨Nat.le_of_ble_eq_true rfl, Nat.le_of_ble_eq_true rfl⟩, ⟨Nat.zero_le _, Nat.zero_le _⟩⟩ (fun r1 => ?_)
  refine j_istore_n (i := 1) (lv' := [some (.ref (E.2.1 0)), some (.int r1.1)]) C dX6_term0_4 rfl (hn 1 (by decide)) rfl ?_
  exact k5 FU r1.2.1 r1.2.2 r1.1
set_option maxRecDepth 100000 in
set_option maxHeartbeats 4000000 in
theorem ct_X6_added0 (γ : Gm) (E : Ev) (M : Mi) (L : Ml)   (h0 : MAt E) : Ct γ yX6_added0 cX6_added0 4 (some .int) ⟨36, 0, 0, 793⟩ [.ref (E.2.1 0)] E M L (Q_iw γ E) 0 0 (F_X6_added0 M L) := by
  refine ct_of (own := RX6) (lv := [some (.ref (E.2.1 0)), none, none, none]) (by decide +kernel) rfl rfl (Nat.le_of_ble_eq_true rfl) (fun κ C hγ hN => ?_)
  subst hγ
  have hn : ∀ i, i < 4 → i < knL κ := fun i h => by rw [hN]; exact h
  have k62 : ∀ (kf5 : Mi → Ml → Int32 → Option (Int32 × Mi × Ml)), (∀ (M : Mi) (L : Ml) (x1 : Int32), JF κ (PQ κ (Q_iw (kγ κ) E) 0 0) 5 [some (.ref (E.2.1 0)), some (.int x1), none, none] [] E M L 0 0 (kf5 M L x1)) → ∀ (M : Mi) (L : Ml) (s0 : Int32), JF κ (PQ κ (Q_iw (kγ κ) E) 0 0) 62 [some (.ref (E.2.1 0)), none, none, none] [.int s0] E M L 0 0 (F_X6_added0_k62 kf5 M L s0) := by
    intro kf5 hkf5 M L s0
    unfold F_X6_added0_k62
    refine j_istore_n (i := 1) (lv' := [some (.ref (E.2.1 0)), some (.int s0), none, none]) C dX6_added0_62 rfl (hn 1 (by decide)) rfl ?_
    refine j_goto (tgt := 5) C dX6_added0_63 (by decide) ?_
    exact hkf5 M L s0
  have k39 : ∀ (kf5 : Mi → Ml → Int32 → Option (Int32 × Mi × Ml)), (∀ (M : Mi) (L : Ml) (x1 : Int32), JF κ (PQ κ (Q_iw (kγ κ) E) 0 0) 5 [some (.ref (E.2.1 0)), some (.int x1), none, none] [] E M L 0 0 (kf5 M L x1)) → ∀ (M : Mi) (L : Ml) (x1 : Int32) (s0 : Int32), JF κ (PQ κ (Q_iw (kγ κ) E) 0 0) 39 [some (.ref (E.2.1 0)), some (.int x1), none, none] [.int s0] E M L 0 0 (F_X6_added0_k39 kf5 M L x1 s0) := by
    intro kf5 hkf5 M L x1 s0
    unfold F_X6_added0_k39
    refine j_istore_n (i := 2) (lv' := [some (.ref (E.2.1 0)), some (.int x1), some (.int s0), none]) C dX6_added0_39 rfl (hn 2 (by decide)) rfl ?_
    refine j_aload_n C dX6_added0_40 rfl rfl ?_
    refine j_callV_vw (st := []) C dX6_added0_41 (ct_X6_next (kγ κ) E M L h0) mi_X6_next tw_982 FC6 (MAt.S h0) rfl rfl (Nat.le_of_ble_eq_true rfl) ⟨⟨rfl, rfl⟩, ⟨Nat.le_of_ble_eq_true rfl, Nat.le_of_ble_eq_true rfl⟩, ⟨Nat.zero_le _, Nat.zero_le _⟩⟩ (fun r41 => ?_)
    refine j_aload_n C dX6_added0_44 rfl rfl ?_
    refine j_callV_iw (st := []) C dX6_added0_45 (ct_X6_term0 (kγ κ) E r41.1 r41.2 h0) mi_X6_term0 tw_1153 FC6 (MAt.S h0) rfl rfl (Nat.le_of_ble_eq_true rfl) ⟨⟨rfl, rfl⟩, ⟨Nat.le_of_ble_eq_true rfl, Nat.le_of_ble_eq_true rfl⟩, ⟨Nat.zero_le _, Nat.zero_le _⟩⟩ (fun r45 => ?_)
    refine j_istore_n (i := 3) (lv' := [some (.ref (E.2.1 0)), some (.int x1), some (.int s0), some (.int r45.1)]) C dX6_added0_48 rfl (hn 3 (by decide)) rfl ?_
    refine j_iload_n C dX6_added0_49 rfl rfl ?_
    refine j_pc (pc2 := 50) rfl ?_
    refine j_if_eq (tgt := 59) C dX6_added0_50 (by decide) ?_ ?_
    · refine j_iload_n C dX6_added0_59 rfl rfl ?_
      refine j_iload_n C dX6_added0_60 rfl rfl ?_
      refine j_isub C dX6_added0_61 ?_
      refine j_mask [true, false, false, false] (lv' := [some (.ref (E.2.1 0)), none, none, none]) rfl ?_
      exact k62 kf5 hkf5 r45.2.1 r45.2.2 ((x1 - r45.1))
    · refine j_iload_n C dX6_added0_53 rfl rfl ?_
      refine j_iload_n C dX6_added0_54 rfl rfl ?_
      refine j_iadd C dX6_added0_55 ?_
      refine j_goto (tgt := 62) C dX6_added0_56 (by decide) ?_
      refine j_mask [true, false, false, false] (lv' := [some (.ref (E.2.1 0)), none, none, none]) rfl ?_
      exact k62 kf5 hkf5 r45.2.1 r45.2.2 ((x1 + r45.1))
  have k23 : ∀ (kf5 : Mi → Ml → Int32 → Option (Int32 × Mi × Ml)), (∀ (M : Mi) (L : Ml) (x1 : Int32), JF κ (PQ κ (Q_iw (kγ κ) E) 0 0) 5 [some (.ref (E.2.1 0)), some (.int x1), none, none] [] E M L 0 0 (kf5 M L x1)) → ∀ (M : Mi) (L : Ml) (x1 : Int32), JF κ (PQ κ (Q_iw (kγ κ) E) 0 0) 23 [some (.ref (E.2.1 0)), some (.int x1), none, none] [] E M L 0 0 (F_X6_added0_k23 kf5 M L x1) := by
    intro kf5 hkf5 M L x1
    unfold F_X6_added0_k23
    refine j_aload_n C dX6_added0_23 rfl rfl ?_
    refine j_getL (j := 24) C dX6_added0_24 FC6 (MAt.S h0) (by decide) rfl tw_827 ?_
    refine j_ldc2 (v := (43 : Int64)) C dX6_added0_27 tw_1067 ?_
    refine j_lcmp C dX6_added0_30 ?_
    refine j_if_ne (tgt := 38) C dX6_added0_31 (by decide) ?_ ?_
    · refine j_iconst (v := (0 : Int32)) C dX6_added0_38 rfl ?_
      exact k39 kf5 hkf5 M L x1 ((0 : Int32))
    · refine j_iconst (v := (1 : Int32)) C dX6_added0_34 rfl ?_
      refine j_goto (tgt := 39) C dX6_added0_35 (by decide) ?_
      exact k39 kf5 hkf5 M L x1 ((1 : Int32))
  have k5 : ∀ (n : Nat) (M : Mi) (L : Ml) (x1 : Int32), JF κ (PQ κ (Q_iw (kγ κ) E) 0 0) 5 [some (.ref (E.2.1 0)), some (.int x1), none, none] [] E M L 0 0 (F_X6_added0_k5  n M L x1) := by
    intro n
    induction n with
    | zero => intros; exact jf_none
    | succ n ih =>
      intro M L x1
      unfold F_X6_added0_k5
      refine j_aload_n C dX6_added0_5 rfl rfl ?_
      refine j_bipush (v := (43 : Int32)) C dX6_added0_6 (by decide) ?_
      refine j_callV_i (st := []) C dX6_added0_8 (ct_X6_isSign (kγ κ) E M L (43 : Int32) h0) mi_X6_isSign tw_1059 FC6 (MAt.S h0) rfl rfl (Nat.le_of_ble_eq_true rfl) ⟨⟨rfl, rfl⟩, ⟨Nat.le_of_ble_eq_true rfl, Nat.le_of_ble_eq_true rfl⟩, ⟨Nat.zero_le _, Nat.zero_le _⟩⟩ (fun v8 => ?_)
      refine j_if_ne (tgt := 23) C dX6_added0_11 (by decide) ?_ ?_
      · exact k23 (F_X6_added0_k5  n) ih M L x1
      · refine j_aload_n C dX6_added0_14 rfl rfl ?_
        refine j_bipush (v := (45 : Int32)) C dX6_added0_15 (by decide) ?_
        refine j_callV_i (st := []) C dX6_added0_17 (ct_X6_isSign (kγ κ) E M L (45 : Int32) h0) mi_X6_isSign tw_1059 FC6 (MAt.S h0) rfl rfl (Nat.le_of_ble_eq_true rfl) ⟨⟨rfl, rfl⟩, ⟨Nat.le_of_ble_eq_true rfl, Nat.le_of_ble_eq_true rfl⟩, ⟨Nat.zero_le _, Nat.zero_le _⟩⟩ (fun v17 => ?_)
        refine j_if_eq (tgt := 66) C dX6_added0_20 (by decide) ?_ ?_
        · refine j_iload_n C dX6_added0_66 rfl rfl ?_
          exact j_iretw C dX6_added0_67
        · exact k23 (F_X6_added0_k5  n) ih M L x1
  unfold F_X6_added0
  refine j_aload_n C dX6_added0_0 rfl rfl ?_
  refine j_callV_iw (st := []) C dX6_added0_1 (ct_X6_term0 (kγ κ) E M L h0) mi_X6_term0 tw_1153 FC6 (MAt.S h0) rfl rfl (Nat.le_of_ble_eq_true rfl) ⟨⟨rfl, rfl⟩, ⟨Nat.le_of_ble_eq_true rfl, Nat.le_of_ble_eq_true rfl⟩, ⟨Nat.zero_le _, Nat.zero_le _⟩⟩ (fun r1 => ?_)
  refine j_istore_n (i := 1) (lv' := [some (.ref (E.2.1 0)), some (.int r1.1), none, none]) C dX6_added0_4 rfl (hn 1 (by decide)) rfl ?_
  exact k5 FU r1.2.1 r1.2.2 r1.1
set_option maxRecDepth 100000 in
set_option maxHeartbeats 4000000 in
theorem ct_X6_not0 (γ : Gm) (E : Ev) (M : Mi) (L : Ml)   (h0 : MAt E) : Ct γ yX6_not0 cX6_not0 4 (some .int) ⟨37, 0, 0, 816⟩ [.ref (E.2.1 0)] E M L (Q_iw γ E) 0 0 (F_X6_not0 M L) := by
  refine ct_of (own := RX6) (lv := [some (.ref (E.2.1 0)), none, none, none]) (by decide +kernel) rfl rfl (Nat.le_of_ble_eq_true rfl) (fun κ C hγ hN => ?_)
  subst hγ
  have hn : ∀ i, i < 4 → i < knL κ := fun i h => by rw [hN]; exact h
  have k120 : ∀ (M : Mi) (L : Ml), JF κ (PQ κ (Q_iw (kγ κ) E) 0 0) 120 [none, none, none, none] [] E M L 0 0 (F_X6_not0_k120  M L) := by
    intro M L
    unfold F_X6_not0_k120
    refine j_iconst (v := (1 : Int32)) C dX6_not0_120 rfl ?_
    refine j_goto (tgt := 125) C dX6_not0_121 (by decide) ?_
    exact j_iretw C dX6_not0_125
  have k93 : ∀ (M : Mi) (L : Ml) (x1 : Int32) (s0 : Int32), JF κ (PQ κ (Q_iw (kγ κ) E) 0 0) 93 [some (.ref (E.2.1 0)), some (.int x1), none, none] [.int s0] E M L 0 0 (F_X6_not0_k93  M L x1 s0) := by
    intro M L x1 s0
    unfold F_X6_not0_k93
    refine j_istore_n (i := 2) (lv' := [some (.ref (E.2.1 0)), some (.int x1), some (.int s0), none]) C dX6_not0_93 rfl (hn 2 (by decide)) rfl ?_
    refine j_aload_n C dX6_not0_94 rfl rfl ?_
    refine j_callV_vw (st := []) C dX6_not0_95 (ct_X6_next (kγ κ) E M L h0) mi_X6_next tw_982 FC6 (MAt.S h0) rfl rfl (Nat.le_of_ble_eq_true rfl) ⟨⟨rfl, rfl⟩, ⟨Nat.le_of_ble_eq_true rfl, Nat.le_of_ble_eq_true rfl⟩, ⟨Nat.zero_le _, Nat.zero_le _⟩⟩ (fun r95 => ?_)
    refine j_aload_n C dX6_not0_98 rfl rfl ?_
    refine j_callV_iw (st := []) C dX6_not0_99 (ct_X6_added0 (kγ κ) E r95.1 r95.2 h0) mi_X6_added0 tw_1149 FC6 (MAt.S h0) rfl rfl (Nat.le_of_ble_eq_true rfl) ⟨⟨rfl, rfl⟩, ⟨Nat.le_of_ble_eq_true rfl, Nat.le_of_ble_eq_true rfl⟩, ⟨Nat.zero_le _, Nat.zero_le _⟩⟩ (fun r99 => ?_)
    refine j_istore_n (i := 3) (lv' := [some (.ref (E.2.1 0)), some (.int x1), some (.int s0), some (.int r99.1)]) C dX6_not0_102 rfl (hn 3 (by decide)) rfl ?_
    refine j_iload_n C dX6_not0_103 rfl rfl ?_
    refine j_pc (pc2 := 104) rfl ?_
    refine j_if_eq (tgt := 115) C dX6_not0_104 (by decide) ?_ ?_
    · refine j_iload_n C dX6_not0_115 rfl rfl ?_
      refine j_iload_n C dX6_not0_116 rfl rfl ?_
      refine j_icmp_ne (tgt := 124) C dX6_not0_117 (by decide) ?_ ?_
      · refine j_iconst (v := (0 : Int32)) C dX6_not0_124 rfl ?_
        exact j_iretw C dX6_not0_125
      · refine j_mask [false, false, false, false] (lv' := [none, none, none, none]) rfl ?_
        exact k120 r99.2.1 r99.2.2
    · refine j_iload_n C dX6_not0_107 rfl rfl ?_
      refine j_iload_n C dX6_not0_108 rfl rfl ?_
      refine j_icmp_ge (tgt := 124) C dX6_not0_109 (by decide) ?_ ?_
      · refine j_iconst (v := (0 : Int32)) C dX6_not0_124 rfl ?_
        exact j_iretw C dX6_not0_125
      · refine j_goto (tgt := 120) C dX6_not0_112 (by decide) ?_
        refine j_mask [false, false, false, false] (lv' := [none, none, none, none]) rfl ?_
        exact k120 r99.2.1 r99.2.2
  have k77 : ∀ (M : Mi) (L : Ml) (x1 : Int32), JF κ (PQ κ (Q_iw (kγ κ) E) 0 0) 77 [some (.ref (E.2.1 0)), some (.int x1), none, none] [] E M L 0 0 (F_X6_not0_k77  M L x1) := by
    intro M L x1
    unfold F_X6_not0_k77
    refine j_aload_n C dX6_not0_77 rfl rfl ?_
    refine j_getL (j := 24) C dX6_not0_78 FC6 (MAt.S h0) (by decide) rfl tw_827 ?_
    refine j_ldc2 (v := (60 : Int64)) C dX6_not0_81 tw_1068 ?_
    refine j_lcmp C dX6_not0_84 ?_
    refine j_if_ne (tgt := 92) C dX6_not0_85 (by decide) ?_ ?_
    · refine j_iconst (v := (0 : Int32)) C dX6_not0_92 rfl ?_
      exact k93 M L x1 ((0 : Int32))
    · refine j_iconst (v := (1 : Int32)) C dX6_not0_88 rfl ?_
      refine j_goto (tgt := 93) C dX6_not0_89 (by decide) ?_
      exact k93 M L x1 ((1 : Int32))
  unfold F_X6_not0
  refine j_aload_n C dX6_not0_0 rfl rfl ?_
  refine j_bipush (v := (110 : Int32)) C dX6_not0_1 (by decide) ?_
  refine j_bipush (v := (111 : Int32)) C dX6_not0_3 (by decide) ?_
  refine j_bipush (v := (116 : Int32)) C dX6_not0_5 (by decide) ?_
  refine j_iconst (v := (0 : Int32)) C dX6_not0_7 rfl ?_
  refine j_iconst (v := (0 : Int32)) C dX6_not0_8 rfl ?_
  refine j_iconst (v := (0 : Int32)) C dX6_not0_9 rfl ?_
  refine j_pc (pc2 := 10) rfl ?_
  refine j_iconst (v := (0 : Int32)) C dX6_not0_10 rfl ?_
  refine j_iconst (v := (0 : Int32)) C dX6_not0_11 rfl ?_
  refine j_callV_i (st := []) C dX6_not0_12 (ct_X6_isWord (kγ κ) E M L (110 : Int32) (111 : Int32) (116 : Int32) (0 : Int32) (0 : Int32) (0 : Int32) (0 : Int32) (0 : Int32) h0) mi_X6_isWord tw_995 FC6 (MAt.S h0) rfl rfl (Nat.le_of_ble_eq_true rfl) ⟨⟨rfl, rfl⟩, ⟨Nat.le_of_ble_eq_true rfl, Nat.le_of_ble_eq_true rfl⟩, ⟨Nat.zero_le _, Nat.zero_le _⟩⟩ (fun v12 => ?_)
  refine j_if_eq (tgt := 52) C dX6_not0_15 (by decide) ?_ ?_
  · refine j_aload_n C dX6_not0_52 rfl rfl ?_
    refine j_callV_iw (st := []) C dX6_not0_53 (ct_X6_added0 (kγ κ) E M L h0) mi_X6_added0 tw_1149 FC6 (MAt.S h0) rfl rfl (Nat.le_of_ble_eq_true rfl) ⟨⟨rfl, rfl⟩, ⟨Nat.le_of_ble_eq_true rfl, Nat.le_of_ble_eq_true rfl⟩, ⟨Nat.zero_le _, Nat.zero_le _⟩⟩ (fun r53 => ?_)
    refine j_istore_n (i := 1) (lv' := [some (.ref (E.2.1 0)), some (.int r53.1), none, none]) C dX6_not0_56 rfl (hn 1 (by decide)) rfl ?_
    refine j_aload_n C dX6_not0_57 rfl rfl ?_
    refine j_bipush (v := (60 : Int32)) C dX6_not0_58 (by decide) ?_
    refine j_callV_i (st := []) C dX6_not0_60 (ct_X6_isSign (kγ κ) E r53.2.1 r53.2.2 (60 : Int32) h0) mi_X6_isSign tw_1059 FC6 (MAt.S h0) rfl rfl (Nat.le_of_ble_eq_true rfl) ⟨⟨rfl, rfl⟩, ⟨Nat.le_of_ble_eq_true rfl, Nat.le_of_ble_eq_true rfl⟩, ⟨Nat.zero_le _, Nat.zero_le _⟩⟩ (fun v60 => ?_)
    refine j_if_ne (tgt := 77) C dX6_not0_63 (by decide) ?_ ?_
    · exact k77 r53.2.1 r53.2.2 r53.1
    · refine j_aload_n C dX6_not0_66 rfl rfl ?_
      refine j_bipush (v := (61 : Int32)) C dX6_not0_67 (by decide) ?_
      refine j_callV_i (st := []) C dX6_not0_69 (ct_X6_isSign (kγ κ) E r53.2.1 r53.2.2 (61 : Int32) h0) mi_X6_isSign tw_1059 FC6 (MAt.S h0) rfl rfl (Nat.le_of_ble_eq_true rfl) ⟨⟨rfl, rfl⟩, ⟨Nat.le_of_ble_eq_true rfl, Nat.le_of_ble_eq_true rfl⟩, ⟨Nat.zero_le _, Nat.zero_le _⟩⟩ (fun v69 => ?_)
      refine j_if_ne (tgt := 77) C dX6_not0_72 (by decide) ?_ ?_
      · exact k77 r53.2.1 r53.2.2 r53.1
      · refine j_iload_n C dX6_not0_75 rfl rfl ?_
        exact j_iretw C dX6_not0_76
  · refine j_aload_n C dX6_not0_18 rfl rfl ?_
    refine j_callV_iw (st := []) C dX6_not0_19 (ct_X6_opens (kγ κ) E M L h0) mi_X6_opens tw_1023 FC6 (MAt.S h0) rfl rfl (Nat.le_of_ble_eq_true rfl) ⟨⟨rfl, rfl⟩, ⟨Nat.le_of_ble_eq_true rfl, Nat.le_of_ble_eq_true rfl⟩, ⟨Nat.zero_le _, Nat.zero_le _⟩⟩ (fun r19 => ?_)
    refine j_if_ne (tgt := 27) C dX6_not0_22 (by decide) ?_ ?_
    · refine j_aload_n C dX6_not0_27 rfl rfl ?_
      refine j_callV_iw (st := []) C dX6_not0_28 (ct_X6_not1 (kγ κ) E r19.2.1 r19.2.2 h0) mi_X6_not1 tw_1027 FC6 (MAt.S h0) rfl rfl (Nat.le_of_ble_eq_true rfl) ⟨⟨rfl, rfl⟩, ⟨Nat.le_of_ble_eq_true rfl, Nat.le_of_ble_eq_true rfl⟩, ⟨Nat.zero_le _, Nat.zero_le _⟩⟩ (fun r28 => ?_)
      refine j_istore_n (i := 1) (lv' := [some (.ref (E.2.1 0)), some (.int r28.1), none, none]) C dX6_not0_31 rfl (hn 1 (by decide)) rfl ?_
      refine j_aload_n C dX6_not0_32 rfl rfl ?_
      refine j_dup C dX6_not0_33 rfl ?_
      refine j_getI (j := 25) C dX6_not0_34 FC6 (MAt.S h0) (by decide) rfl tw_828 ?_
      refine j_iconst (v := (1 : Int32)) C dX6_not0_37 rfl ?_
      refine j_pc (pc2 := 38) rfl ?_
      refine j_isub C dX6_not0_38 ?_
      refine j_putI (j := 25) C dX6_not0_39 FC6 (MAt.S h0) (by decide) rfl rfl rfl rfl tw_828 ?_
      refine j_iload_n C dX6_not0_42 rfl rfl ?_
      refine j_if_ne (tgt := 50) C dX6_not0_43 (by decide) ?_ ?_
      · refine j_iconst (v := (0 : Int32)) C dX6_not0_50 rfl ?_
        exact j_iretw C dX6_not0_51
      · refine j_iconst (v := (1 : Int32)) C dX6_not0_46 rfl ?_
        refine j_goto (tgt := 51) C dX6_not0_47 (by decide) ?_
        exact j_iretw C dX6_not0_51
    · refine j_iconst (v := (0 : Int32)) C dX6_not0_25 rfl ?_
      exact j_iretw C dX6_not0_26
set_option maxRecDepth 100000 in
set_option maxHeartbeats 4000000 in
theorem ct_X6_both0 (γ : Gm) (E : Ev) (M : Mi) (L : Ml)   (h0 : MAt E) : Ct γ yX6_both0 cX6_both0 3 (some .int) ⟨38, 0, 0, 839⟩ [.ref (E.2.1 0)] E M L (Q_iw γ E) 0 0 (F_X6_both0 M L) := by
  refine ct_of (own := RX6) (lv := [some (.ref (E.2.1 0)), none, none]) (by decide +kernel) rfl rfl (Nat.le_of_ble_eq_true rfl) (fun κ C hγ hN => ?_)
  subst hγ
  have hn : ∀ i, i < 3 → i < knL κ := fun i h => by rw [hN]; exact h
  have k45 : ∀ (kf5 : Mi → Ml → Int32 → Option (Int32 × Mi × Ml)), (∀ (M : Mi) (L : Ml) (x1 : Int32), JF κ (PQ κ (Q_iw (kγ κ) E) 0 0) 5 [some (.ref (E.2.1 0)), some (.int x1), none] [] E M L 0 0 (kf5 M L x1)) → ∀ (M : Mi) (L : Ml) (s0 : Int32), JF κ (PQ κ (Q_iw (kγ κ) E) 0 0) 45 [some (.ref (E.2.1 0)), none, none] [.int s0] E M L 0 0 (F_X6_both0_k45 kf5 M L s0) := by
    intro kf5 hkf5 M L s0
    unfold F_X6_both0_k45
    refine j_istore_n (i := 1) (lv' := [some (.ref (E.2.1 0)), some (.int s0), none]) C dX6_both0_45 rfl (hn 1 (by decide)) rfl ?_
    refine j_goto (tgt := 5) C dX6_both0_46 (by decide) ?_
    exact hkf5 M L s0
  have k44 : ∀ (kf5 : Mi → Ml → Int32 → Option (Int32 × Mi × Ml)), (∀ (M : Mi) (L : Ml) (x1 : Int32), JF κ (PQ κ (Q_iw (kγ κ) E) 0 0) 5 [some (.ref (E.2.1 0)), some (.int x1), none] [] E M L 0 0 (kf5 M L x1)) → ∀ (M : Mi) (L : Ml), JF κ (PQ κ (Q_iw (kγ κ) E) 0 0) 44 [some (.ref (E.2.1 0)), none, none] [] E M L 0 0 (F_X6_both0_k44 kf5 M L) := by
    intro kf5 hkf5 M L
    unfold F_X6_both0_k44
    refine j_iconst (v := (0 : Int32)) C dX6_both0_44 rfl ?_
    exact k45 kf5 hkf5 M L ((0 : Int32))
  have k5 : ∀ (n : Nat) (M : Mi) (L : Ml) (x1 : Int32), JF κ (PQ κ (Q_iw (kγ κ) E) 0 0) 5 [some (.ref (E.2.1 0)), some (.int x1), none] [] E M L 0 0 (F_X6_both0_k5  n M L x1) := by
    intro n
    induction n with
    | zero => intros; exact jf_none
    | succ n ih =>
      intro M L x1
      unfold F_X6_both0_k5
      refine j_aload_n C dX6_both0_5 rfl rfl ?_
      refine j_bipush (v := (97 : Int32)) C dX6_both0_6 (by decide) ?_
      refine j_bipush (v := (110 : Int32)) C dX6_both0_8 (by decide) ?_
      refine j_bipush (v := (100 : Int32)) C dX6_both0_10 (by decide) ?_
      refine j_iconst (v := (0 : Int32)) C dX6_both0_12 rfl ?_
      refine j_iconst (v := (0 : Int32)) C dX6_both0_13 rfl ?_
      refine j_iconst (v := (0 : Int32)) C dX6_both0_14 rfl ?_
      refine j_pc (pc2 := 15) rfl ?_
      refine j_iconst (v := (0 : Int32)) C dX6_both0_15 rfl ?_
      refine j_iconst (v := (0 : Int32)) C dX6_both0_16 rfl ?_
      refine j_callV_i (st := []) C dX6_both0_17 (ct_X6_isWord (kγ κ) E M L (97 : Int32) (110 : Int32) (100 : Int32) (0 : Int32) (0 : Int32) (0 : Int32) (0 : Int32) (0 : Int32) h0) mi_X6_isWord tw_995 FC6 (MAt.S h0) rfl rfl (Nat.le_of_ble_eq_true rfl) ⟨⟨rfl, rfl⟩, ⟨Nat.le_of_ble_eq_true rfl, Nat.le_of_ble_eq_true rfl⟩, ⟨Nat.zero_le _, Nat.zero_le _⟩⟩ (fun v17 => ?_)
      refine j_if_eq (tgt := 49) C dX6_both0_20 (by decide) ?_ ?_
      · refine j_iload_n C dX6_both0_49 rfl rfl ?_
        exact j_iretw C dX6_both0_50
      · refine j_aload_n C dX6_both0_23 rfl rfl ?_
        refine j_callV_vw (st := []) C dX6_both0_24 (ct_X6_next (kγ κ) E M L h0) mi_X6_next tw_982 FC6 (MAt.S h0) rfl rfl (Nat.le_of_ble_eq_true rfl) ⟨⟨rfl, rfl⟩, ⟨Nat.le_of_ble_eq_true rfl, Nat.le_of_ble_eq_true rfl⟩, ⟨Nat.zero_le _, Nat.zero_le _⟩⟩ (fun r24 => ?_)
        refine j_aload_n C dX6_both0_27 rfl rfl ?_
        refine j_callV_iw (st := []) C dX6_both0_28 (ct_X6_not0 (kγ κ) E r24.1 r24.2 h0) mi_X6_not0 tw_1019 FC6 (MAt.S h0) rfl rfl (Nat.le_of_ble_eq_true rfl) ⟨⟨rfl, rfl⟩, ⟨Nat.le_of_ble_eq_true rfl, Nat.le_of_ble_eq_true rfl⟩, ⟨Nat.zero_le _, Nat.zero_le _⟩⟩ (fun r28 => ?_)
        refine j_istore_n (i := 2) (lv' := [some (.ref (E.2.1 0)), some (.int x1), some (.int r28.1)]) C dX6_both0_31 rfl (hn 2 (by decide)) rfl ?_
        refine j_iload_n C dX6_both0_32 rfl rfl ?_
        refine j_if_eq (tgt := 44) C dX6_both0_33 (by decide) ?_ ?_
        · refine j_mask [true, false, false] (lv' := [some (.ref (E.2.1 0)), none, none]) rfl ?_
          exact k44 (F_X6_both0_k5  n) ih r28.2.1 r28.2.2
        · refine j_iload_n C dX6_both0_36 rfl rfl ?_
          refine j_if_eq (tgt := 44) C dX6_both0_37 (by decide) ?_ ?_
          · refine j_mask [true, false, false] (lv' := [some (.ref (E.2.1 0)), none, none]) rfl ?_
            exact k44 (F_X6_both0_k5  n) ih r28.2.1 r28.2.2
          · refine j_iconst (v := (1 : Int32)) C dX6_both0_40 rfl ?_
            refine j_goto (tgt := 45) C dX6_both0_41 (by decide) ?_
            refine j_mask [true, false, false] (lv' := [some (.ref (E.2.1 0)), none, none]) rfl ?_
            exact k45 (F_X6_both0_k5  n) ih r28.2.1 r28.2.2 ((1 : Int32))
  unfold F_X6_both0
  refine j_aload_n C dX6_both0_0 rfl rfl ?_
  refine j_callV_iw (st := []) C dX6_both0_1 (ct_X6_not0 (kγ κ) E M L h0) mi_X6_not0 tw_1019 FC6 (MAt.S h0) rfl rfl (Nat.le_of_ble_eq_true rfl) ⟨⟨rfl, rfl⟩, ⟨Nat.le_of_ble_eq_true rfl, Nat.le_of_ble_eq_true rfl⟩, ⟨Nat.zero_le _, Nat.zero_le _⟩⟩ (fun r1 => ?_)
  refine j_istore_n (i := 1) (lv' := [some (.ref (E.2.1 0)), some (.int r1.1), none]) C dX6_both0_4 rfl (hn 1 (by decide)) rfl ?_
  exact k5 FU r1.2.1 r1.2.2 r1.1
set_option maxRecDepth 100000 in
set_option maxHeartbeats 4000000 in
theorem ct_X6_either0 (γ : Gm) (E : Ev) (M : Mi) (L : Ml)   (h0 : MAt E) : Ct γ yX6_either0 cX6_either0 3 (some .int) ⟨39, 0, 0, 861⟩ [.ref (E.2.1 0)] E M L (Q_iw γ E) 0 0 (F_X6_either0 M L) := by
  refine ct_of (own := RX6) (lv := [some (.ref (E.2.1 0)), none, none]) (by decide +kernel) rfl rfl (Nat.le_of_ble_eq_true rfl) (fun κ C hγ hN => ?_)
  subst hγ
  have hn : ∀ i, i < 3 → i < knL κ := fun i h => by rw [hN]; exact h
  have k44 : ∀ (kf5 : Mi → Ml → Int32 → Option (Int32 × Mi × Ml)), (∀ (M : Mi) (L : Ml) (x1 : Int32), JF κ (PQ κ (Q_iw (kγ κ) E) 0 0) 5 [some (.ref (E.2.1 0)), some (.int x1), none] [] E M L 0 0 (kf5 M L x1)) → ∀ (M : Mi) (L : Ml) (s0 : Int32), JF κ (PQ κ (Q_iw (kγ κ) E) 0 0) 44 [some (.ref (E.2.1 0)), none, none] [.int s0] E M L 0 0 (F_X6_either0_k44 kf5 M L s0) := by
    intro kf5 hkf5 M L s0
    unfold F_X6_either0_k44
    refine j_istore_n (i := 1) (lv' := [some (.ref (E.2.1 0)), some (.int s0), none]) C dX6_either0_44 rfl (hn 1 (by decide)) rfl ?_
    refine j_goto (tgt := 5) C dX6_either0_45 (by decide) ?_
    exact hkf5 M L s0
  have k39 : ∀ (kf5 : Mi → Ml → Int32 → Option (Int32 × Mi × Ml)), (∀ (M : Mi) (L : Ml) (x1 : Int32), JF κ (PQ κ (Q_iw (kγ κ) E) 0 0) 5 [some (.ref (E.2.1 0)), some (.int x1), none] [] E M L 0 0 (kf5 M L x1)) → ∀ (M : Mi) (L : Ml), JF κ (PQ κ (Q_iw (kγ κ) E) 0 0) 39 [some (.ref (E.2.1 0)), none, none] [] E M L 0 0 (F_X6_either0_k39 kf5 M L) := by
    intro kf5 hkf5 M L
    unfold F_X6_either0_k39
    refine j_iconst (v := (1 : Int32)) C dX6_either0_39 rfl ?_
    refine j_goto (tgt := 44) C dX6_either0_40 (by decide) ?_
    exact k44 kf5 hkf5 M L ((1 : Int32))
  have k5 : ∀ (n : Nat) (M : Mi) (L : Ml) (x1 : Int32), JF κ (PQ κ (Q_iw (kγ κ) E) 0 0) 5 [some (.ref (E.2.1 0)), some (.int x1), none] [] E M L 0 0 (F_X6_either0_k5  n M L x1) := by
    intro n
    induction n with
    | zero => intros; exact jf_none
    | succ n ih =>
      intro M L x1
      unfold F_X6_either0_k5
      refine j_aload_n C dX6_either0_5 rfl rfl ?_
      refine j_bipush (v := (111 : Int32)) C dX6_either0_6 (by decide) ?_
      refine j_bipush (v := (114 : Int32)) C dX6_either0_8 (by decide) ?_
      refine j_iconst (v := (0 : Int32)) C dX6_either0_10 rfl ?_
      refine j_iconst (v := (0 : Int32)) C dX6_either0_11 rfl ?_
      refine j_iconst (v := (0 : Int32)) C dX6_either0_12 rfl ?_
      refine j_iconst (v := (0 : Int32)) C dX6_either0_13 rfl ?_
      refine j_pc (pc2 := 14) rfl ?_
      refine j_iconst (v := (0 : Int32)) C dX6_either0_14 rfl ?_
      refine j_iconst (v := (0 : Int32)) C dX6_either0_15 rfl ?_
      refine j_callV_i (st := []) C dX6_either0_16 (ct_X6_isWord (kγ κ) E M L (111 : Int32) (114 : Int32) (0 : Int32) (0 : Int32) (0 : Int32) (0 : Int32) (0 : Int32) (0 : Int32) h0) mi_X6_isWord tw_995 FC6 (MAt.S h0) rfl rfl (Nat.le_of_ble_eq_true rfl) ⟨⟨rfl, rfl⟩, ⟨Nat.le_of_ble_eq_true rfl, Nat.le_of_ble_eq_true rfl⟩, ⟨Nat.zero_le _, Nat.zero_le _⟩⟩ (fun v16 => ?_)
      refine j_if_eq (tgt := 48) C dX6_either0_19 (by decide) ?_ ?_
      · refine j_iload_n C dX6_either0_48 rfl rfl ?_
        exact j_iretw C dX6_either0_49
      · refine j_aload_n C dX6_either0_22 rfl rfl ?_
        refine j_callV_vw (st := []) C dX6_either0_23 (ct_X6_next (kγ κ) E M L h0) mi_X6_next tw_982 FC6 (MAt.S h0) rfl rfl (Nat.le_of_ble_eq_true rfl) ⟨⟨rfl, rfl⟩, ⟨Nat.le_of_ble_eq_true rfl, Nat.le_of_ble_eq_true rfl⟩, ⟨Nat.zero_le _, Nat.zero_le _⟩⟩ (fun r23 => ?_)
        refine j_aload_n C dX6_either0_26 rfl rfl ?_
        refine j_callV_iw (st := []) C dX6_either0_27 (ct_X6_both0 (kγ κ) E r23.1 r23.2 h0) mi_X6_both0 tw_1015 FC6 (MAt.S h0) rfl rfl (Nat.le_of_ble_eq_true rfl) ⟨⟨rfl, rfl⟩, ⟨Nat.le_of_ble_eq_true rfl, Nat.le_of_ble_eq_true rfl⟩, ⟨Nat.zero_le _, Nat.zero_le _⟩⟩ (fun r27 => ?_)
        refine j_istore_n (i := 2) (lv' := [some (.ref (E.2.1 0)), some (.int x1), some (.int r27.1)]) C dX6_either0_30 rfl (hn 2 (by decide)) rfl ?_
        refine j_iload_n C dX6_either0_31 rfl rfl ?_
        refine j_if_ne (tgt := 39) C dX6_either0_32 (by decide) ?_ ?_
        · refine j_mask [true, false, false] (lv' := [some (.ref (E.2.1 0)), none, none]) rfl ?_
          exact k39 (F_X6_either0_k5  n) ih r27.2.1 r27.2.2
        · refine j_iload_n C dX6_either0_35 rfl rfl ?_
          refine j_if_eq (tgt := 43) C dX6_either0_36 (by decide) ?_ ?_
          · refine j_iconst (v := (0 : Int32)) C dX6_either0_43 rfl ?_
            refine j_mask [true, false, false] (lv' := [some (.ref (E.2.1 0)), none, none]) rfl ?_
            exact k44 (F_X6_either0_k5  n) ih r27.2.1 r27.2.2 ((0 : Int32))
          · refine j_mask [true, false, false] (lv' := [some (.ref (E.2.1 0)), none, none]) rfl ?_
            exact k39 (F_X6_either0_k5  n) ih r27.2.1 r27.2.2
  unfold F_X6_either0
  refine j_aload_n C dX6_either0_0 rfl rfl ?_
  refine j_callV_iw (st := []) C dX6_either0_1 (ct_X6_both0 (kγ κ) E M L h0) mi_X6_both0 tw_1015 FC6 (MAt.S h0) rfl rfl (Nat.le_of_ble_eq_true rfl) ⟨⟨rfl, rfl⟩, ⟨Nat.le_of_ble_eq_true rfl, Nat.le_of_ble_eq_true rfl⟩, ⟨Nat.zero_le _, Nat.zero_le _⟩⟩ (fun r1 => ?_)
  refine j_istore_n (i := 1) (lv' := [some (.ref (E.2.1 0)), some (.int r1.1), none]) C dX6_either0_4 rfl (hn 1 (by decide)) rfl ?_
  exact k5 FU r1.2.1 r1.2.2 r1.1
set_option maxRecDepth 100000 in
set_option maxHeartbeats 4000000 in
theorem ct_X6_part (γ : Gm) (E : Ev) (M : Mi) (L : Ml)  (x1 : Int32) (h0 : MAt E) : Ct γ yX6_part cX6_part 3 (some .int) ⟨40, 0, 0, 883⟩ [.ref (E.2.1 0), .int x1] E M L (Q_iw γ E) 0 0 (F_X6_part M L x1) := by
  refine ct_of (own := RX6) (lv := [some (.ref (E.2.1 0)), some (.int x1), none]) (by decide +kernel) rfl rfl (Nat.le_of_ble_eq_true rfl) (fun κ C hγ hN => ?_)
  subst hγ
  have hn : ∀ i, i < 3 → i < knL κ := fun i h => by rw [hN]; exact h
  have k48 : ∀ (M : Mi) (L : Ml) (x2 : Int32), JF κ (PQ κ (Q_iw (kγ κ) E) 0 0) 48 [some (.ref (E.2.1 0)), none, some (.int x2)] [] E M L 0 0 (F_X6_part_k48  M L x2) := by
    intro M L x2
    unfold F_X6_part_k48
    refine j_aload_n C dX6_part_48 rfl rfl ?_
    refine j_getI (j := 26) C dX6_part_49 FC6 (MAt.S h0) (by decide) rfl tw_829 ?_
    refine j_if_ne (tgt := 59) C dX6_part_52 (by decide) ?_ ?_
    · refine j_iload_n C dX6_part_59 rfl rfl ?_
      exact j_iretw C dX6_part_60
    · refine j_aload_n C dX6_part_55 rfl rfl ?_
      refine j_callV_vw (st := []) C dX6_part_56 (ct_X6_next (kγ κ) E M L h0) mi_X6_next tw_982 FC6 (MAt.S h0) rfl rfl (Nat.le_of_ble_eq_true rfl) ⟨⟨rfl, rfl⟩, ⟨Nat.le_of_ble_eq_true rfl, Nat.le_of_ble_eq_true rfl⟩, ⟨Nat.zero_le _, Nat.zero_le _⟩⟩ (fun r56 => ?_)
      refine j_iload_n C dX6_part_59 rfl rfl ?_
      exact j_iretw C dX6_part_60
  have k34 : ∀ (M : Mi) (L : Ml) (s0 : Int32), JF κ (PQ κ (Q_iw (kγ κ) E) 0 0) 34 [some (.ref (E.2.1 0)), none, none] [.int s0] E M L 0 0 (F_X6_part_k34  M L s0) := by
    intro M L s0
    unfold F_X6_part_k34
    refine j_istore_n (i := 2) (lv' := [some (.ref (E.2.1 0)), none, some (.int s0)]) C dX6_part_34 rfl (hn 2 (by decide)) rfl ?_
    refine j_aload_n C dX6_part_35 rfl rfl ?_
    refine j_bipush (v := (59 : Int32)) C dX6_part_36 (by decide) ?_
    refine j_callV_i (st := []) C dX6_part_38 (ct_X6_isSign (kγ κ) E M L (59 : Int32) h0) mi_X6_isSign tw_1059 FC6 (MAt.S h0) rfl rfl (Nat.le_of_ble_eq_true rfl) ⟨⟨rfl, rfl⟩, ⟨Nat.le_of_ble_eq_true rfl, Nat.le_of_ble_eq_true rfl⟩, ⟨Nat.zero_le _, Nat.zero_le _⟩⟩ (fun v38 => ?_)
    refine j_if_ne (tgt := 48) C dX6_part_41 (by decide) ?_ ?_
    · exact k48 M L s0
    · refine j_aload_n C dX6_part_44 rfl rfl ?_
      refine j_callV_vw (st := []) C dX6_part_45 (ct_X6_fail (kγ κ) E M L h0) mi_X6_fail tw_1007 FC6 (MAt.S h0) rfl rfl (Nat.le_of_ble_eq_true rfl) ⟨⟨rfl, rfl⟩, ⟨Nat.le_of_ble_eq_true rfl, Nat.le_of_ble_eq_true rfl⟩, ⟨Nat.zero_le _, Nat.zero_le _⟩⟩ (fun r45 => ?_)
      exact k48 r45.1 r45.2 s0
  have k19 : ∀ (M : Mi) (L : Ml), JF κ (PQ κ (Q_iw (kγ κ) E) 0 0) 19 [some (.ref (E.2.1 0)), none, none] [] E M L 0 0 (F_X6_part_k19  M L) := by
    intro M L
    unfold F_X6_part_k19
    refine j_aload_n C dX6_part_19 rfl rfl ?_
    refine j_getI (j := 26) C dX6_part_20 FC6 (MAt.S h0) (by decide) rfl tw_829 ?_
    refine j_if_eq (tgt := 30) C dX6_part_23 (by decide) ?_ ?_
    · refine j_aload_n C dX6_part_30 rfl rfl ?_
      refine j_callV_iw (st := []) C dX6_part_31 (ct_X6_either0 (kγ κ) E M L h0) mi_X6_either0 tw_1011 FC6 (MAt.S h0) rfl rfl (Nat.le_of_ble_eq_true rfl) ⟨⟨rfl, rfl⟩, ⟨Nat.le_of_ble_eq_true rfl, Nat.le_of_ble_eq_true rfl⟩, ⟨Nat.zero_le _, Nat.zero_le _⟩⟩ (fun r31 => ?_)
      exact k34 r31.2.1 r31.2.2 r31.1
    · refine j_iconst (v := (0 : Int32)) C dX6_part_26 rfl ?_
      refine j_goto (tgt := 34) C dX6_part_27 (by decide) ?_
      exact k34 M L ((0 : Int32))
  have k8 : ∀ (M : Mi) (L : Ml), JF κ (PQ κ (Q_iw (kγ κ) E) 0 0) 8 [some (.ref (E.2.1 0)), none, none] [] E M L 0 0 (F_X6_part_k8  M L) := by
    intro M L
    unfold F_X6_part_k8
    refine j_aload_n C dX6_part_8 rfl rfl ?_
    refine j_getI (j := 26) C dX6_part_9 FC6 (MAt.S h0) (by decide) rfl tw_829 ?_
    refine j_if_ne (tgt := 19) C dX6_part_12 (by decide) ?_ ?_
    · exact k19 M L
    · refine j_aload_n C dX6_part_15 rfl rfl ?_
      refine j_callV_vw (st := []) C dX6_part_16 (ct_X6_next (kγ κ) E M L h0) mi_X6_next tw_982 FC6 (MAt.S h0) rfl rfl (Nat.le_of_ble_eq_true rfl) ⟨⟨rfl, rfl⟩, ⟨Nat.le_of_ble_eq_true rfl, Nat.le_of_ble_eq_true rfl⟩, ⟨Nat.zero_le _, Nat.zero_le _⟩⟩ (fun r16 => ?_)
      exact k19 r16.1 r16.2
  unfold F_X6_part
  refine j_iload_n C dX6_part_0 rfl rfl ?_
  refine j_if_ne (tgt := 8) C dX6_part_1 (by decide) ?_ ?_
  · refine j_mask [true, false, false] (lv' := [some (.ref (E.2.1 0)), none, none]) rfl ?_
    exact k8 M L
  · refine j_aload_n C dX6_part_4 rfl rfl ?_
    refine j_callV_vw (st := []) C dX6_part_5 (ct_X6_fail (kγ κ) E M L h0) mi_X6_fail tw_1007 FC6 (MAt.S h0) rfl rfl (Nat.le_of_ble_eq_true rfl) ⟨⟨rfl, rfl⟩, ⟨Nat.le_of_ble_eq_true rfl, Nat.le_of_ble_eq_true rfl⟩, ⟨Nat.zero_le _, Nat.zero_le _⟩⟩ (fun r5 => ?_)
    refine j_mask [true, false, false] (lv' := [some (.ref (E.2.1 0)), none, none]) rfl ?_
    exact k8 r5.1 r5.2
set_option maxRecDepth 100000 in
set_option maxHeartbeats 4000000 in
theorem ct_X6_read (γ : Gm) (E : Ev) (M : Mi) (L : Ml)  (x1 : Int32) (x2 : Int32) (h0 : MAt E) : Ct γ yX6_read cX6_read 6 (some .int) ⟨41, 0, 0, 905⟩ [.ref (E.2.1 0), .int x1, .int x2] E M L (Q_iw γ E) 0 0 (F_X6_read M L x1 x2) := by
  refine ct_of (own := RX6) (lv := [some (.ref (E.2.1 0)), some (.int x1), some (.int x2), none, none, none]) (by decide +kernel) rfl rfl (Nat.le_of_ble_eq_true rfl) (fun κ C hγ hN => ?_)
  subst hγ
  have hn : ∀ i, i < 6 → i < knL κ := fun i h => by rw [hN]; exact h
  have k146 : ∀ (M : Mi) (L : Ml) (x2 : Int32) (x3 : Int32) (x4 : Int32) (x5 : Int32), JF κ (PQ κ (Q_iw (kγ κ) E) 0 0) 146 [none, none, some (.int x2), some (.int x3), some (.int x4), some (.int x5)] [] E M L 0 0 (F_X6_read_k146  M L x2 x3 x4 x5) := by
    intro M L x2 x3 x4 x5
    unfold F_X6_read_k146
    refine j_iload_n C dX6_read_146 rfl rfl ?_
    refine j_if_ne (tgt := 154) C dX6_read_147 (by decide) ?_ ?_
    · refine j_iload_n C dX6_read_154 rfl rfl ?_
      refine j_iconst (v := (1 : Int32)) C dX6_read_155 rfl ?_
      refine j_icmp_ne (tgt := 164) C dX6_read_156 (by decide) ?_ ?_
      · refine j_iload C dX6_read_164 rfl ?_
        exact j_iretw C dX6_read_166
      · refine j_iload C dX6_read_159 rfl ?_
        refine j_goto (tgt := 166) C dX6_read_161 (by decide) ?_
        exact j_iretw C dX6_read_166
    · refine j_iload_n C dX6_read_150 rfl rfl ?_
      refine j_goto (tgt := 166) C dX6_read_151 (by decide) ?_
      exact j_iretw C dX6_read_166
  have k126 : ∀ (M : Mi) (L : Ml) (x2 : Int32) (x3 : Int32) (x4 : Int32) (s0 : Int32), JF κ (PQ κ (Q_iw (kγ κ) E) 0 0) 126 [some (.ref (E.2.1 0)), none, some (.int x2), some (.int x3), some (.int x4), none] [.int s0] E M L 0 0 (F_X6_read_k126  M L x2 x3 x4 s0) := by
    intro M L x2 x3 x4 s0
    unfold F_X6_read_k126
    refine j_istore (i := 5) (lv' := [some (.ref (E.2.1 0)), none, some (.int x2), some (.int x3), some (.int x4), some (.int s0)]) C dX6_read_126 (hn 5 (by decide)) rfl ?_
    refine j_aload_n C dX6_read_128 rfl rfl ?_
    refine j_getI (j := 26) C dX6_read_129 FC6 (MAt.S h0) (by decide) rfl tw_829 ?_
    refine j_if_ne (tgt := 146) C dX6_read_132 (by decide) ?_ ?_
    · refine j_mask [false, false, true, true, true, true] (lv' := [none, none, some (.int x2), some (.int x3), some (.int x4), some (.int s0)]) rfl ?_
      exact k146 M L x2 x3 x4 s0
    · refine j_aload_n C dX6_read_135 rfl rfl ?_
      refine j_getI (j := 22) C dX6_read_136 FC6 (MAt.S h0) (by decide) rfl tw_825 ?_
      refine j_if_eq (tgt := 146) C dX6_read_139 (by decide) ?_ ?_
      · refine j_mask [false, false, true, true, true, true] (lv' := [none, none, some (.int x2), some (.int x3), some (.int x4), some (.int s0)]) rfl ?_
        exact k146 M L x2 x3 x4 s0
      · refine j_aload_n C dX6_read_142 rfl rfl ?_
        refine j_callV_vw (st := []) C dX6_read_143 (ct_X6_fail (kγ κ) E M L h0) mi_X6_fail tw_1007 FC6 (MAt.S h0) rfl rfl (Nat.le_of_ble_eq_true rfl) ⟨⟨rfl, rfl⟩, ⟨Nat.le_of_ble_eq_true rfl, Nat.le_of_ble_eq_true rfl⟩, ⟨Nat.zero_le _, Nat.zero_le _⟩⟩ (fun r143 => ?_)
        refine j_mask [false, false, true, true, true, true] (lv' := [none, none, some (.int x2), some (.int x3), some (.int x4), some (.int s0)]) rfl ?_
        exact k146 r143.1 r143.2 x2 x3 x4 s0
  have k92 : ∀ (M : Mi) (L : Ml) (x2 : Int32) (x3 : Int32) (s0 : Int32), JF κ (PQ κ (Q_iw (kγ κ) E) 0 0) 92 [some (.ref (E.2.1 0)), none, some (.int x2), some (.int x3), none, none] [.int s0] E M L 0 0 (F_X6_read_k92  M L x2 x3 s0) := by
    intro M L x2 x3 s0
    unfold F_X6_read_k92
    refine j_istore (i := 4) (lv' := [some (.ref (E.2.1 0)), none, some (.int x2), some (.int x3), some (.int s0), none]) C dX6_read_92 (hn 4 (by decide)) rfl ?_
    refine j_aload_n C dX6_read_94 rfl rfl ?_
    refine j_getI (j := 26) C dX6_read_95 FC6 (MAt.S h0) (by decide) rfl tw_829 ?_
    refine j_if_eq (tgt := 105) C dX6_read_98 (by decide) ?_ ?_
    · refine j_aload_n C dX6_read_105 rfl rfl ?_
      refine j_aload_n C dX6_read_106 rfl rfl ?_
      refine j_bipush (v := (114 : Int32)) C dX6_read_107 (by decide) ?_
      refine j_bipush (v := (101 : Int32)) C dX6_read_109 (by decide) ?_
      refine j_bipush (v := (115 : Int32)) C dX6_read_111 (by decide) ?_
      refine j_bipush (v := (116 : Int32)) C dX6_read_113 (by decide) ?_
      refine j_bipush (v := (115 : Int32)) C dX6_read_115 (by decide) ?_
      refine j_pc (pc2 := 117) rfl ?_
      refine j_iconst (v := (0 : Int32)) C dX6_read_117 rfl ?_
      refine j_iconst (v := (0 : Int32)) C dX6_read_118 rfl ?_
      refine j_iconst (v := (0 : Int32)) C dX6_read_119 rfl ?_
      refine j_callV_i (st := [.ref (E.2.1 0)]) C dX6_read_120 (ct_X6_isWord (kγ κ) E M L (114 : Int32) (101 : Int32) (115 : Int32) (116 : Int32) (115 : Int32) (0 : Int32) (0 : Int32) (0 : Int32) h0) mi_X6_isWord tw_995 FC6 (MAt.S h0) rfl rfl (Nat.le_of_ble_eq_true rfl) ⟨⟨rfl, rfl⟩, ⟨Nat.le_of_ble_eq_true rfl, Nat.le_of_ble_eq_true rfl⟩, ⟨Nat.zero_le _, Nat.zero_le _⟩⟩ (fun v120 => ?_)
      refine j_callV_iw (st := []) C dX6_read_123 (ct_X6_part (kγ κ) E M L v120 h0) mi_X6_part tw_1003 FC6 (MAt.S h0) rfl rfl (Nat.le_of_ble_eq_true rfl) ⟨⟨rfl, rfl⟩, ⟨Nat.le_of_ble_eq_true rfl, Nat.le_of_ble_eq_true rfl⟩, ⟨Nat.zero_le _, Nat.zero_le _⟩⟩ (fun r123 => ?_)
      exact k126 r123.2.1 r123.2.2 x2 x3 s0 r123.1
    · refine j_iconst (v := (0 : Int32)) C dX6_read_101 rfl ?_
      refine j_goto (tgt := 126) C dX6_read_102 (by decide) ?_
      exact k126 M L x2 x3 s0 ((0 : Int32))
  unfold F_X6_read
  refine j_aload_n C dX6_read_0 rfl rfl ?_
  refine j_sipush (v := (160 : Int32)) C dX6_read_1 (by decide) ?_
  refine j_iload_n C dX6_read_4 rfl rfl ?_
  refine j_imul C dX6_read_5 ?_
  refine j_putI (j := 19) C dX6_read_6 FC6 (MAt.S h0) (by decide) rfl rfl rfl rfl tw_822 ?_
  refine j_aload_n C dX6_read_9 rfl rfl ?_
  refine j_aload_n C dX6_read_10 rfl rfl ?_
  refine j_pc (pc2 := 11) rfl ?_
  refine j_getR (j := 2) C dX6_read_11 FC6 (MAt.S h0) (by decide) rfl (MAt.R_textSize h0) tw_805 ?_
  refine j_iload_n C dX6_read_14 rfl rfl ?_
  refine j_iald C dX6_read_15 (MAt.P_textSize h0) ?_
  refine j_putI (j := 20) C dX6_read_16 FC6 (MAt.S h0) (by decide) rfl rfl rfl rfl tw_823 ?_
  refine j_aload_n C dX6_read_19 rfl rfl ?_
  refine j_iconst (v := (0 : Int32)) C dX6_read_20 rfl ?_
  refine j_putI (j := 21) C dX6_read_21 FC6 (MAt.S h0) (by decide) rfl rfl rfl rfl tw_824 ?_
  refine j_aload_n C dX6_read_24 rfl rfl ?_
  refine j_pc (pc2 := 25) rfl ?_
  refine j_iconst (v := (0 : Int32)) C dX6_read_25 rfl ?_
  refine j_putI (j := 25) C dX6_read_26 FC6 (MAt.S h0) (by decide) rfl rfl rfl rfl tw_828 ?_
  refine j_aload_n C dX6_read_29 rfl rfl ?_
  refine j_iconst (v := (0 : Int32)) C dX6_read_30 rfl ?_
  refine j_putI (j := 26) C dX6_read_31 FC6 (MAt.S h0) (by decide) rfl rfl rfl rfl tw_829 ?_
  refine j_aload_n C dX6_read_34 rfl rfl ?_
  refine j_callV_vw (st := []) C dX6_read_35 (ct_X6_next (kγ κ) E (up2 (up2 (up2 (up2 (up2 M 0 19 ((160 : Int32) * x1)) 0 20 ((up2 M 0 19 ((160 : Int32) * x1)) 2 (Int32.toNatClampNeg x1))) 0 21 (0 : Int32)) 0 25 (0 : Int32)) 0 26 (0 : Int32)) L h0) mi_X6_next tw_982 FC6 (MAt.S h0) rfl rfl (Nat.le_of_ble_eq_true rfl) ⟨⟨rfl, rfl⟩, ⟨Nat.le_of_ble_eq_true rfl, Nat.le_of_ble_eq_true rfl⟩, ⟨Nat.zero_le _, Nat.zero_le _⟩⟩ (fun r35 => ?_)
  refine j_aload_n C dX6_read_38 rfl rfl ?_
  refine j_pc (pc2 := 39) rfl ?_
  refine j_aload_n C dX6_read_39 rfl rfl ?_
  refine j_bipush (v := (116 : Int32)) C dX6_read_40 (by decide) ?_
  refine j_bipush (v := (117 : Int32)) C dX6_read_42 (by decide) ?_
  refine j_bipush (v := (114 : Int32)) C dX6_read_44 (by decide) ?_
  refine j_bipush (v := (110 : Int32)) C dX6_read_46 (by decide) ?_
  refine j_bipush (v := (115 : Int32)) C dX6_read_48 (by decide) ?_
  refine j_iconst (v := (0 : Int32)) C dX6_read_50 rfl ?_
  refine j_iconst (v := (0 : Int32)) C dX6_read_51 rfl ?_
  refine j_pc (pc2 := 52) rfl ?_
  refine j_iconst (v := (0 : Int32)) C dX6_read_52 rfl ?_
  refine j_callV_i (st := [.ref (E.2.1 0)]) C dX6_read_53 (ct_X6_isWord (kγ κ) E r35.1 r35.2 (116 : Int32) (117 : Int32) (114 : Int32) (110 : Int32) (115 : Int32) (0 : Int32) (0 : Int32) (0 : Int32) h0) mi_X6_isWord tw_995 FC6 (MAt.S h0) rfl rfl (Nat.le_of_ble_eq_true rfl) ⟨⟨rfl, rfl⟩, ⟨Nat.le_of_ble_eq_true rfl, Nat.le_of_ble_eq_true rfl⟩, ⟨Nat.zero_le _, Nat.zero_le _⟩⟩ (fun v53 => ?_)
  refine j_callV_iw (st := []) C dX6_read_56 (ct_X6_part (kγ κ) E r35.1 r35.2 v53 h0) mi_X6_part tw_1003 FC6 (MAt.S h0) rfl rfl (Nat.le_of_ble_eq_true rfl) ⟨⟨rfl, rfl⟩, ⟨Nat.le_of_ble_eq_true rfl, Nat.le_of_ble_eq_true rfl⟩, ⟨Nat.zero_le _, Nat.zero_le _⟩⟩ (fun r56 => ?_)
  refine j_istore_n (i := 3) (lv' := [some (.ref (E.2.1 0)), some (.int x1), some (.int x2), some (.int r56.1), none, none]) C dX6_read_59 rfl (hn 3 (by decide)) rfl ?_
  refine j_aload_n C dX6_read_60 rfl rfl ?_
  refine j_getI (j := 26) C dX6_read_61 FC6 (MAt.S h0) (by decide) rfl tw_829 ?_
  refine j_if_eq (tgt := 71) C dX6_read_64 (by decide) ?_ ?_
  · refine j_aload_n C dX6_read_71 rfl rfl ?_
    refine j_aload_n C dX6_read_72 rfl rfl ?_
    refine j_bipush (v := (116 : Int32)) C dX6_read_73 (by decide) ?_
    refine j_bipush (v := (105 : Int32)) C dX6_read_75 (by decide) ?_
    refine j_bipush (v := (114 : Int32)) C dX6_read_77 (by decide) ?_
    refine j_bipush (v := (101 : Int32)) C dX6_read_79 (by decide) ?_
    refine j_bipush (v := (115 : Int32)) C dX6_read_81 (by decide) ?_
    refine j_pc (pc2 := 83) rfl ?_
    refine j_iconst (v := (0 : Int32)) C dX6_read_83 rfl ?_
    refine j_iconst (v := (0 : Int32)) C dX6_read_84 rfl ?_
    refine j_iconst (v := (0 : Int32)) C dX6_read_85 rfl ?_
    refine j_callV_i (st := [.ref (E.2.1 0)]) C dX6_read_86 (ct_X6_isWord (kγ κ) E r56.2.1 r56.2.2 (116 : Int32) (105 : Int32) (114 : Int32) (101 : Int32) (115 : Int32) (0 : Int32) (0 : Int32) (0 : Int32) h0) mi_X6_isWord tw_995 FC6 (MAt.S h0) rfl rfl (Nat.le_of_ble_eq_true rfl) ⟨⟨rfl, rfl⟩, ⟨Nat.le_of_ble_eq_true rfl, Nat.le_of_ble_eq_true rfl⟩, ⟨Nat.zero_le _, Nat.zero_le _⟩⟩ (fun v86 => ?_)
    refine j_callV_iw (st := []) C dX6_read_89 (ct_X6_part (kγ κ) E r56.2.1 r56.2.2 v86 h0) mi_X6_part tw_1003 FC6 (MAt.S h0) rfl rfl (Nat.le_of_ble_eq_true rfl) ⟨⟨rfl, rfl⟩, ⟨Nat.le_of_ble_eq_true rfl, Nat.le_of_ble_eq_true rfl⟩, ⟨Nat.zero_le _, Nat.zero_le _⟩⟩ (fun r89 => ?_)
    refine j_mask [true, false, true, true, false, false] (lv' := [some (.ref (E.2.1 0)), none, some (.int x2), some (.int r56.1), none, none]) rfl ?_
    exact k92 r89.2.1 r89.2.2 x2 r56.1 r89.1
  · refine j_iconst (v := (0 : Int32)) C dX6_read_67 rfl ?_
    refine j_goto (tgt := 92) C dX6_read_68 (by decide) ?_
    refine j_mask [true, false, true, true, false, false] (lv' := [some (.ref (E.2.1 0)), none, some (.int x2), some (.int r56.1), none, none]) rfl ?_
    exact k92 r56.2.1 r56.2.2 x2 r56.1 ((0 : Int32))
