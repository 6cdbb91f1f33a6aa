set_option maxRecDepth 100000 in
set_option maxHeartbeats 4000000 in
theorem ct_X6_tries (γ : Gm) (E : Ev) (M : Mi) (L : Ml)  (x1 : Int32) (x2 : Int32) (h0 : MAt E) : Ct γ yX6_tries cX6_tries 3 none ⟨0, 0, 0, 0⟩ [.ref (E.2.1 0), .int x1, .int x2] E M L (Q_vw γ E) 0 0 (F_X6_tries M L x1 x2) := by
  refine ct_of (own := RX6) (lv := [some (.ref (E.2.1 0)), some (.int x1), some (.int x2)]) (by decide +kernel) rfl rfl (Nat.le_of_ble_eq_true rfl) (fun κ C hγ hN => ?_)
  subst hγ
  have hn : ∀ i, i < 3 → i < knL κ := fun i h => by rw [hN]; exact h
  unfold F_X6_tries
  refine j_iload_n C dX6_tries_0 rfl rfl ?_
  refine j_aload_n C dX6_tries_1 rfl rfl ?_
  refine j_getI (j := 30) C dX6_tries_2 FC6 (MAt.S h0) (by decide) rfl tw_833 ?_
  refine j_icmp_le (tgt := 18) C dX6_tries_5 (by decide) ?_ ?_
  · exact j_vretw C dX6_tries_18
  · refine j_aload_n C dX6_tries_8 rfl rfl ?_
    refine j_iload_n C dX6_tries_9 rfl rfl ?_
    refine j_putI (j := 29) C dX6_tries_10 FC6 (MAt.S h0) (by decide) rfl rfl rfl rfl tw_832 ?_
    refine j_aload_n C dX6_tries_13 rfl rfl ?_
    refine j_iload_n C dX6_tries_14 rfl rfl ?_
    refine j_putI (j := 30) C dX6_tries_15 FC6 (MAt.S h0) (by decide) rfl rfl rfl rfl tw_833 ?_
    exact j_vretw C dX6_tries_18
set_option maxRecDepth 100000 in
set_option maxHeartbeats 4000000 in
theorem ct_X6_triesTile (γ : Gm) (E : Ev) (M : Mi) (L : Ml)  (x1 : Int32) (x2 : Int32) (x3 : Int32) (x4 : Int32) (h0 : MAt E) : Ct γ yX6_triesTile cX6_triesTile 11 none ⟨47, 0, 0, 1046⟩ [.ref (E.2.1 0), .int x1, .int x2, .int x3, .int x4] E M L (Q_vw γ E) 0 0 (F_X6_triesTile M L x1 x2 x3 x4) := by
  refine ct_of (own := RX6) (lv := [some (.ref (E.2.1 0)), some (.int x1), some (.int x2), some (.int x3), some (.int x4), none, none, none, none, none, none]) (by decide +kernel) rfl rfl (Nat.le_of_ble_eq_true rfl) (fun κ C hγ hN => ?_)
  subst hγ
  have hn : ∀ i, i < 11 → i < knL κ := fun i h => by rw [hN]; exact h
  have k100 : ∀ (M : Mi) (L : Ml) (x2 : Int32) (x3 : Int32) (x4 : Int32) (x5 : Int64) (x7 : Int64) (s1 : Int64) (s2 : Int64), JF κ (PQ κ (Q_vw (kγ κ) E) 0 0) 100 [some (.ref (E.2.1 0)), none, some (.int x2), some (.int x3), some (.int x4), some (.long x5), none, some (.long x7), none, none, none] [.long s2, .long s1, .ref (E.2.1 0)] E M L 0 0 (F_X6_triesTile_k100  M L x2 x3 x4 x5 x7 s1 s2) := by
    intro M L x2 x3 x4 x5 x7 s1 s2
    unfold F_X6_triesTile_k100
    refine j_lor C dX6_triesTile_100 ?_
    refine j_putL (j := 9) C dX6_triesTile_101 FC6 (MAt.S h0) (by decide) rfl rfl rfl rfl tw_812 ?_
    refine j_aload_n C dX6_triesTile_104 rfl rfl ?_
    refine j_iload_n C dX6_triesTile_105 rfl rfl ?_
    refine j_iload C dX6_triesTile_106 rfl ?_
    refine j_callV_iw (st := []) C dX6_triesTile_108 (ct_X6_foundBehind (kγ κ) E M (up2 L 0 9 (s1 ||| s2)) x3 x4 h0) mi_X6_foundBehind tw_1270 FC6 (MAt.S h0) rfl rfl (Nat.le_of_ble_eq_true rfl) ⟨⟨rfl, rfl⟩, ⟨Nat.le_of_ble_eq_true rfl, Nat.le_of_ble_eq_true rfl⟩, ⟨Nat.zero_le _, Nat.zero_le _⟩⟩ (fun r108 => ?_)
    refine j_istore (i := 10) (lv' := [some (.ref (E.2.1 0)), none, some (.int x2), some (.int x3), some (.int x4), some (.long x5), none, some (.long x7), none, none, some (.int r108.1)]) C dX6_triesTile_111 (hn 10 (by decide)) rfl ?_
    refine j_pc (pc2 := 113) rfl ?_
    refine j_aload_n C dX6_triesTile_113 rfl rfl ?_
    refine j_lload C dX6_triesTile_114 rfl ?_
    refine j_putL (j := 8) C dX6_triesTile_116 FC6 (MAt.S h0) (by decide) rfl rfl rfl rfl tw_811 ?_
    refine j_aload_n C dX6_triesTile_119 rfl rfl ?_
    refine j_lload C dX6_triesTile_120 rfl ?_
    refine j_putL (j := 9) C dX6_triesTile_122 FC6 (MAt.S h0) (by decide) rfl rfl rfl rfl tw_812 ?_
    refine j_aload_n C dX6_triesTile_125 rfl rfl ?_
    refine j_iload_n C dX6_triesTile_126 rfl rfl ?_
    refine j_pc (pc2 := 127) rfl ?_
    refine j_iload C dX6_triesTile_127 rfl ?_
    refine j_callV_vw (st := []) C dX6_triesTile_129 (ct_X6_tries (kγ κ) E r108.2.1 (up2 (up2 r108.2.2 0 8 x5) 0 9 x7) x2 r108.1 h0) mi_X6_tries tw_1299 FC6 (MAt.S h0) rfl rfl (Nat.le_of_ble_eq_true rfl) ⟨⟨rfl, rfl⟩, ⟨Nat.le_of_ble_eq_true rfl, Nat.le_of_ble_eq_true rfl⟩, ⟨Nat.zero_le _, Nat.zero_le _⟩⟩ (fun r129 => ?_)
    exact j_vretw C dX6_triesTile_132
  have k79 : ∀ (M : Mi) (L : Ml) (x1 : Int32) (x2 : Int32) (x3 : Int32) (x4 : Int32) (x5 : Int64) (x7 : Int64) (s1 : Int64) (s2 : Int64), JF κ (PQ κ (Q_vw (kγ κ) E) 0 0) 79 [some (.ref (E.2.1 0)), some (.int x1), some (.int x2), some (.int x3), some (.int x4), some (.long x5), none, some (.long x7), none, none, none] [.long s2, .long s1, .ref (E.2.1 0)] E M L 0 0 (F_X6_triesTile_k79  M L x1 x2 x3 x4 x5 x7 s1 s2) := by
    intro M L x1 x2 x3 x4 x5 x7 s1 s2
    unfold F_X6_triesTile_k79
    refine j_lor C dX6_triesTile_79 ?_
    refine j_putL (j := 8) C dX6_triesTile_80 FC6 (MAt.S h0) (by decide) rfl rfl rfl rfl tw_811 ?_
    refine j_aload_n C dX6_triesTile_83 rfl rfl ?_
    refine j_dup C dX6_triesTile_84 rfl ?_
    refine j_getL (j := 9) C dX6_triesTile_85 FC6 (MAt.S h0) (by decide) rfl tw_812 ?_
    refine j_iload_n C dX6_triesTile_88 rfl rfl ?_
    refine j_iconst (v := (2 : Int32)) C dX6_triesTile_89 rfl ?_
    refine j_pc (pc2 := 90) rfl ?_
    refine j_icmp_ne (tgt := 99) C dX6_triesTile_90 (by decide) ?_ ?_
    · refine j_lconst (v := (0 : Int64)) C dX6_triesTile_99 rfl ?_
      refine j_mask [true, false, true, true, true, true, false, true, false, false, false] (lv' := [some (.ref (E.2.1 0)), none, some (.int x2), some (.int x3), some (.int x4), some (.long x5), none, some (.long x7), none, none, none]) rfl ?_
      exact k100 M ((up2 L 0 8 (s1 ||| s2))) x2 x3 x4 x5 x7 (((up2 L 0 8 (s1 ||| s2)) 0 9)) ((0 : Int64))
    · refine j_lconst (v := (1 : Int64)) C dX6_triesTile_93 rfl ?_
      refine j_iload_n C dX6_triesTile_94 rfl rfl ?_
      refine j_lshl C dX6_triesTile_95 ?_
      refine j_goto (tgt := 100) C dX6_triesTile_96 (by decide) ?_
      refine j_mask [true, false, true, true, true, true, false, true, false, false, false] (lv' := [some (.ref (E.2.1 0)), none, some (.int x2), some (.int x3), some (.int x4), some (.long x5), none, some (.long x7), none, none, none]) rfl ?_
      exact k100 M ((up2 L 0 8 (s1 ||| s2))) x2 x3 x4 x5 x7 (((up2 L 0 8 (s1 ||| s2)) 0 9)) ((lshl (1 : Int64) x2))
  have k55 : ∀ (M : Mi) (L : Ml) (x1 : Int32) (x2 : Int32) (x3 : Int32) (x4 : Int32) (x5 : Int64) (x7 : Int64) (s0 : Int32), JF κ (PQ κ (Q_vw (kγ κ) E) 0 0) 55 [some (.ref (E.2.1 0)), some (.int x1), some (.int x2), some (.int x3), some (.int x4), some (.long x5), none, some (.long x7), none, none, none] [.int s0] E M L 0 0 (F_X6_triesTile_k55  M L x1 x2 x3 x4 x5 x7 s0) := by
    intro M L x1 x2 x3 x4 x5 x7 s0
    unfold F_X6_triesTile_k55
    refine j_istore (i := 9) (lv' := [some (.ref (E.2.1 0)), some (.int x1), some (.int x2), some (.int x3), some (.int x4), some (.long x5), none, some (.long x7), none, some (.int s0), none]) C dX6_triesTile_55 (hn 9 (by decide)) rfl ?_
    refine j_iload C dX6_triesTile_57 rfl ?_
    refine j_if_eq (tgt := 132) C dX6_triesTile_59 (by decide) ?_ ?_
    · exact j_vretw C dX6_triesTile_132
    · refine j_aload_n C dX6_triesTile_62 rfl rfl ?_
      refine j_dup C dX6_triesTile_63 rfl ?_
      refine j_getL (j := 8) C dX6_triesTile_64 FC6 (MAt.S h0) (by decide) rfl tw_811 ?_
      refine j_iload_n C dX6_triesTile_67 rfl rfl ?_
      refine j_iconst (v := (1 : Int32)) C dX6_triesTile_68 rfl ?_
      refine j_icmp_ne (tgt := 78) C dX6_triesTile_69 (by decide) ?_ ?_
      · refine j_lconst (v := (0 : Int64)) C dX6_triesTile_78 rfl ?_
        refine j_mask [true, true, true, true, true, true, false, true, false, false, false] (lv' := [some (.ref (E.2.1 0)), some (.int x1), some (.int x2), some (.int x3), some (.int x4), some (.long x5), none, some (.long x7), none, none, none]) rfl ?_
        exact k79 M L x1 x2 x3 x4 x5 x7 ((L 0 8)) ((0 : Int64))
      · refine j_lconst (v := (1 : Int64)) C dX6_triesTile_72 rfl ?_
        refine j_iload_n C dX6_triesTile_73 rfl rfl ?_
        refine j_lshl C dX6_triesTile_74 ?_
        refine j_goto (tgt := 79) C dX6_triesTile_75 (by decide) ?_
        refine j_mask [true, true, true, true, true, true, false, true, false, false, false] (lv' := [some (.ref (E.2.1 0)), some (.int x1), some (.int x2), some (.int x3), some (.int x4), some (.long x5), none, some (.long x7), none, none, none]) rfl ?_
        exact k79 M L x1 x2 x3 x4 x5 x7 ((L 0 8)) ((lshl (1 : Int64) x2))
  have k54 : ∀ (M : Mi) (L : Ml) (x1 : Int32) (x2 : Int32) (x3 : Int32) (x4 : Int32) (x5 : Int64) (x7 : Int64), JF κ (PQ κ (Q_vw (kγ κ) E) 0 0) 54 [some (.ref (E.2.1 0)), some (.int x1), some (.int x2), some (.int x3), some (.int x4), some (.long x5), none, some (.long x7), none, none, none] [] E M L 0 0 (F_X6_triesTile_k54  M L x1 x2 x3 x4 x5 x7) := by
    intro M L x1 x2 x3 x4 x5 x7
    unfold F_X6_triesTile_k54
    refine j_iconst (v := (0 : Int32)) C dX6_triesTile_54 rfl ?_
    exact k55 M L x1 x2 x3 x4 x5 x7 ((0 : Int32))
  have k50 : ∀ (M : Mi) (L : Ml) (x1 : Int32) (x2 : Int32) (x3 : Int32) (x4 : Int32) (x5 : Int64) (x7 : Int64), JF κ (PQ κ (Q_vw (kγ κ) E) 0 0) 50 [some (.ref (E.2.1 0)), some (.int x1), some (.int x2), some (.int x3), some (.int x4), some (.long x5), none, some (.long x7), none, none, none] [] E M L 0 0 (F_X6_triesTile_k50  M L x1 x2 x3 x4 x5 x7) := by
    intro M L x1 x2 x3 x4 x5 x7
    unfold F_X6_triesTile_k50
    refine j_iconst (v := (1 : Int32)) C dX6_triesTile_50 rfl ?_
    refine j_goto (tgt := 55) C dX6_triesTile_51 (by decide) ?_
    exact k55 M L x1 x2 x3 x4 x5 x7 ((1 : Int32))
  unfold F_X6_triesTile
  refine j_aload_n C dX6_triesTile_0 rfl rfl ?_
  refine j_getL (j := 8) C dX6_triesTile_1 FC6 (MAt.S h0) (by decide) rfl tw_811 ?_
  refine j_lstore (i := 5) (lv' := [some (.ref (E.2.1 0)), some (.int x1), some (.int x2), some (.int x3), some (.int x4), some (.long (L 0 8)), none, none, none, none, none]) C dX6_triesTile_4 (hn 6 (by decide)) rfl ?_
  refine j_aload_n C dX6_triesTile_6 rfl rfl ?_
  refine j_getL (j := 9) C dX6_triesTile_7 FC6 (MAt.S h0) (by decide) rfl tw_812 ?_
  refine j_lstore (i := 7) (lv' := [some (.ref (E.2.1 0)), some (.int x1), some (.int x2), some (.int x3), some (.int x4), some (.long (L 0 8)), none, some (.long (L 0 9)), none, none, none]) C dX6_triesTile_10 (hn 8 (by decide)) rfl ?_
  refine j_aload_n C dX6_triesTile_12 rfl rfl ?_
  refine j_pc (pc2 := 13) rfl ?_
  refine j_getL (j := 9) C dX6_triesTile_13 FC6 (MAt.S h0) (by decide) rfl tw_812 ?_
  refine j_iload_n C dX6_triesTile_16 rfl rfl ?_
  refine j_callS_i (st := []) C dX6_triesTile_17 (ct_X6_has (kγ κ) E M L (L 0 9) x2) mi_X6_has tw_959 rfl rfl (Nat.le_of_ble_eq_true rfl) ⟨⟨rfl, rfl⟩, ⟨Nat.le_of_ble_eq_true rfl, Nat.le_of_ble_eq_true rfl⟩, ⟨Nat.zero_le _, Nat.zero_le _⟩⟩ (fun v17 => ?_)
  refine j_if_ne (tgt := 54) C dX6_triesTile_20 (by decide) ?_ ?_
  · exact k54 M L x1 x2 x3 x4 ((L 0 8)) ((L 0 9))
  · refine j_iload_n C dX6_triesTile_23 rfl rfl ?_
    refine j_iconst (v := (1 : Int32)) C dX6_triesTile_24 rfl ?_
    refine j_icmp_ne (tgt := 42) C dX6_triesTile_25 (by decide) ?_ ?_
    · refine j_aload_n C dX6_triesTile_42 rfl rfl ?_
      refine j_iload_n C dX6_triesTile_43 rfl rfl ?_
      refine j_callV_i (st := []) C dX6_triesTile_44 (ct_X6_whoOn (kγ κ) E M L x2 h0) mi_X6_whoOn tw_951 FC6 (MAt.S h0) rfl rfl (Nat.le_of_ble_eq_true rfl) ⟨⟨rfl, rfl⟩, ⟨Nat.le_of_ble_eq_true rfl, Nat.le_of_ble_eq_true rfl⟩, ⟨Nat.zero_le _, Nat.zero_le _⟩⟩ (fun v44 => ?_)
      refine j_if_ne (tgt := 54) C dX6_triesTile_47 (by decide) ?_ ?_
      · exact k54 M L x1 x2 x3 x4 ((L 0 8)) ((L 0 9))
      · exact k50 M L x1 x2 x3 x4 ((L 0 8)) ((L 0 9))
    · refine j_aload_n C dX6_triesTile_28 rfl rfl ?_
      refine j_getL (j := 8) C dX6_triesTile_29 FC6 (MAt.S h0) (by decide) rfl tw_811 ?_
      refine j_iload_n C dX6_triesTile_32 rfl rfl ?_
      refine j_callS_i (st := []) C dX6_triesTile_33 (ct_X6_has (kγ κ) E M L (L 0 8) x2) mi_X6_has tw_959 rfl rfl (Nat.le_of_ble_eq_true rfl) ⟨⟨rfl, rfl⟩, ⟨Nat.le_of_ble_eq_true rfl, Nat.le_of_ble_eq_true rfl⟩, ⟨Nat.zero_le _, Nat.zero_le _⟩⟩ (fun v33 => ?_)
      refine j_if_ne (tgt := 54) C dX6_triesTile_36 (by decide) ?_ ?_
      · exact k54 M L x1 x2 x3 x4 ((L 0 8)) ((L 0 9))
      · refine j_goto (tgt := 50) C dX6_triesTile_39 (by decide) ?_
        exact k50 M L x1 x2 x3 x4 ((L 0 8)) ((L 0 9))
set_option maxRecDepth 100000 in
set_option maxHeartbeats 4000000 in
theorem ct_X6_best (γ : Gm) (E : Ev) (M : Mi) (L : Ml)  (x1 : Int32) (x2 : Int32) (x3 : Int32) (h0 : MAt E) : Ct γ yX6_best cX6_best 6 (some .int) ⟨48, 0, 0, 1076⟩ [.ref (E.2.1 0), .int x1, .int x2, .int x3] E M L (Q_iw γ E) 0 0 (F_X6_best M L x1 x2 x3) := by
  refine ct_of (own := RX6) (lv := [some (.ref (E.2.1 0)), some (.int x1), some (.int x2), some (.int x3), none, none]) (by decide +kernel) rfl rfl (Nat.le_of_ble_eq_true rfl) (fun κ C hγ hN => ?_)
  subst hγ
  have hn : ∀ i, i < 6 → i < knL κ := fun i h => by rw [hN]; exact h
  have k136 : ∀ (M : Mi) (L : Ml) (x3 : Int32), JF κ (PQ κ (Q_iw (kγ κ) E) 0 0) 136 [some (.ref (E.2.1 0)), none, none, some (.int x3), none, none] [] E M L 0 0 (F_X6_best_k136  M L x3) := by
    intro M L x3
    unfold F_X6_best_k136
    refine j_iload_n C dX6_best_136 rfl rfl ?_
    refine j_iconst (v := (2 : Int32)) C dX6_best_137 rfl ?_
    refine j_iremc C dX6_best_138 (by decide) ?_
    refine j_if_ne (tgt := 149) C dX6_best_139 (by decide) ?_ ?_
    · refine j_aload_n C dX6_best_149 rfl rfl ?_
      refine j_getI (j := 30) C dX6_best_150 FC6 (MAt.S h0) (by decide) rfl tw_833 ?_
      exact j_iretw C dX6_best_153
    · refine j_aload_n C dX6_best_142 rfl rfl ?_
      refine j_getI (j := 29) C dX6_best_143 FC6 (MAt.S h0) (by decide) rfl tw_832 ?_
      refine j_goto (tgt := 153) C dX6_best_146 (by decide) ?_
      exact j_iretw C dX6_best_153
  have k107 : ∀ (n : Nat) (M : Mi) (L : Ml) (x1 : Int32) (x2 : Int32) (x3 : Int32) (x4 : Int32), JF κ (PQ κ (Q_iw (kγ κ) E) 0 0) 107 [some (.ref (E.2.1 0)), some (.int x1), some (.int x2), some (.int x3), some (.int x4), none] [] E M L 0 0 (F_X6_best_k107  n M L x1 x2 x3 x4) := by
    intro n
    induction n with
    | zero => intros; exact jf_none
    | succ n ih =>
      intro M L x1 x2 x3 x4
      unfold F_X6_best_k107
      refine j_iload C dX6_best_107 rfl ?_
      refine j_bipush (v := (64 : Int32)) C dX6_best_109 (by decide) ?_
      refine j_icmp_ge (tgt := 136) C dX6_best_111 (by decide) ?_ ?_
      · refine j_mask [true, false, false, true, false, false] (lv' := [some (.ref (E.2.1 0)), none, none, some (.int x3), none, none]) rfl ?_
        exact k136 M L x3
      · refine j_iload_n C dX6_best_114 rfl rfl ?_
        refine j_iconst (v := (1 : Int32)) C dX6_best_115 rfl ?_
        refine j_icmp_le (tgt := 136) C dX6_best_116 (by decide) ?_ ?_
        · refine j_mask [true, false, false, true, false, false] (lv' := [some (.ref (E.2.1 0)), none, none, some (.int x3), none, none]) rfl ?_
          exact k136 M L x3
        · refine j_aload_n C dX6_best_119 rfl rfl ?_
          refine j_iload_n C dX6_best_120 rfl rfl ?_
          refine j_iconst (v := (2 : Int32)) C dX6_best_121 rfl ?_
          refine j_idivc C dX6_best_122 (by decide) ?_
          refine j_iload C dX6_best_123 rfl ?_
          refine j_iload_n C dX6_best_125 rfl rfl ?_
          refine j_iload_n C dX6_best_126 rfl rfl ?_
          refine j_pc (pc2 := 127) rfl ?_
          refine j_callV_vw (st := []) C dX6_best_127 (ct_X6_triesTile (kγ κ) E M L (x3 / (2 : Int32)) x4 x1 x2 h0) mi_X6_triesTile tw_1303 FC6 (MAt.S h0) rfl rfl (Nat.le_of_ble_eq_true rfl) ⟨⟨rfl, rfl⟩, ⟨Nat.le_of_ble_eq_true rfl, Nat.le_of_ble_eq_true rfl⟩, ⟨Nat.zero_le _, Nat.zero_le _⟩⟩ (fun r127 => ?_)
          refine j_iinc (i := 4) (v := (x4 + (1 : Int32))) (lv' := [some (.ref (E.2.1 0)), some (.int x1), some (.int x2), some (.int x3), some (.int (x4 + (1 : Int32))), none]) C dX6_best_130 rfl rfl (hn 4 (by decide)) rfl ?_
          refine j_goto (tgt := 107) C dX6_best_133 (by decide) ?_
          exact ih r127.1 r127.2 x1 x2 x3 ((x4 + (1 : Int32)))
  have k104 : ∀ (M : Mi) (L : Ml) (x1 : Int32) (x2 : Int32) (x3 : Int32), JF κ (PQ κ (Q_iw (kγ κ) E) 0 0) 104 [some (.ref (E.2.1 0)), some (.int x1), some (.int x2), some (.int x3), none, none] [] E M L 0 0 (F_X6_best_k104  M L x1 x2 x3) := by
    intro M L x1 x2 x3
    unfold F_X6_best_k104
    refine j_iconst (v := (0 : Int32)) C dX6_best_104 rfl ?_
    refine j_istore (i := 4) (lv' := [some (.ref (E.2.1 0)), some (.int x1), some (.int x2), some (.int x3), some (.int (0 : Int32)), none]) C dX6_best_105 (hn 4 (by decide)) rfl ?_
    exact k107 FU M L x1 x2 x3 ((0 : Int32))
  have k57 : ∀ (n : Nat) (M : Mi) (L : Ml) (x1 : Int32) (x2 : Int32) (x3 : Int32) (x4 : Int32), JF κ (PQ κ (Q_iw (kγ κ) E) 0 0) 57 [some (.ref (E.2.1 0)), some (.int x1), some (.int x2), some (.int x3), some (.int x4), none] [] E M L 0 0 (F_X6_best_k57  n M L x1 x2 x3 x4) := by
    intro n
    induction n with
    | zero => intros; exact jf_none
    | succ n ih =>
      intro M L x1 x2 x3 x4
      unfold F_X6_best_k57
      refine j_iload C dX6_best_57 rfl ?_
      refine j_aload_n C dX6_best_59 rfl rfl ?_
      refine j_getI (j := 11) C dX6_best_60 FC6 (MAt.S h0) (by decide) rfl tw_814 ?_
      refine j_icmp_ge (tgt := 104) C dX6_best_63 (by decide) ?_ ?_
      · refine j_mask [true, true, true, true, false, false] (lv' := [some (.ref (E.2.1 0)), some (.int x1), some (.int x2), some (.int x3), none, none]) rfl ?_
        exact k104 M L x1 x2 x3
      · refine j_iload_n C dX6_best_66 rfl rfl ?_
        refine j_iconst (v := (2 : Int32)) C dX6_best_67 rfl ?_
        refine j_icmp_ge (tgt := 104) C dX6_best_68 (by decide) ?_ ?_
        · refine j_mask [true, true, true, true, false, false] (lv' := [some (.ref (E.2.1 0)), some (.int x1), some (.int x2), some (.int x3), none, none]) rfl ?_
          exact k104 M L x1 x2 x3
        · refine j_aload_n C dX6_best_71 rfl rfl ?_
          refine j_iload C dX6_best_72 rfl ?_
          refine j_putI (j := 12) C dX6_best_74 FC6 (MAt.S h0) (by decide) rfl rfl rfl rfl tw_815 ?_
          refine j_aload_n C dX6_best_77 rfl rfl ?_
          refine j_iload_n C dX6_best_78 rfl rfl ?_
          refine j_iload_n C dX6_best_79 rfl rfl ?_
          refine j_callV_iw (st := []) C dX6_best_80 (ct_X6_foundBehind (kγ κ) E (up2 M 0 12 x4) L x1 x2 h0) mi_X6_foundBehind tw_1270 FC6 (MAt.S h0) rfl rfl (Nat.le_of_ble_eq_true rfl) ⟨⟨rfl, rfl⟩, ⟨Nat.le_of_ble_eq_true rfl, Nat.le_of_ble_eq_true rfl⟩, ⟨Nat.zero_le _, Nat.zero_le _⟩⟩ (fun r80 => ?_)
          refine j_pc (pc2 := 83) rfl ?_
          refine j_istore (i := 5) (lv' := [some (.ref (E.2.1 0)), some (.int x1), some (.int x2), some (.int x3), some (.int x4), some (.int r80.1)]) C dX6_best_83 (hn 5 (by decide)) rfl ?_
          refine j_aload_n C dX6_best_85 rfl rfl ?_
          refine j_iconst (v := (-1 : Int32)) C dX6_best_86 rfl ?_
          refine j_putI (j := 12) C dX6_best_87 FC6 (MAt.S h0) (by decide) rfl rfl rfl rfl tw_815 ?_
          refine j_aload_n C dX6_best_90 rfl rfl ?_
          refine j_iload C dX6_best_91 rfl ?_
          refine j_iload C dX6_best_93 rfl ?_
          refine j_callV_vw (st := []) C dX6_best_95 (ct_X6_tries (kγ κ) E (up2 r80.2.1 0 12 (-1 : Int32)) r80.2.2 x4 r80.1 h0) mi_X6_tries tw_1299 FC6 (MAt.S h0) rfl rfl (Nat.le_of_ble_eq_true rfl) ⟨⟨rfl, rfl⟩, ⟨Nat.le_of_ble_eq_true rfl, Nat.le_of_ble_eq_true rfl⟩, ⟨Nat.zero_le _, Nat.zero_le _⟩⟩ (fun r95 => ?_)
          refine j_pc (pc2 := 98) rfl ?_
          refine j_iinc (i := 4) (v := (x4 + (1 : Int32))) (lv' := [some (.ref (E.2.1 0)), some (.int x1), some (.int x2), some (.int x3), some (.int (x4 + (1 : Int32))), some (.int r80.1)]) C dX6_best_98 rfl rfl (hn 4 (by decide)) rfl ?_
          refine j_goto (tgt := 57) C dX6_best_101 (by decide) ?_
          refine j_mask [true, true, true, true, true, false] (lv' := [some (.ref (E.2.1 0)), some (.int x1), some (.int x2), some (.int x3), some (.int (x4 + (1 : Int32))), none]) rfl ?_
          exact ih r95.1 r95.2 x1 x2 x3 ((x4 + (1 : Int32)))
  unfold F_X6_best
  refine j_iload_n C dX6_best_0 rfl rfl ?_
  refine j_i2l C dX6_best_1 ?_
  refine j_lconst (v := (0 : Int64)) C dX6_best_2 rfl ?_
  refine j_ldc2 (v := (2 : Int64)) C dX6_best_3 tw_1202 ?_
  refine j_callS_i (st := []) C dX6_best_6 (ct_X6_in (kγ κ) E M L (Int32.toInt64 x1) (0 : Int64) (2 : Int64)) mi_X6_in tw_933 rfl rfl (Nat.le_of_ble_eq_true rfl) ⟨⟨rfl, rfl⟩, ⟨Nat.le_of_ble_eq_true rfl, Nat.le_of_ble_eq_true rfl⟩, ⟨Nat.zero_le _, Nat.zero_le _⟩⟩ (fun v6 => ?_)
  refine j_if_eq (tgt := 36) C dX6_best_9 (by decide) ?_ ?_
  · refine j_bipush (v := (-2 : Int32)) C dX6_best_36 (by decide) ?_
    exact j_iretw C dX6_best_38
  · refine j_iload_n C dX6_best_12 rfl rfl ?_
    refine j_i2l C dX6_best_13 ?_
    refine j_lconst (v := (1 : Int64)) C dX6_best_14 rfl ?_
    refine j_ldc2 (v := (20 : Int64)) C dX6_best_15 tw_1298 ?_
    refine j_callS_i (st := []) C dX6_best_18 (ct_X6_in (kγ κ) E M L (Int32.toInt64 x2) (1 : Int64) (20 : Int64)) mi_X6_in tw_933 rfl rfl (Nat.le_of_ble_eq_true rfl) ⟨⟨rfl, rfl⟩, ⟨Nat.le_of_ble_eq_true rfl, Nat.le_of_ble_eq_true rfl⟩, ⟨Nat.zero_le _, Nat.zero_le _⟩⟩ (fun v18 => ?_)
    refine j_if_eq (tgt := 36) C dX6_best_21 (by decide) ?_ ?_
    · refine j_bipush (v := (-2 : Int32)) C dX6_best_36 (by decide) ?_
      exact j_iretw C dX6_best_38
    · refine j_iload_n C dX6_best_24 rfl rfl ?_
      refine j_i2l C dX6_best_25 ?_
      refine j_lconst (v := (0 : Int64)) C dX6_best_26 rfl ?_
      refine j_ldc2 (v := (5 : Int64)) C dX6_best_27 tw_932 ?_
      refine j_callS_i (st := []) C dX6_best_30 (ct_X6_in (kγ κ) E M L (Int32.toInt64 x3) (0 : Int64) (5 : Int64)) mi_X6_in tw_933 rfl rfl (Nat.le_of_ble_eq_true rfl) ⟨⟨rfl, rfl⟩, ⟨Nat.le_of_ble_eq_true rfl, Nat.le_of_ble_eq_true rfl⟩, ⟨Nat.zero_le _, Nat.zero_le _⟩⟩ (fun v30 => ?_)
      refine j_if_ne (tgt := 39) C dX6_best_33 (by decide) ?_ ?_
      · refine j_aload_n C dX6_best_39 rfl rfl ?_
        refine j_iconst (v := (-1 : Int32)) C dX6_best_40 rfl ?_
        refine j_putI (j := 29) C dX6_best_41 FC6 (MAt.S h0) (by decide) rfl rfl rfl rfl tw_832 ?_
        refine j_aload_n C dX6_best_44 rfl rfl ?_
        refine j_aload_n C dX6_best_45 rfl rfl ?_
        refine j_iload_n C dX6_best_46 rfl rfl ?_
        refine j_iload_n C dX6_best_47 rfl rfl ?_
        refine j_pc (pc2 := 48) rfl ?_
        refine j_callV_iw (st := [.ref (E.2.1 0)]) C dX6_best_48 (ct_X6_foundBehind (kγ κ) E (up2 M 0 29 (-1 : Int32)) L x1 x2 h0) mi_X6_foundBehind tw_1270 FC6 (MAt.S h0) rfl rfl (Nat.le_of_ble_eq_true rfl) ⟨⟨rfl, rfl⟩, ⟨Nat.le_of_ble_eq_true rfl, Nat.le_of_ble_eq_true rfl⟩, ⟨Nat.zero_le _, Nat.zero_le _⟩⟩ (fun r48 => ?_)
        refine j_putI (j := 30) C dX6_best_51 FC6 (MAt.S h0) (by decide) rfl rfl rfl rfl tw_833 ?_
        refine j_iconst (v := (0 : Int32)) C dX6_best_54 rfl ?_
        refine j_istore (i := 4) (lv' := [some (.ref (E.2.1 0)), some (.int x1), some (.int x2), some (.int x3), some (.int (0 : Int32)), none]) C dX6_best_55 (hn 4 (by decide)) rfl ?_
        exact k57 FU ((up2 r48.2.1 0 30 r48.1)) r48.2.2 x1 x2 x3 ((0 : Int32))
      · refine j_bipush (v := (-2 : Int32)) C dX6_best_36 (by decide) ?_
        exact j_iretw C dX6_best_38
set_option maxRecDepth 100000 in
set_option maxHeartbeats 4000000 in
theorem ct_X6_lowest (γ : Gm) (E : Ev) (M : Mi) (L : Ml)  (x0 : Int64) (x2 : Int64) (x4 : Int32)  : Ct γ yX6_lowest cX6_lowest 11 (some .long) ⟨0, 0, 0, 0⟩ [.long x0, .long x2, .int x4] E M L (Q_l γ E M L) 0 0 (F_X6_lowest x0 x2 x4) := by
  refine ct_of (own := RX6) (lv := [some (.long x0), none, some (.long x2), none, some (.int x4), none, none, none, none, none, none]) (by decide +kernel) rfl rfl (Nat.le_of_ble_eq_true rfl) (fun κ C hγ hN => ?_)
  subst hγ
  have hn : ∀ i, i < 11 → i < knL κ := fun i h => by rw [hN]; exact h
  have k6 : ∀ (n : Nat) (x0 : Int64) (x2 : Int64) (x4 : Int32) (x5 : Int64) (x7 : Int64), JF κ (PQ κ (Q_l (kγ κ) E M L) 0 0) 6 [some (.long x0), none, some (.long x2), none, some (.int x4), some (.long x5), none, some (.long x7), none, none, none] [] E M L 0 0 (F_X6_lowest_k6  n x0 x2 x4 x5 x7) := by
    intro n
    induction n with
    | zero => intros; exact jf_none
    | succ n ih =>
      intro x0 x2 x4 x5 x7
      unfold F_X6_lowest_k6
      refine j_lload C dX6_lowest_6 rfl ?_
      refine j_lconst (v := (0 : Int64)) C dX6_lowest_8 rfl ?_
      refine j_lcmp C dX6_lowest_9 ?_
      refine j_if_eq (tgt := 31) C dX6_lowest_10 (by decide) ?_ ?_
      · refine j_iload C dX6_lowest_31 rfl ?_
        refine j_if_ne (tgt := 43) C dX6_lowest_33 (by decide) ?_ ?_
        · refine j_lload_n C dX6_lowest_43 rfl rfl ?_
          refine j_lload C dX6_lowest_44 rfl ?_
          refine j_ldiv C dX6_lowest_46 ?_
          exact j_lret C dX6_lowest_47
        · refine j_lload_n C dX6_lowest_36 rfl rfl ?_
          refine j_lload C dX6_lowest_37 rfl ?_
          refine j_ldiv C dX6_lowest_39 ?_
          refine j_goto (tgt := 47) C dX6_lowest_40 (by decide) ?_
          exact j_lret C dX6_lowest_47
      · refine j_lload C dX6_lowest_13 rfl ?_
        refine j_lload C dX6_lowest_15 rfl ?_
        refine j_lrem C dX6_lowest_17 ?_
        refine j_lstore (i := 9) (lv' := [some (.long x0), none, some (.long x2), none, some (.int x4), some (.long x5), none, some (.long x7), none, some (.long (lrm x5 x7)), none]) C dX6_lowest_18 (hn 10 (by decide)) rfl ?_
        refine j_lload C dX6_lowest_20 rfl ?_
        refine j_lstore (i := 5) (lv' := [some (.long x0), none, some (.long x2), none, some (.int x4), some (.long x7), none, some (.long x7), none, some (.long (lrm x5 x7)), none]) C dX6_lowest_22 (hn 6 (by decide)) rfl ?_
        refine j_lload C dX6_lowest_24 rfl ?_
        refine j_pc (pc2 := 26) rfl ?_
        refine j_lstore (i := 7) (lv' := [some (.long x0), none, some (.long x2), none, some (.int x4), some (.long x7), none, some (.long (lrm x5 x7)), none, some (.long (lrm x5 x7)), none]) C dX6_lowest_26 (hn 8 (by decide)) rfl ?_
        refine j_goto (tgt := 6) C dX6_lowest_28 (by decide) ?_
        refine j_mask [true, false, true, false, true, true, false, true, false, false, false] (lv' := [some (.long x0), none, some (.long x2), none, some (.int x4), some (.long x7), none, some (.long (lrm x5 x7)), none, none, none]) rfl ?_
        exact ih x0 x2 x4 x7 ((lrm x5 x7))
  unfold F_X6_lowest
  refine j_lload_n C dX6_lowest_0 rfl rfl ?_
  refine j_lstore (i := 5) (lv' := [some (.long x0), none, some (.long x2), none, some (.int x4), some (.long x0), none, none, none, none, none]) C dX6_lowest_1 (hn 6 (by decide)) rfl ?_
  refine j_lload_n C dX6_lowest_3 rfl rfl ?_
  refine j_lstore (i := 7) (lv' := [some (.long x0), none, some (.long x2), none, some (.int x4), some (.long x0), none, some (.long x2), none, none, none]) C dX6_lowest_4 (hn 8 (by decide)) rfl ?_
  exact k6 FU x0 x2 x4 x0 x2
set_option maxRecDepth 100000 in
set_option maxHeartbeats 4000000 in
theorem ct_X6_mean (γ : Gm) (E : Ev) (M : Mi) (L : Ml)  (x1 : Int32) (h0 : MAt E) : Ct γ yX6_mean cX6_mean 4 (some .long) ⟨1, 0, 0, 30⟩ [.ref (E.2.1 0), .int x1] E M L (Q_l γ E M L) 0 0 (F_X6_mean M L x1) := by
  refine ct_of (own := RX6) (lv := [some (.ref (E.2.1 0)), some (.int x1), none, none]) (by decide +kernel) rfl rfl (Nat.le_of_ble_eq_true rfl) (fun κ C hγ hN => ?_)
  subst hγ
  have hn : ∀ i, i < 4 → i < knL κ := fun i h => by rw [hN]; exact h
  have k25 : ∀ (n : Nat) (x1 : Int32) (x2 : Int32) (x3 : Int32), JF κ (PQ κ (Q_l (kγ κ) E M L) 0 0) 25 [some (.ref (E.2.1 0)), some (.int x1), some (.int x2), some (.int x3)] [] E M L 0 0 (F_X6_mean_k25 M L n x1 x2 x3) := by
    intro n
    induction n with
    | zero => intros; exact jf_none
    | succ n ih =>
      intro x1 x2 x3
      unfold F_X6_mean_k25
      refine j_iload_n C dX6_mean_25 rfl rfl ?_
      refine j_aload_n C dX6_mean_26 rfl rfl ?_
      refine j_getI (j := 11) C dX6_mean_27 FC6 (MAt.S h0) (by decide) rfl tw_814 ?_
      refine j_icmp_ge (tgt := 52) C dX6_mean_30 (by decide) ?_ ?_
      · refine j_iload_n C dX6_mean_52 rfl rfl ?_
        refine j_i2l C dX6_mean_53 ?_
        refine j_aload_n C dX6_mean_54 rfl rfl ?_
        refine j_getI (j := 11) C dX6_mean_55 FC6 (MAt.S h0) (by decide) rfl tw_814 ?_
        refine j_i2l C dX6_mean_58 ?_
        refine j_iload_n C dX6_mean_59 rfl rfl ?_
        refine j_callS_l (st := []) C dX6_mean_60 (ct_X6_lowest (kγ κ) E M L (Int32.toInt64 x2) (Int32.toInt64 (M 0 11)) x1) mi_X6_lowest tw_1311 rfl rfl (Nat.le_of_ble_eq_true rfl) ⟨⟨rfl, rfl⟩, ⟨Nat.le_of_ble_eq_true rfl, Nat.le_of_ble_eq_true rfl⟩, ⟨Nat.zero_le _, Nat.zero_le _⟩⟩ (fun v60 => ?_)
        refine j_pc (pc2 := 63) rfl ?_
        exact j_lret C dX6_mean_63
      · refine j_iload_n C dX6_mean_33 rfl rfl ?_
        refine j_aload_n C dX6_mean_34 rfl rfl ?_
        refine j_getR (j := 10) C dX6_mean_35 FC6 (MAt.S h0) (by decide) rfl (MAt.R_rows h0) tw_813 ?_
        refine j_iconst (v := (4 : Int32)) C dX6_mean_38 rfl ?_
        refine j_iload_n C dX6_mean_39 rfl rfl ?_
        refine j_imul C dX6_mean_40 ?_
        refine j_iconst (v := (2 : Int32)) C dX6_mean_41 rfl ?_
        refine j_pc (pc2 := 42) rfl ?_
        refine j_iadd C dX6_mean_42 ?_
        refine j_iald C dX6_mean_43 (MAt.P_rows h0) ?_
        refine j_iadd C dX6_mean_44 ?_
        refine j_nmi (fun z45 => ?_)
        refine j_istore_n (i := 2) (lv' := [some (.ref (E.2.1 0)), some (.int x1), some (.int z45), some (.int x3)]) C dX6_mean_45 rfl (hn 2 (by decide)) rfl ?_
        refine j_iinc (i := 3) (v := (x3 + (1 : Int32))) (lv' := [some (.ref (E.2.1 0)), some (.int x1), some (.int z45), some (.int (x3 + (1 : Int32)))]) C dX6_mean_46 rfl rfl (hn 3 (by decide)) rfl ?_
        refine j_goto (tgt := 25) C dX6_mean_49 (by decide) ?_
        exact ih x1 z45 ((x3 + (1 : Int32)))
  unfold F_X6_mean
  refine j_iload_n C dX6_mean_0 rfl rfl ?_
  refine j_i2l C dX6_mean_1 ?_
  refine j_lconst (v := (0 : Int64)) C dX6_mean_2 rfl ?_
  refine j_lconst (v := (1 : Int64)) C dX6_mean_3 rfl ?_
  refine j_callS_i (st := []) C dX6_mean_4 (ct_X6_in (kγ κ) E M L (Int32.toInt64 x1) (0 : Int64) (1 : Int64)) mi_X6_in tw_933 rfl rfl (Nat.le_of_ble_eq_true rfl) ⟨⟨rfl, rfl⟩, ⟨Nat.le_of_ble_eq_true rfl, Nat.le_of_ble_eq_true rfl⟩, ⟨Nat.zero_le _, Nat.zero_le _⟩⟩ (fun v4 => ?_)
  refine j_if_eq (tgt := 17) C dX6_mean_7 (by decide) ?_ ?_
  · refine j_ldc2 (v := (-4611686018427387904 : Int64)) C dX6_mean_17 tw_1203 ?_
    exact j_lret C dX6_mean_20
  · refine j_aload_n C dX6_mean_10 rfl rfl ?_
    refine j_getI (j := 11) C dX6_mean_11 FC6 (MAt.S h0) (by decide) rfl tw_814 ?_
    refine j_if_ne (tgt := 21) C dX6_mean_14 (by decide) ?_ ?_
    · refine j_iconst (v := (0 : Int32)) C dX6_mean_21 rfl ?_
      refine j_istore_n (i := 2) (lv' := [some (.ref (E.2.1 0)), some (.int x1), some (.int (0 : Int32)), none]) C dX6_mean_22 rfl (hn 2 (by decide)) rfl ?_
      refine j_iconst (v := (0 : Int32)) C dX6_mean_23 rfl ?_
      refine j_istore_n (i := 3) (lv' := [some (.ref (E.2.1 0)), some (.int x1), some (.int (0 : Int32)), some (.int (0 : Int32))]) C dX6_mean_24 rfl (hn 3 (by decide)) rfl ?_
      exact k25 FU x1 ((0 : Int32)) ((0 : Int32))
    · refine j_ldc2 (v := (-4611686018427387904 : Int64)) C dX6_mean_17 tw_1203 ?_
      exact j_lret C dX6_mean_20
set_option maxRecDepth 100000 in
set_option maxHeartbeats 4000000 in
theorem ct_X6_firstOther (γ : Gm) (E : Ev) (M : Mi) (L : Ml)  (x1 : Int32) (x2 : Int32) (h0 : MAt E) : Ct γ yX6_firstOther cX6_firstOther 5 (some .int) ⟨45, 0, 0, 1001⟩ [.ref (E.2.1 0), .int x1, .int x2] E M L (Q_iw γ E) 0 0 (F_X6_firstOther M L x1 x2) := by
  refine ct_of (own := RX6) (lv := [some (.ref (E.2.1 0)), some (.int x1), some (.int x2), none, none]) (by decide +kernel) rfl rfl (Nat.le_of_ble_eq_true rfl) (fun κ C hγ hN => ?_)
  subst hγ
  have hn : ∀ i, i < 5 → i < knL κ := fun i h => by rw [hN]; exact h
  have k63 : ∀ (M : Mi) (L : Ml) (x3 : Int32), JF κ (PQ κ (Q_iw (kγ κ) E) 0 0) 63 [some (.ref (E.2.1 0)), none, none, some (.int x3), none] [] E M L 0 0 (F_X6_firstOther_k63  M L x3) := by
    intro M L x3
    unfold F_X6_firstOther_k63
    refine j_aload_n C dX6_firstOther_63 rfl rfl ?_
    refine j_callV_vw (st := []) C dX6_firstOther_64 (ct_X6_laysBack (kγ κ) E M L h0) mi_X6_laysBack tw_1262 FC6 (MAt.S h0) rfl rfl (Nat.le_of_ble_eq_true rfl) ⟨⟨rfl, rfl⟩, ⟨Nat.le_of_ble_eq_true rfl, Nat.le_of_ble_eq_true rfl⟩, ⟨Nat.zero_le _, Nat.zero_le _⟩⟩ (fun r64 => ?_)
    refine j_iload_n C dX6_firstOther_67 rfl rfl ?_
    exact j_iretw C dX6_firstOther_68
  have k56 : ∀ (kf9 : Mi → Ml → Int32 → Int32 → Int32 → Int32 → Option (Int32 × Mi × Ml)), (∀ (M : Mi) (L : Ml) (x1 : Int32) (x2 : Int32) (x3 : Int32) (x4 : Int32), JF κ (PQ κ (Q_iw (kγ κ) E) 0 0) 9 [some (.ref (E.2.1 0)), some (.int x1), some (.int x2), some (.int x3), some (.int x4)] [] E M L 0 0 (kf9 M L x1 x2 x3 x4)) → ∀ (M : Mi) (L : Ml) (x1 : Int32) (x2 : Int32) (x4 : Int32) (s0 : Int32), JF κ (PQ κ (Q_iw (kγ κ) E) 0 0) 56 [some (.ref (E.2.1 0)), some (.int x1), some (.int x2), none, some (.int x4)] [.int s0] E M L 0 0 (F_X6_firstOther_k56 kf9 M L x1 x2 x4 s0) := by
    intro kf9 hkf9 M L x1 x2 x4 s0
    unfold F_X6_firstOther_k56
    refine j_istore_n (i := 3) (lv' := [some (.ref (E.2.1 0)), some (.int x1), some (.int x2), some (.int s0), some (.int x4)]) C dX6_firstOther_56 rfl (hn 3 (by decide)) rfl ?_
    refine j_iinc (i := 4) (v := (x4 + (1 : Int32))) (lv' := [some (.ref (E.2.1 0)), some (.int x1), some (.int x2), some (.int s0), some (.int (x4 + (1 : Int32)))]) C dX6_firstOther_57 rfl rfl (hn 4 (by decide)) rfl ?_
    refine j_goto (tgt := 9) C dX6_firstOther_60 (by decide) ?_
    exact hkf9 M L x1 x2 s0 ((x4 + (1 : Int32)))
  have k9 : ∀ (n : Nat) (M : Mi) (L : Ml) (x1 : Int32) (x2 : Int32) (x3 : Int32) (x4 : Int32), JF κ (PQ κ (Q_iw (kγ κ) E) 0 0) 9 [some (.ref (E.2.1 0)), some (.int x1), some (.int x2), some (.int x3), some (.int x4)] [] E M L 0 0 (F_X6_firstOther_k9  n M L x1 x2 x3 x4) := by
    intro n
    induction n with
    | zero => intros; exact jf_none
    | succ n ih =>
      intro M L x1 x2 x3 x4
      unfold F_X6_firstOther_k9
      refine j_iload C dX6_firstOther_9 rfl ?_
      refine j_aload_n C dX6_firstOther_11 rfl rfl ?_
      refine j_getR (j := 39) C dX6_firstOther_12 FC6 (MAt.S h0) (by decide) rfl (MAt.R_sheetSize h0) tw_842 ?_
      refine j_iload_n C dX6_firstOther_15 rfl rfl ?_
      refine j_iald C dX6_firstOther_16 (MAt.P_sheetSize h0) ?_
      refine j_icmp_ge (tgt := 63) C dX6_firstOther_17 (by decide) ?_ ?_
      · refine j_mask [true, false, false, true, false] (lv' := [some (.ref (E.2.1 0)), none, none, some (.int x3), none]) rfl ?_
        exact k63 M L x3
      · refine j_iload_n C dX6_firstOther_20 rfl rfl ?_
        refine j_iconst (v := (-1 : Int32)) C dX6_firstOther_21 rfl ?_
        refine j_icmp_ne (tgt := 63) C dX6_firstOther_22 (by decide) ?_ ?_
        · refine j_mask [true, false, false, true, false] (lv' := [some (.ref (E.2.1 0)), none, none, some (.int x3), none]) rfl ?_
          exact k63 M L x3
        · refine j_aload_n C dX6_firstOther_25 rfl rfl ?_
          refine j_callV_iw (st := []) C dX6_firstOther_26 (ct_X6_passes (kγ κ) E M L h0) mi_X6_passes tw_1240 FC6 (MAt.S h0) rfl rfl (Nat.le_of_ble_eq_true rfl) ⟨⟨rfl, rfl⟩, ⟨Nat.le_of_ble_eq_true rfl, Nat.le_of_ble_eq_true rfl⟩, ⟨Nat.zero_le _, Nat.zero_le _⟩⟩ (fun r26 => ?_)
          refine j_pop C dX6_firstOther_29 rfl ?_
          refine j_aload_n C dX6_firstOther_30 rfl rfl ?_
          refine j_iload_n C dX6_firstOther_31 rfl rfl ?_
          refine j_callV_i (st := []) C dX6_firstOther_32 (ct_X6_onOf (kγ κ) E r26.2.1 r26.2.2 x2 h0) mi_X6_onOf tw_955 FC6 (MAt.S h0) rfl rfl (Nat.le_of_ble_eq_true rfl) ⟨⟨rfl, rfl⟩, ⟨Nat.le_of_ble_eq_true rfl, Nat.le_of_ble_eq_true rfl⟩, ⟨Nat.zero_le _, Nat.zero_le _⟩⟩ (fun v32 => ?_)
          refine j_aload_n C dX6_firstOther_35 rfl rfl ?_
          refine j_pc (pc2 := 36) rfl ?_
          refine j_getR (j := 40) C dX6_firstOther_36 FC6 (MAt.S h0) (by decide) rfl (MAt.R_items h0) tw_843 ?_
          refine j_bipush (v := (40 : Int32)) C dX6_firstOther_39 (by decide) ?_
          refine j_iload_n C dX6_firstOther_41 rfl rfl ?_
          refine j_imul C dX6_firstOther_42 ?_
          refine j_iload C dX6_firstOther_43 rfl ?_
          refine j_iadd C dX6_firstOther_45 ?_
          refine j_iald C dX6_firstOther_46 (MAt.P_items h0) ?_
          refine j_icmp_ne (tgt := 54) C dX6_firstOther_47 (by decide) ?_ ?_
          · refine j_iload C dX6_firstOther_54 rfl ?_
            refine j_mask [true, true, true, false, true] (lv' := [some (.ref (E.2.1 0)), some (.int x1), some (.int x2), none, some (.int x4)]) rfl ?_
            exact k56 (F_X6_firstOther_k9  n) ih r26.2.1 r26.2.2 x1 x2 x4 x4
          · refine j_iconst (v := (-1 : Int32)) C dX6_firstOther_50 rfl ?_
            refine j_goto (tgt := 56) C dX6_firstOther_51 (by decide) ?_
            refine j_mask [true, true, true, false, true] (lv' := [some (.ref (E.2.1 0)), some (.int x1), some (.int x2), none, some (.int x4)]) rfl ?_
            exact k56 (F_X6_firstOther_k9  n) ih r26.2.1 r26.2.2 x1 x2 x4 ((-1 : Int32))
  unfold F_X6_firstOther
  refine j_aload_n C dX6_firstOther_0 rfl rfl ?_
  refine j_callV_vw (st := []) C dX6_firstOther_1 (ct_X6_laysAside (kγ κ) E M L h0) mi_X6_laysAside tw_1250 FC6 (MAt.S h0) rfl rfl (Nat.le_of_ble_eq_true rfl) ⟨⟨rfl, rfl⟩, ⟨Nat.le_of_ble_eq_true rfl, Nat.le_of_ble_eq_true rfl⟩, ⟨Nat.zero_le _, Nat.zero_le _⟩⟩ (fun r1 => ?_)
  refine j_iconst (v := (-1 : Int32)) C dX6_firstOther_4 rfl ?_
  refine j_istore_n (i := 3) (lv' := [some (.ref (E.2.1 0)), some (.int x1), some (.int x2), some (.int (-1 : Int32)), none]) C dX6_firstOther_5 rfl (hn 3 (by decide)) rfl ?_
  refine j_iconst (v := (0 : Int32)) C dX6_firstOther_6 rfl ?_
  refine j_istore (i := 4) (lv' := [some (.ref (E.2.1 0)), some (.int x1), some (.int x2), some (.int (-1 : Int32)), some (.int (0 : Int32))]) C dX6_firstOther_7 (hn 4 (by decide)) rfl ?_
  exact k9 FU r1.1 r1.2 x1 x2 ((-1 : Int32)) ((0 : Int32))
set_option maxRecDepth 100000 in
set_option maxHeartbeats 4000000 in
theorem ct_X6_likeSet (γ : Gm) (E : Ev) (M : Mi) (L : Ml)  (x1 : Int32) (h0 : MAt E) : Ct γ yX6_likeSet cX6_likeSet 4 (some .int) ⟨46, 0, 0, 1025⟩ [.ref (E.2.1 0), .int x1] E M L (Q_iw γ E) 0 0 (F_X6_likeSet M L x1) := by
  refine ct_of (own := RX6) (lv := [some (.ref (E.2.1 0)), some (.int x1), none, none]) (by decide +kernel) rfl rfl (Nat.le_of_ble_eq_true rfl) (fun κ C hγ hN => ?_)
  subst hγ
  have hn : ∀ i, i < 4 → i < knL κ := fun i h => by rw [hN]; exact h
  have k28 : ∀ (kf4 : Mi → Ml → Int32 → Int32 → Int32 → Option (Int32 × Mi × Ml)), (∀ (M : Mi) (L : Ml) (x1 : Int32) (x2 : Int32) (x3 : Int32), JF κ (PQ κ (Q_iw (kγ κ) E) 0 0) 4 [some (.ref (E.2.1 0)), some (.int x1), some (.int x2), some (.int x3)] [] E M L 0 0 (kf4 M L x1 x2 x3)) → ∀ (M : Mi) (L : Ml) (x1 : Int32) (x3 : Int32) (s0 : Int32) (s1 : Int32), JF κ (PQ κ (Q_iw (kγ κ) E) 0 0) 28 [some (.ref (E.2.1 0)), some (.int x1), none, some (.int x3)] [.int s1, .int s0] E M L 0 0 (F_X6_likeSet_k28 kf4 M L x1 x3 s0 s1) := by
    intro kf4 hkf4 M L x1 x3 s0 s1
    unfold F_X6_likeSet_k28
    refine j_iload_n C dX6_likeSet_28 rfl rfl ?_
    refine j_ishl C dX6_likeSet_29 ?_
    refine j_ior C dX6_likeSet_30 ?_
    refine j_istore_n (i := 2) (lv' := [some (.ref (E.2.1 0)), some (.int x1), some (.int (s0 ||| (ishl s1 x3))), some (.int x3)]) C dX6_likeSet_31 rfl (hn 2 (by decide)) rfl ?_
    refine j_iinc (i := 3) (v := (x3 + (1 : Int32))) (lv' := [some (.ref (E.2.1 0)), some (.int x1), some (.int (s0 ||| (ishl s1 x3))), some (.int (x3 + (1 : Int32)))]) C dX6_likeSet_32 rfl rfl (hn 3 (by decide)) rfl ?_
    refine j_goto (tgt := 4) C dX6_likeSet_35 (by decide) ?_
    exact hkf4 M L x1 ((s0 ||| (ishl s1 x3))) ((x3 + (1 : Int32)))
  have k4 : ∀ (n : Nat) (M : Mi) (L : Ml) (x1 : Int32) (x2 : Int32) (x3 : Int32), JF κ (PQ κ (Q_iw (kγ κ) E) 0 0) 4 [some (.ref (E.2.1 0)), some (.int x1), some (.int x2), some (.int x3)] [] E M L 0 0 (F_X6_likeSet_k4  n M L x1 x2 x3) := by
    intro n
    induction n with
    | zero => intros; exact jf_none
    | succ n ih =>
      intro M L x1 x2 x3
      unfold F_X6_likeSet_k4
      refine j_iload_n C dX6_likeSet_4 rfl rfl ?_
      refine j_aload_n C dX6_likeSet_5 rfl rfl ?_
      refine j_getI (j := 11) C dX6_likeSet_6 FC6 (MAt.S h0) (by decide) rfl tw_814 ?_
      refine j_icmp_ge (tgt := 38) C dX6_likeSet_9 (by decide) ?_ ?_
      · refine j_iload_n C dX6_likeSet_38 rfl rfl ?_
        exact j_iretw C dX6_likeSet_39
      · refine j_iload_n C dX6_likeSet_12 rfl rfl ?_
        refine j_aload_n C dX6_likeSet_13 rfl rfl ?_
        refine j_iload_n C dX6_likeSet_14 rfl rfl ?_
        refine j_iload_n C dX6_likeSet_15 rfl rfl ?_
        refine j_callV_iw (st := [.int x2]) C dX6_likeSet_16 (ct_X6_firstOther (kγ κ) E M L x1 x3 h0) mi_X6_firstOther tw_1322 FC6 (MAt.S h0) rfl rfl (Nat.le_of_ble_eq_true rfl) ⟨⟨rfl, rfl⟩, ⟨Nat.le_of_ble_eq_true rfl, Nat.le_of_ble_eq_true rfl⟩, ⟨Nat.zero_le _, Nat.zero_le _⟩⟩ (fun r16 => ?_)
        refine j_iconst (v := (-1 : Int32)) C dX6_likeSet_19 rfl ?_
        refine j_icmp_ne (tgt := 27) C dX6_likeSet_20 (by decide) ?_ ?_
        · refine j_iconst (v := (0 : Int32)) C dX6_likeSet_27 rfl ?_
          refine j_mask [true, true, false, true] (lv' := [some (.ref (E.2.1 0)), some (.int x1), none, some (.int x3)]) rfl ?_
          exact k28 (F_X6_likeSet_k4  n) ih r16.2.1 r16.2.2 x1 x3 x2 ((0 : Int32))
        · refine j_iconst (v := (1 : Int32)) C dX6_likeSet_23 rfl ?_
          refine j_goto (tgt := 28) C dX6_likeSet_24 (by decide) ?_
          refine j_mask [true, true, false, true] (lv' := [some (.ref (E.2.1 0)), some (.int x1), none, some (.int x3)]) rfl ?_
          exact k28 (F_X6_likeSet_k4  n) ih r16.2.1 r16.2.2 x1 x3 x2 ((1 : Int32))
  unfold F_X6_likeSet
  refine j_iconst (v := (0 : Int32)) C dX6_likeSet_0 rfl ?_
  refine j_istore_n (i := 2) (lv' := [some (.ref (E.2.1 0)), some (.int x1), some (.int (0 : Int32)), none]) C dX6_likeSet_1 rfl (hn 2 (by decide)) rfl ?_
  refine j_iconst (v := (0 : Int32)) C dX6_likeSet_2 rfl ?_
  refine j_istore_n (i := 3) (lv' := [some (.ref (E.2.1 0)), some (.int x1), some (.int (0 : Int32)), some (.int (0 : Int32))]) C dX6_likeSet_3 rfl (hn 3 (by decide)) rfl ?_
  exact k4 FU M L x1 ((0 : Int32)) ((0 : Int32))
set_option maxRecDepth 100000 in
set_option maxHeartbeats 4000000 in
theorem ct_X6_isSheet (γ : Gm) (E : Ev) (M : Mi) (L : Ml)  (x0 : Int32)  : Ct γ yX6_isSheet cX6_isSheet 1 (some .boolean) ⟨1, 0, 0, 25⟩ [.int x0] E M L (Q_i γ E M L) 0 0 (F_X6_isSheet x0) := by
  refine ct_of (own := RX6) (lv := [some (.int x0)]) (by decide +kernel) rfl rfl (Nat.le_of_ble_eq_true rfl) (fun κ C hγ hN => ?_)
  subst hγ
  have hn : ∀ i, i < 1 → i < knL κ := fun i h => by rw [hN]; exact h
  unfold F_X6_isSheet
  refine j_iload_n C dX6_isSheet_0 rfl rfl ?_
  refine j_i2l C dX6_isSheet_1 ?_
  refine j_lconst (v := (0 : Int64)) C dX6_isSheet_2 rfl ?_
  refine j_ldc2 (v := (3 : Int64)) C dX6_isSheet_3 tw_1249 ?_
  refine j_callS_i (st := []) C dX6_isSheet_6 (ct_X6_in (kγ κ) E M L (Int32.toInt64 x0) (0 : Int64) (3 : Int64)) mi_X6_in tw_933 rfl rfl (Nat.le_of_ble_eq_true rfl) ⟨⟨rfl, rfl⟩, ⟨Nat.le_of_ble_eq_true rfl, Nat.le_of_ble_eq_true rfl⟩, ⟨Nat.zero_le _, Nat.zero_le _⟩⟩ (fun v6 => ?_)
  exact j_zret C dX6_isSheet_9
set_option maxRecDepth 100000 in
set_option maxHeartbeats 4000000 in
theorem ct_X6_tells (γ : Gm) (E : Ev) (M : Mi) (L : Ml)  (x1 : Int32) (x2 : Int32) (x3 : Int32) (h0 : MAt E) : Ct γ yX6_tells cX6_tells 11 (some .int) ⟨47, 0, 0, 1048⟩ [.ref (E.2.1 0), .int x1, .int x2, .int x3] E M L (Q_iw γ E) 0 0 (F_X6_tells M L x1 x2 x3) := by
  refine ct_of (own := RX6) (lv := [some (.ref (E.2.1 0)), some (.int x1), some (.int x2), some (.int x3), none, none, none, none, none, none, none]) (by decide +kernel) rfl rfl (Nat.le_of_ble_eq_true rfl) (fun κ C hγ hN => ?_)
  subst hγ
  have hn : ∀ i, i < 11 → i < knL κ := fun i h => by rw [hN]; exact h
  have k66 : ∀ (M : Mi) (L : Ml) (x1 : Int32) (x2 : Int32) (x3 : Int32), JF κ (PQ κ (Q_iw (kγ κ) E) 0 0) 66 [some (.ref (E.2.1 0)), some (.int x1), some (.int x2), some (.int x3), none, none, none, none, none, none, none] [] E M L 0 0 (F_X6_tells_k66  M L x1 x2 x3) := by
    intro M L x1 x2 x3
    unfold F_X6_tells_k66
    refine j_iload_n C dX6_tells_66 rfl rfl ?_
    refine j_if_ne (tgt := 79) C dX6_tells_67 (by decide) ?_ ?_
    · refine j_aload_n C dX6_tells_79 rfl rfl ?_
      refine j_iload_n C dX6_tells_80 rfl rfl ?_
      refine j_callV_iw (st := []) C dX6_tells_81 (ct_X6_likeSet (kγ κ) E M L x1 h0) mi_X6_likeSet tw_1326 FC6 (MAt.S h0) rfl rfl (Nat.le_of_ble_eq_true rfl) ⟨⟨rfl, rfl⟩, ⟨Nat.le_of_ble_eq_true rfl, Nat.le_of_ble_eq_true rfl⟩, ⟨Nat.zero_le _, Nat.zero_le _⟩⟩ (fun r81 => ?_)
      exact j_iretw C dX6_tells_84
    · refine j_aload_n C dX6_tells_70 rfl rfl ?_
      refine j_iload_n C dX6_tells_71 rfl rfl ?_
      refine j_iload_n C dX6_tells_72 rfl rfl ?_
      refine j_callV_iw (st := []) C dX6_tells_73 (ct_X6_firstOther (kγ κ) E M L x1 x2 h0) mi_X6_firstOther tw_1322 FC6 (MAt.S h0) rfl rfl (Nat.le_of_ble_eq_true rfl) ⟨⟨rfl, rfl⟩, ⟨Nat.le_of_ble_eq_true rfl, Nat.le_of_ble_eq_true rfl⟩, ⟨Nat.zero_le _, Nat.zero_le _⟩⟩ (fun r73 => ?_)
      refine j_goto (tgt := 84) C dX6_tells_76 (by decide) ?_
      exact j_iretw C dX6_tells_84
  have k246 : ∀ (kf195 : Mi → Ml → Int32 → Int32 → Int32 → Int32 → Int32 → Int32 → Int32 → Int32 → Int32 → Option (Int32 × Mi × Ml)), (∀ (M : Mi) (L : Ml) (x1 : Int32) (x2 : Int32) (x3 : Int32) (x4 : Int32) (x5 : Int32) (x7 : Int32) (x8 : Int32) (x9 : Int32) (x10 : Int32), JF κ (PQ κ (Q_iw (kγ κ) E) 0 0) 195 [some (.ref (E.2.1 0)), some (.int x1), some (.int x2), some (.int x3), some (.int x4), some (.int x5), none, some (.int x7), some (.int x8), some (.int x9), some (.int x10)] [] E M L 0 0 (kf195 M L x1 x2 x3 x4 x5 x7 x8 x9 x10)) → ∀ (M : Mi) (L : Ml) (x1 : Int32) (x2 : Int32) (x3 : Int32) (x4 : Int32) (x5 : Int32) (x7 : Int32) (x8 : Int32) (x9 : Int32) (x10 : Int32), JF κ (PQ κ (Q_iw (kγ κ) E) 0 0) 246 [some (.ref (E.2.1 0)), some (.int x1), some (.int x2), some (.int x3), some (.int x4), some (.int x5), none, some (.int x7), some (.int x8), some (.int x9), some (.int x10)] [] E M L 0 0 (F_X6_tells_k246 kf195 M L x1 x2 x3 x4 x5 x7 x8 x9 x10) := by
    intro kf195 hkf195 M L x1 x2 x3 x4 x5 x7 x8 x9 x10
    unfold F_X6_tells_k246
    refine j_iinc (i := 10) (v := (x10 + (-1 : Int32))) (lv' := [some (.ref (E.2.1 0)), some (.int x1), some (.int x2), some (.int x3), some (.int x4), some (.int x5), none, some (.int x7), some (.int x8), some (.int x9), some (.int (x10 + (-1 : Int32)))]) C dX6_tells_246 rfl rfl (hn 10 (by decide)) rfl ?_
    refine j_goto (tgt := 195) C dX6_tells_249 (by decide) ?_
    exact hkf195 M L x1 x2 x3 x4 x5 x7 x8 x9 ((x10 + (-1 : Int32)))
  have k236 : ∀ (kf195 : Mi → Ml → Int32 → Int32 → Int32 → Int32 → Int32 → Int32 → Int32 → Int32 → Int32 → Option (Int32 × Mi × Ml)), (∀ (M : Mi) (L : Ml) (x1 : Int32) (x2 : Int32) (x3 : Int32) (x4 : Int32) (x5 : Int32) (x7 : Int32) (x8 : Int32) (x9 : Int32) (x10 : Int32), JF κ (PQ κ (Q_iw (kγ κ) E) 0 0) 195 [some (.ref (E.2.1 0)), some (.int x1), some (.int x2), some (.int x3), some (.int x4), some (.int x5), none, some (.int x7), some (.int x8), some (.int x9), some (.int x10)] [] E M L 0 0 (kf195 M L x1 x2 x3 x4 x5 x7 x8 x9 x10)) → ∀ (M : Mi) (L : Ml) (x1 : Int32) (x2 : Int32) (x3 : Int32) (x4 : Int32) (x5 : Int32) (x8 : Int32) (x10 : Int32) (s0 : Int32) (s1 : Int32), JF κ (PQ κ (Q_iw (kγ κ) E) 0 0) 236 [some (.ref (E.2.1 0)), some (.int x1), some (.int x2), some (.int x3), some (.int x4), some (.int x5), none, none, some (.int x8), none, some (.int x10)] [.int s1, .int s0] E M L 0 0 (F_X6_tells_k236 kf195 M L x1 x2 x3 x4 x5 x8 x10 s0 s1) := by
    intro kf195 hkf195 M L x1 x2 x3 x4 x5 x8 x10 s0 s1
    unfold F_X6_tells_k236
    refine j_ior C dX6_tells_236 ?_
    refine j_istore (i := 7) (lv' := [some (.ref (E.2.1 0)), some (.int x1), some (.int x2), some (.int x3), some (.int x4), some (.int x5), none, some (.int (s0 ||| s1)), some (.int x8), none, some (.int x10)]) C dX6_tells_237 (hn 7 (by decide)) rfl ?_
    refine j_iinc (i := 8) (v := (x8 + (1 : Int32))) (lv' := [some (.ref (E.2.1 0)), some (.int x1), some (.int x2), some (.int x3), some (.int x4), some (.int x5), none, some (.int (s0 ||| s1)), some (.int (x8 + (1 : Int32))), none, some (.int x10)]) C dX6_tells_239 rfl rfl (hn 8 (by decide)) rfl ?_
    refine j_iload C dX6_tells_242 rfl ?_
    refine j_istore (i := 9) (lv' := [some (.ref (E.2.1 0)), some (.int x1), some (.int x2), some (.int x3), some (.int x4), some (.int x5), none, some (.int (s0 ||| s1)), some (.int (x8 + (1 : Int32))), some (.int x10), some (.int x10)]) C dX6_tells_244 (hn 9 (by decide)) rfl ?_
    exact k246 kf195 hkf195 M L x1 x2 x3 x4 x5 ((s0 ||| s1)) ((x8 + (1 : Int32))) x10 x10
  have k195 : ∀ (n : Nat) (M : Mi) (L : Ml) (x1 : Int32) (x2 : Int32) (x3 : Int32) (x4 : Int32) (x5 : Int32) (x7 : Int32) (x8 : Int32) (x9 : Int32) (x10 : Int32), JF κ (PQ κ (Q_iw (kγ κ) E) 0 0) 195 [some (.ref (E.2.1 0)), some (.int x1), some (.int x2), some (.int x3), some (.int x4), some (.int x5), none, some (.int x7), some (.int x8), some (.int x9), some (.int x10)] [] E M L 0 0 (F_X6_tells_k195  n M L x1 x2 x3 x4 x5 x7 x8 x9 x10) := by
    intro n
    induction n with
    | zero => intros; exact jf_none
    | succ n ih =>
      intro M L x1 x2 x3 x4 x5 x7 x8 x9 x10
      unfold F_X6_tells_k195
      refine j_iload C dX6_tells_195 rfl ?_
      refine j_if_lt (tgt := 252) C dX6_tells_197 (by decide) ?_ ?_
      · refine j_aload_n C dX6_tells_252 rfl rfl ?_
        refine j_iload C dX6_tells_253 rfl ?_
        refine j_iload_n C dX6_tells_255 rfl rfl ?_
        refine j_iload C dX6_tells_256 rfl ?_
        refine j_callV_vw (st := []) C dX6_tells_258 (ct_X6_lays (kγ κ) E M L x4 x2 x5 h0) mi_X6_lays tw_1187 FC6 (MAt.S h0) rfl rfl (Nat.le_of_ble_eq_true rfl) ⟨⟨rfl, rfl⟩, ⟨Nat.le_of_ble_eq_true rfl, Nat.le_of_ble_eq_true rfl⟩, ⟨Nat.zero_le _, Nat.zero_le _⟩⟩ (fun r258 => ?_)
        refine j_iload_n C dX6_tells_261 rfl rfl ?_
        refine j_iconst (v := (3 : Int32)) C dX6_tells_262 rfl ?_
        refine j_pc (pc2 := 263) rfl ?_
        refine j_icmp_ne (tgt := 271) C dX6_tells_263 (by decide) ?_ ?_
        · refine j_iload_n C dX6_tells_271 rfl rfl ?_
          refine j_iconst (v := (4 : Int32)) C dX6_tells_272 rfl ?_
          refine j_icmp_ne (tgt := 281) C dX6_tells_273 (by decide) ?_ ?_
          · refine j_iload C dX6_tells_281 rfl ?_
            exact j_iretw C dX6_tells_283
          · refine j_iload C dX6_tells_276 rfl ?_
            refine j_goto (tgt := 283) C dX6_tells_278 (by decide) ?_
            exact j_iretw C dX6_tells_283
        · refine j_iload C dX6_tells_266 rfl ?_
          refine j_goto (tgt := 283) C dX6_tells_268 (by decide) ?_
          exact j_iretw C dX6_tells_283
      · refine j_aload_n C dX6_tells_200 rfl rfl ?_
        refine j_iload C dX6_tells_201 rfl ?_
        refine j_iload_n C dX6_tells_203 rfl rfl ?_
        refine j_iload C dX6_tells_204 rfl ?_
        refine j_callV_vw (st := []) C dX6_tells_206 (ct_X6_lays (kγ κ) E M L x4 x2 x10 h0) mi_X6_lays tw_1187 FC6 (MAt.S h0) rfl rfl (Nat.le_of_ble_eq_true rfl) ⟨⟨rfl, rfl⟩, ⟨Nat.le_of_ble_eq_true rfl, Nat.le_of_ble_eq_true rfl⟩, ⟨Nat.zero_le _, Nat.zero_le _⟩⟩ (fun r206 => ?_)
        refine j_aload_n C dX6_tells_209 rfl rfl ?_
        refine j_iload_n C dX6_tells_210 rfl rfl ?_
        refine j_pc (pc2 := 211) rfl ?_
        refine j_iload_n C dX6_tells_211 rfl rfl ?_
        refine j_callV_iw (st := []) C dX6_tells_212 (ct_X6_firstOther (kγ κ) E r206.1 r206.2 x1 x2 h0) mi_X6_firstOther tw_1322 FC6 (MAt.S h0) rfl rfl (Nat.le_of_ble_eq_true rfl) ⟨⟨rfl, rfl⟩, ⟨Nat.le_of_ble_eq_true rfl, Nat.le_of_ble_eq_true rfl⟩, ⟨Nat.zero_le _, Nat.zero_le _⟩⟩ (fun r212 => ?_)
        refine j_iconst (v := (-1 : Int32)) C dX6_tells_215 rfl ?_
        refine j_icmp_ne (tgt := 246) C dX6_tells_216 (by decide) ?_ ?_
        · exact k246 (F_X6_tells_k195  n) ih r212.2.1 r212.2.2 x1 x2 x3 x4 x5 x7 x8 x9 x10
        · refine j_iload C dX6_tells_219 rfl ?_
          refine j_iload C dX6_tells_221 rfl ?_
          refine j_bipush (v := (10 : Int32)) C dX6_tells_223 (by decide) ?_
          refine j_icmp_ge (tgt := 235) C dX6_tells_225 (by decide) ?_ ?_
          · refine j_iconst (v := (0 : Int32)) C dX6_tells_235 rfl ?_
            refine j_mask [true, true, true, true, true, true, false, false, true, false, true] (lv' := [some (.ref (E.2.1 0)), some (.int x1), some (.int x2), some (.int x3), some (.int x4), some (.int x5), none, none, some (.int x8), none, some (.int x10)]) rfl ?_
            exact k236 (F_X6_tells_k195  n) ih r212.2.1 r212.2.2 x1 x2 x3 x4 x5 x8 x10 x7 ((0 : Int32))
          · refine j_iconst (v := (1 : Int32)) C dX6_tells_228 rfl ?_
            refine j_iload C dX6_tells_229 rfl ?_
            refine j_ishl C dX6_tells_231 ?_
            refine j_goto (tgt := 236) C dX6_tells_232 (by decide) ?_
            refine j_mask [true, true, true, true, true, true, false, false, true, false, true] (lv' := [some (.ref (E.2.1 0)), some (.int x1), some (.int x2), some (.int x3), some (.int x4), some (.int x5), none, none, some (.int x8), none, some (.int x10)]) rfl ?_
            exact k236 (F_X6_tells_k195  n) ih r212.2.1 r212.2.2 x1 x2 x3 x4 x5 x8 x10 x7 ((ishl (1 : Int32) x10))
  have k180 : ∀ (M : Mi) (L : Ml) (x1 : Int32) (x2 : Int32) (x3 : Int32) (x4 : Int32) (x5 : Int32) (s0 : Int32), JF κ (PQ κ (Q_iw (kγ κ) E) 0 0) 180 [some (.ref (E.2.1 0)), some (.int x1), some (.int x2), some (.int x3), some (.int x4), some (.int x5), none, none, none, none, none] [.int s0] E M L 0 0 (F_X6_tells_k180  M L x1 x2 x3 x4 x5 s0) := by
    intro M L x1 x2 x3 x4 x5 s0
    unfold F_X6_tells_k180
    refine j_istore (i := 6) (lv' := [some (.ref (E.2.1 0)), some (.int x1), some (.int x2), some (.int x3), some (.int x4), some (.int x5), some (.int s0), none, none, none, none]) C dX6_tells_180 (hn 6 (by decide)) rfl ?_
    refine j_iconst (v := (0 : Int32)) C dX6_tells_182 rfl ?_
    refine j_istore (i := 7) (lv' := [some (.ref (E.2.1 0)), some (.int x1), some (.int x2), some (.int x3), some (.int x4), some (.int x5), some (.int s0), some (.int (0 : Int32)), none, none, none]) C dX6_tells_183 (hn 7 (by decide)) rfl ?_
    refine j_iconst (v := (0 : Int32)) C dX6_tells_185 rfl ?_
    refine j_istore (i := 8) (lv' := [some (.ref (E.2.1 0)), some (.int x1), some (.int x2), some (.int x3), some (.int x4), some (.int x5), some (.int s0), some (.int (0 : Int32)), some (.int (0 : Int32)), none, none]) C dX6_tells_186 (hn 8 (by decide)) rfl ?_
    refine j_iconst (v := (-1 : Int32)) C dX6_tells_188 rfl ?_
    refine j_istore (i := 9) (lv' := [some (.ref (E.2.1 0)), some (.int x1), some (.int x2), some (.int x3), some (.int x4), some (.int x5), some (.int s0), some (.int (0 : Int32)), some (.int (0 : Int32)), some (.int (-1 : Int32)), none]) C dX6_tells_189 (hn 9 (by decide)) rfl ?_
    refine j_pc (pc2 := 191) rfl ?_
    refine j_iload C dX6_tells_191 rfl ?_
    refine j_istore (i := 10) (lv' := [some (.ref (E.2.1 0)), some (.int x1), some (.int x2), some (.int x3), some (.int x4), some (.int x5), some (.int s0), some (.int (0 : Int32)), some (.int (0 : Int32)), some (.int (-1 : Int32)), some (.int s0)]) C dX6_tells_193 (hn 10 (by decide)) rfl ?_
    refine j_mask [true, true, true, true, true, true, false, true, true, true, true] (lv' := [some (.ref (E.2.1 0)), some (.int x1), some (.int x2), some (.int x3), some (.int x4), some (.int x5), none, some (.int (0 : Int32)), some (.int (0 : Int32)), some (.int (-1 : Int32)), some (.int s0)]) rfl ?_
    exact k195 FU M L x1 x2 x3 x4 x5 ((0 : Int32)) ((0 : Int32)) ((-1 : Int32)) s0
  have k138 : ∀ (M : Mi) (L : Ml) (x1 : Int32) (x2 : Int32) (x3 : Int32) (x4 : Int32) (s0 : Int32), JF κ (PQ κ (Q_iw (kγ κ) E) 0 0) 138 [some (.ref (E.2.1 0)), some (.int x1), some (.int x2), some (.int x3), some (.int x4), none, none, none, none, none, none] [.int s0] E M L 0 0 (F_X6_tells_k138  M L x1 x2 x3 x4 s0) := by
    intro M L x1 x2 x3 x4 s0
    unfold F_X6_tells_k138
    refine j_istore (i := 5) (lv' := [some (.ref (E.2.1 0)), some (.int x1), some (.int x2), some (.int x3), some (.int x4), some (.int s0), none, none, none, none, none]) C dX6_tells_138 (hn 5 (by decide)) rfl ?_
    refine j_iload C dX6_tells_140 rfl ?_
    refine j_bipush (v := (7 : Int32)) C dX6_tells_142 (by decide) ?_
    refine j_icmp_ne (tgt := 156) C dX6_tells_144 (by decide) ?_ ?_
    · refine j_iload C dX6_tells_156 rfl ?_
      refine j_bipush (v := (6 : Int32)) C dX6_tells_158 (by decide) ?_
      refine j_icmp_ne (tgt := 167) C dX6_tells_160 (by decide) ?_ ?_
      · refine j_iload C dX6_tells_167 rfl ?_
        refine j_iconst (v := (3 : Int32)) C dX6_tells_169 rfl ?_
        refine j_icmp_ne (tgt := 178) C dX6_tells_170 (by decide) ?_ ?_
        · refine j_bipush (v := (99 : Int32)) C dX6_tells_178 (by decide) ?_
          exact k180 M L x1 x2 x3 x4 s0 ((99 : Int32))
        · refine j_bipush (v := (9 : Int32)) C dX6_tells_173 (by decide) ?_
          refine j_goto (tgt := 180) C dX6_tells_175 (by decide) ?_
          exact k180 M L x1 x2 x3 x4 s0 ((9 : Int32))
      · refine j_iconst (v := (5 : Int32)) C dX6_tells_163 rfl ?_
        refine j_goto (tgt := 180) C dX6_tells_164 (by decide) ?_
        exact k180 M L x1 x2 x3 x4 s0 ((5 : Int32))
    · refine j_aload_n C dX6_tells_147 rfl rfl ?_
      refine j_getI (j := 3) C dX6_tells_148 FC6 (MAt.S h0) (by decide) rfl tw_806 ?_
      refine j_iconst (v := (1 : Int32)) C dX6_tells_151 rfl ?_
      refine j_isub C dX6_tells_152 ?_
      refine j_goto (tgt := 180) C dX6_tells_153 (by decide) ?_
      exact k180 M L x1 x2 x3 x4 s0 (((M 0 3) - (1 : Int32)))
  have k115 : ∀ (M : Mi) (L : Ml) (x1 : Int32) (x2 : Int32) (x3 : Int32) (s0 : Int32), JF κ (PQ κ (Q_iw (kγ κ) E) 0 0) 115 [some (.ref (E.2.1 0)), some (.int x1), some (.int x2), some (.int x3), none, none, none, none, none, none, none] [.int s0] E M L 0 0 (F_X6_tells_k115  M L x1 x2 x3 s0) := by
    intro M L x1 x2 x3 s0
    unfold F_X6_tells_k115
    refine j_istore (i := 4) (lv' := [some (.ref (E.2.1 0)), some (.int x1), some (.int x2), some (.int x3), some (.int s0), none, none, none, none, none, none]) C dX6_tells_115 (hn 4 (by decide)) rfl ?_
    refine j_iload C dX6_tells_117 rfl ?_
    refine j_bipush (v := (7 : Int32)) C dX6_tells_119 (by decide) ?_
    refine j_icmp_ne (tgt := 131) C dX6_tells_121 (by decide) ?_ ?_
    · refine j_aload_n C dX6_tells_131 rfl rfl ?_
      refine j_iload_n C dX6_tells_132 rfl rfl ?_
      refine j_iload C dX6_tells_133 rfl ?_
      refine j_callV_iw (st := []) C dX6_tells_135 (ct_X6_told (kγ κ) E M L x2 s0 h0) mi_X6_told tw_962 FC6 (MAt.S h0) rfl rfl (Nat.le_of_ble_eq_true rfl) ⟨⟨rfl, rfl⟩, ⟨Nat.le_of_ble_eq_true rfl, Nat.le_of_ble_eq_true rfl⟩, ⟨Nat.zero_le _, Nat.zero_le _⟩⟩ (fun r135 => ?_)
      exact k138 r135.2.1 r135.2.2 x1 x2 x3 s0 r135.1
    · refine j_aload_n C dX6_tells_124 rfl rfl ?_
      refine j_getI (j := 4) C dX6_tells_125 FC6 (MAt.S h0) (by decide) rfl tw_807 ?_
      refine j_goto (tgt := 138) C dX6_tells_128 (by decide) ?_
      exact k138 M L x1 x2 x3 s0 ((M 0 4))
  unfold F_X6_tells
  refine j_iload_n C dX6_tells_0 rfl rfl ?_
  refine j_callS_i (st := []) C dX6_tells_1 (ct_X6_isSheet (kγ κ) E M L x1) mi_X6_isSheet tw_1318 rfl rfl (Nat.le_of_ble_eq_true rfl) ⟨⟨rfl, rfl⟩, ⟨Nat.le_of_ble_eq_true rfl, Nat.le_of_ble_eq_true rfl⟩, ⟨Nat.zero_le _, Nat.zero_le _⟩⟩ (fun v1 => ?_)
  refine j_if_eq (tgt := 27) C dX6_tells_4 (by decide) ?_ ?_
  · refine j_bipush (v := (-2 : Int32)) C dX6_tells_27 (by decide) ?_
    exact j_iretw C dX6_tells_29
  · refine j_aload_n C dX6_tells_7 rfl rfl ?_
    refine j_iload_n C dX6_tells_8 rfl rfl ?_
    refine j_callV_i (st := []) C dX6_tells_9 (ct_X6_isOne (kγ κ) E M L x2 h0) mi_X6_isOne tw_944 FC6 (MAt.S h0) rfl rfl (Nat.le_of_ble_eq_true rfl) ⟨⟨rfl, rfl⟩, ⟨Nat.le_of_ble_eq_true rfl, Nat.le_of_ble_eq_true rfl⟩, ⟨Nat.zero_le _, Nat.zero_le _⟩⟩ (fun v9 => ?_)
    refine j_if_eq (tgt := 27) C dX6_tells_12 (by decide) ?_ ?_
    · refine j_bipush (v := (-2 : Int32)) C dX6_tells_27 (by decide) ?_
      exact j_iretw C dX6_tells_29
    · refine j_iload_n C dX6_tells_15 rfl rfl ?_
      refine j_i2l C dX6_tells_16 ?_
      refine j_lconst (v := (0 : Int64)) C dX6_tells_17 rfl ?_
      refine j_ldc2 (v := (6 : Int64)) C dX6_tells_18 tw_1321 ?_
      refine j_callS_i (st := []) C dX6_tells_21 (ct_X6_in (kγ κ) E M L (Int32.toInt64 x3) (0 : Int64) (6 : Int64)) mi_X6_in tw_933 rfl rfl (Nat.le_of_ble_eq_true rfl) ⟨⟨rfl, rfl⟩, ⟨Nat.le_of_ble_eq_true rfl, Nat.le_of_ble_eq_true rfl⟩, ⟨Nat.zero_le _, Nat.zero_le _⟩⟩ (fun v21 => ?_)
      refine j_if_ne (tgt := 30) C dX6_tells_24 (by decide) ?_ ?_
      · refine j_aload_n C dX6_tells_30 rfl rfl ?_
        refine j_getR (j := 37) C dX6_tells_31 FC6 (MAt.S h0) (by decide) rfl (MAt.R_isThere h0) tw_840 ?_
        refine j_iload_n C dX6_tells_34 rfl rfl ?_
        refine j_zald C dX6_tells_35 (MAt.P_isThere h0) ?_
        refine j_if_ne (tgt := 42) C dX6_tells_36 (by decide) ?_ ?_
        · refine j_aload_n C dX6_tells_42 rfl rfl ?_
          refine j_getR (j := 39) C dX6_tells_43 FC6 (MAt.S h0) (by decide) rfl (MAt.R_sheetSize h0) tw_842 ?_
          refine j_iload_n C dX6_tells_46 rfl rfl ?_
          refine j_iald C dX6_tells_47 (MAt.P_sheetSize h0) ?_
          refine j_bipush (v := (20 : Int32)) C dX6_tells_48 (by decide) ?_
          refine j_icmp_le (tgt := 56) C dX6_tells_50 (by decide) ?_ ?_
          · refine j_iload_n C dX6_tells_56 rfl rfl ?_
            refine j_if_eq (tgt := 66) C dX6_tells_57 (by decide) ?_ ?_
            · exact k66 M L x1 x2 x3
            · refine j_iload_n C dX6_tells_60 rfl rfl ?_
              refine j_bipush (v := (6 : Int32)) C dX6_tells_61 (by decide) ?_
              refine j_icmp_ne (tgt := 85) C dX6_tells_63 (by decide) ?_ ?_
              · refine j_iload_n C dX6_tells_85 rfl rfl ?_
                refine j_iconst (v := (1 : Int32)) C dX6_tells_86 rfl ?_
                refine j_icmp_ne (tgt := 95) C dX6_tells_87 (by decide) ?_ ?_
                · refine j_iload_n C dX6_tells_95 rfl rfl ?_
                  refine j_iconst (v := (2 : Int32)) C dX6_tells_96 rfl ?_
                  refine j_icmp_ne (tgt := 104) C dX6_tells_97 (by decide) ?_ ?_
                  · refine j_iload_n C dX6_tells_104 rfl rfl ?_
                    refine j_iconst (v := (5 : Int32)) C dX6_tells_105 rfl ?_
                    refine j_icmp_ne (tgt := 114) C dX6_tells_106 (by decide) ?_ ?_
                    · refine j_iconst (v := (5 : Int32)) C dX6_tells_114 rfl ?_
                      exact k115 M L x1 x2 x3 ((5 : Int32))
                    · refine j_bipush (v := (7 : Int32)) C dX6_tells_109 (by decide) ?_
                      refine j_goto (tgt := 115) C dX6_tells_111 (by decide) ?_
                      exact k115 M L x1 x2 x3 ((7 : Int32))
                  · refine j_iconst (v := (3 : Int32)) C dX6_tells_100 rfl ?_
                    refine j_goto (tgt := 115) C dX6_tells_101 (by decide) ?_
                    exact k115 M L x1 x2 x3 ((3 : Int32))
                · refine j_bipush (v := (6 : Int32)) C dX6_tells_90 (by decide) ?_
                  refine j_goto (tgt := 115) C dX6_tells_92 (by decide) ?_
                  exact k115 M L x1 x2 x3 ((6 : Int32))
              · exact k66 M L x1 x2 x3
          · refine j_bipush (v := (-2 : Int32)) C dX6_tells_53 (by decide) ?_
            exact j_iretw C dX6_tells_55
        · refine j_bipush (v := (-11 : Int32)) C dX6_tells_39 (by decide) ?_
          exact j_iretw C dX6_tells_41
      · refine j_bipush (v := (-2 : Int32)) C dX6_tells_27 (by decide) ?_
        exact j_iretw C dX6_tells_29
set_option maxRecDepth 100000 in
set_option maxHeartbeats 4000000 in
theorem ct_X6_stood (γ : Gm) (E : Ev) (M : Mi) (L : Ml)  (x1 : Int32) (x2 : Int32) (h0 : MAt E) : Ct γ yX6_stood cX6_stood 7 (some .long) ⟨46, 0, 0, 1025⟩ [.ref (E.2.1 0), .int x1, .int x2] E M L (Q_lw γ E) 0 0 (F_X6_stood M L x1 x2) := by
  refine ct_of (own := RX6) (lv := [some (.ref (E.2.1 0)), some (.int x1), some (.int x2), none, none, none, none]) (by decide +kernel) rfl rfl (Nat.le_of_ble_eq_true rfl) (fun κ C hγ hN => ?_)
  subst hγ
  have hn : ∀ i, i < 7 → i < knL κ := fun i h => by rw [hN]; exact h
  have k102 : ∀ (kf51 : Mi → Ml → Int32 → Int32 → Int32 → Int64 → Int32 → Option (Int64 × Mi × Ml)), (∀ (M : Mi) (L : Ml) (x1 : Int32) (x2 : Int32) (x3 : Int32) (x4 : Int64) (x6 : Int32), JF κ (PQ κ (Q_lw (kγ κ) E) 0 0) 51 [some (.ref (E.2.1 0)), some (.int x1), some (.int x2), some (.int x3), some (.long x4), none, some (.int x6)] [] E M L 0 0 (kf51 M L x1 x2 x3 x4 x6)) → ∀ (M : Mi) (L : Ml) (x1 : Int32) (x2 : Int32) (x3 : Int32) (x6 : Int32) (s0 : Int64) (s1 : Int64), JF κ (PQ κ (Q_lw (kγ κ) E) 0 0) 102 [some (.ref (E.2.1 0)), some (.int x1), some (.int x2), some (.int x3), none, none, some (.int x6)] [.long s1, .long s0] E M L 0 0 (F_X6_stood_k102 kf51 M L x1 x2 x3 x6 s0 s1) := by
    intro kf51 hkf51 M L x1 x2 x3 x6 s0 s1
    unfold F_X6_stood_k102
    refine j_lor C dX6_stood_102 ?_
    refine j_lstore (i := 4) (lv' := [some (.ref (E.2.1 0)), some (.int x1), some (.int x2), some (.int x3), some (.long (s0 ||| s1)), none, some (.int x6)]) C dX6_stood_103 (hn 5 (by decide)) rfl ?_
    refine j_iinc (i := 6) (v := (x6 + (1 : Int32))) (lv' := [some (.ref (E.2.1 0)), some (.int x1), some (.int x2), some (.int x3), some (.long (s0 ||| s1)), none, some (.int (x6 + (1 : Int32)))]) C dX6_stood_105 rfl rfl (hn 6 (by decide)) rfl ?_
    refine j_goto (tgt := 51) C dX6_stood_108 (by decide) ?_
    exact hkf51 M L x1 x2 x3 ((s0 ||| s1)) ((x6 + (1 : Int32)))
  have k101 : ∀ (kf51 : Mi → Ml → Int32 → Int32 → Int32 → Int64 → Int32 → Option (Int64 × Mi × Ml)), (∀ (M : Mi) (L : Ml) (x1 : Int32) (x2 : Int32) (x3 : Int32) (x4 : Int64) (x6 : Int32), JF κ (PQ κ (Q_lw (kγ κ) E) 0 0) 51 [some (.ref (E.2.1 0)), some (.int x1), some (.int x2), some (.int x3), some (.long x4), none, some (.int x6)] [] E M L 0 0 (kf51 M L x1 x2 x3 x4 x6)) → ∀ (M : Mi) (L : Ml) (x1 : Int32) (x2 : Int32) (x3 : Int32) (x6 : Int32) (s0 : Int64), JF κ (PQ κ (Q_lw (kγ κ) E) 0 0) 101 [some (.ref (E.2.1 0)), some (.int x1), some (.int x2), some (.int x3), none, none, some (.int x6)] [.long s0] E M L 0 0 (F_X6_stood_k101 kf51 M L x1 x2 x3 x6 s0) := by
    intro kf51 hkf51 M L x1 x2 x3 x6 s0
    unfold F_X6_stood_k101
    refine j_lconst (v := (0 : Int64)) C dX6_stood_101 rfl ?_
    exact k102 kf51 hkf51 M L x1 x2 x3 x6 s0 ((0 : Int64))
  have k51 : ∀ (n : Nat) (M : Mi) (L : Ml) (x1 : Int32) (x2 : Int32) (x3 : Int32) (x4 : Int64) (x6 : Int32), JF κ (PQ κ (Q_lw (kγ κ) E) 0 0) 51 [some (.ref (E.2.1 0)), some (.int x1), some (.int x2), some (.int x3), some (.long x4), none, some (.int x6)] [] E M L 0 0 (F_X6_stood_k51  n M L x1 x2 x3 x4 x6) := by
    intro n
    induction n with
    | zero => intros; exact jf_none
    | succ n ih =>
      intro M L x1 x2 x3 x4 x6
      unfold F_X6_stood_k51
      refine j_iload C dX6_stood_51 rfl ?_
      refine j_bipush (v := (64 : Int32)) C dX6_stood_53 (by decide) ?_
      refine j_icmp_ge (tgt := 111) C dX6_stood_55 (by decide) ?_ ?_
      · refine j_aload_n C dX6_stood_111 rfl rfl ?_
        refine j_getR (j := 10) C dX6_stood_112 FC6 (MAt.S h0) (by decide) rfl (MAt.R_rows h0) tw_813 ?_
        refine j_iconst (v := (4 : Int32)) C dX6_stood_115 rfl ?_
        refine j_iload_n C dX6_stood_116 rfl rfl ?_
        refine j_imul C dX6_stood_117 ?_
        refine j_iconst (v := (1 : Int32)) C dX6_stood_118 rfl ?_
        refine j_iadd C dX6_stood_119 ?_
        refine j_pc (pc2 := 120) rfl ?_
        refine j_iload_n C dX6_stood_120 rfl rfl ?_
        refine j_iast C dX6_stood_121 (MAt.P_rows h0) ?_
        refine j_lload C dX6_stood_122 rfl ?_
        exact j_lretw C dX6_stood_124
      · refine j_aload_n C dX6_stood_58 rfl rfl ?_
        refine j_getR (j := 10) C dX6_stood_59 FC6 (MAt.S h0) (by decide) rfl (MAt.R_rows h0) tw_813 ?_
        refine j_iconst (v := (4 : Int32)) C dX6_stood_62 rfl ?_
        refine j_iload_n C dX6_stood_63 rfl rfl ?_
        refine j_imul C dX6_stood_64 ?_
        refine j_iconst (v := (1 : Int32)) C dX6_stood_65 rfl ?_
        refine j_iadd C dX6_stood_66 ?_
        refine j_pc (pc2 := 67) rfl ?_
        refine j_iload C dX6_stood_67 rfl ?_
        refine j_iast C dX6_stood_69 (MAt.P_rows h0) ?_
        refine j_lload C dX6_stood_70 rfl ?_
        refine j_aload_n C dX6_stood_72 rfl rfl ?_
        refine j_getL (j := 9) C dX6_stood_73 FC6 (MAt.S h0) (by decide) rfl tw_812 ?_
        refine j_iload C dX6_stood_76 rfl ?_
        refine j_callS_i (st := [.long x4]) C dX6_stood_78 (ct_X6_has (kγ κ) E (up2 M 4 (Int32.toNatClampNeg (((4 : Int32) * x2) + (1 : Int32))) x6) L (L 0 9) x6) mi_X6_has tw_959 rfl rfl (Nat.le_of_ble_eq_true rfl) ⟨⟨rfl, rfl⟩, ⟨Nat.le_of_ble_eq_true rfl, Nat.le_of_ble_eq_true rfl⟩, ⟨Nat.zero_le _, Nat.zero_le _⟩⟩ (fun v78 => ?_)
        refine j_if_ne (tgt := 101) C dX6_stood_81 (by decide) ?_ ?_
        · refine j_mask [true, true, true, true, false, false, true] (lv' := [some (.ref (E.2.1 0)), some (.int x1), some (.int x2), some (.int x3), none, none, some (.int x6)]) rfl ?_
          exact k101 (F_X6_stood_k51  n) ih ((up2 M 4 (Int32.toNatClampNeg (((4 : Int32) * x2) + (1 : Int32))) x6)) L x1 x2 x3 x6 x4
        · refine j_aload_n C dX6_stood_84 rfl rfl ?_
          refine j_iload_n C dX6_stood_85 rfl rfl ?_
          refine j_iload_n C dX6_stood_86 rfl rfl ?_
          refine j_callV_iw (st := [.long x4]) C dX6_stood_87 (ct_X6_firstOther (kγ κ) E (up2 M 4 (Int32.toNatClampNeg (((4 : Int32) * x2) + (1 : Int32))) x6) L x1 x2 h0) mi_X6_firstOther tw_1322 FC6 (MAt.S h0) rfl rfl (Nat.le_of_ble_eq_true rfl) ⟨⟨rfl, rfl⟩, ⟨Nat.le_of_ble_eq_true rfl, Nat.le_of_ble_eq_true rfl⟩, ⟨Nat.zero_le _, Nat.zero_le _⟩⟩ (fun r87 => ?_)
          refine j_iconst (v := (-1 : Int32)) C dX6_stood_90 rfl ?_
          refine j_icmp_ne (tgt := 101) C dX6_stood_91 (by decide) ?_ ?_
          · refine j_mask [true, true, true, true, false, false, true] (lv' := [some (.ref (E.2.1 0)), some (.int x1), some (.int x2), some (.int x3), none, none, some (.int x6)]) rfl ?_
            exact k101 (F_X6_stood_k51  n) ih r87.2.1 r87.2.2 x1 x2 x3 x6 x4
          · refine j_lconst (v := (1 : Int64)) C dX6_stood_94 rfl ?_
            refine j_iload C dX6_stood_95 rfl ?_
            refine j_lshl C dX6_stood_97 ?_
            refine j_goto (tgt := 102) C dX6_stood_98 (by decide) ?_
            refine j_mask [true, true, true, true, false, false, true] (lv' := [some (.ref (E.2.1 0)), some (.int x1), some (.int x2), some (.int x3), none, none, some (.int x6)]) rfl ?_
            exact k102 (F_X6_stood_k51  n) ih r87.2.1 r87.2.2 x1 x2 x3 x6 x4 ((lshl (1 : Int64) x6))
  unfold F_X6_stood
  refine j_iload_n C dX6_stood_0 rfl rfl ?_
  refine j_callS_i (st := []) C dX6_stood_1 (ct_X6_isSheet (kγ κ) E M L x1) mi_X6_isSheet tw_1318 rfl rfl (Nat.le_of_ble_eq_true rfl) ⟨⟨rfl, rfl⟩, ⟨Nat.le_of_ble_eq_true rfl, Nat.le_of_ble_eq_true rfl⟩, ⟨Nat.zero_le _, Nat.zero_le _⟩⟩ (fun v1 => ?_)
  refine j_if_eq (tgt := 35) C dX6_stood_4 (by decide) ?_ ?_
  · refine j_ldc2 (v := (-4611686018427387904 : Int64)) C dX6_stood_35 tw_1203 ?_
    exact j_lretw C dX6_stood_38
  · refine j_aload_n C dX6_stood_7 rfl rfl ?_
    refine j_iload_n C dX6_stood_8 rfl rfl ?_
    refine j_callV_i (st := []) C dX6_stood_9 (ct_X6_isOne (kγ κ) E M L x2 h0) mi_X6_isOne tw_944 FC6 (MAt.S h0) rfl rfl (Nat.le_of_ble_eq_true rfl) ⟨⟨rfl, rfl⟩, ⟨Nat.le_of_ble_eq_true rfl, Nat.le_of_ble_eq_true rfl⟩, ⟨Nat.zero_le _, Nat.zero_le _⟩⟩ (fun v9 => ?_)
    refine j_if_eq (tgt := 35) C dX6_stood_12 (by decide) ?_ ?_
    · refine j_ldc2 (v := (-4611686018427387904 : Int64)) C dX6_stood_35 tw_1203 ?_
      exact j_lretw C dX6_stood_38
    · refine j_aload_n C dX6_stood_15 rfl rfl ?_
      refine j_getR (j := 37) C dX6_stood_16 FC6 (MAt.S h0) (by decide) rfl (MAt.R_isThere h0) tw_840 ?_
      refine j_iload_n C dX6_stood_19 rfl rfl ?_
      refine j_zald C dX6_stood_20 (MAt.P_isThere h0) ?_
      refine j_if_eq (tgt := 35) C dX6_stood_21 (by decide) ?_ ?_
      · refine j_ldc2 (v := (-4611686018427387904 : Int64)) C dX6_stood_35 tw_1203 ?_
        exact j_lretw C dX6_stood_38
      · refine j_aload_n C dX6_stood_24 rfl rfl ?_
        refine j_getR (j := 39) C dX6_stood_25 FC6 (MAt.S h0) (by decide) rfl (MAt.R_sheetSize h0) tw_842 ?_
        refine j_iload_n C dX6_stood_28 rfl rfl ?_
        refine j_iald C dX6_stood_29 (MAt.P_sheetSize h0) ?_
        refine j_bipush (v := (20 : Int32)) C dX6_stood_30 (by decide) ?_
        refine j_icmp_le (tgt := 39) C dX6_stood_32 (by decide) ?_ ?_
        · refine j_aload_n C dX6_stood_39 rfl rfl ?_
          refine j_iload_n C dX6_stood_40 rfl rfl ?_
          refine j_callV_i (st := []) C dX6_stood_41 (ct_X6_onOf (kγ κ) E M L x2 h0) mi_X6_onOf tw_955 FC6 (MAt.S h0) rfl rfl (Nat.le_of_ble_eq_true rfl) ⟨⟨rfl, rfl⟩, ⟨Nat.le_of_ble_eq_true rfl, Nat.le_of_ble_eq_true rfl⟩, ⟨Nat.zero_le _, Nat.zero_le _⟩⟩ (fun v41 => ?_)
          refine j_istore_n (i := 3) (lv' := [some (.ref (E.2.1 0)), some (.int x1), some (.int x2), some (.int v41), none, none, none]) C dX6_stood_44 rfl (hn 3 (by decide)) rfl ?_
          refine j_lconst (v := (0 : Int64)) C dX6_stood_45 rfl ?_
          refine j_lstore (i := 4) (lv' := [some (.ref (E.2.1 0)), some (.int x1), some (.int x2), some (.int v41), some (.long (0 : Int64)), none, none]) C dX6_stood_46 (hn 5 (by decide)) rfl ?_
          refine j_iconst (v := (0 : Int32)) C dX6_stood_48 rfl ?_
          refine j_pc (pc2 := 49) rfl ?_
          refine j_istore (i := 6) (lv' := [some (.ref (E.2.1 0)), some (.int x1), some (.int x2), some (.int v41), some (.long (0 : Int64)), none, some (.int (0 : Int32))]) C dX6_stood_49 (hn 6 (by decide)) rfl ?_
          exact k51 FU M L x1 x2 v41 ((0 : Int64)) ((0 : Int32))
        · refine j_ldc2 (v := (-4611686018427387904 : Int64)) C dX6_stood_35 tw_1203 ?_
          exact j_lretw C dX6_stood_38
set_option maxRecDepth 100000 in
set_option maxHeartbeats 4000000 in
theorem ct_X6_sheet (γ : Gm) (E : Ev) (M : Mi) (L : Ml)  (x1 : Int32) (x2 : Int32) (x3 : Int32) (h0 : MAt E) : Ct γ yX6_sheet cX6_sheet 5 (some .int) ⟨2, 0, 0, 45⟩ [.ref (E.2.1 0), .int x1, .int x2, .int x3] E M L (Q_iw γ E) 0 0 (F_X6_sheet M L x1 x2 x3) := by
  refine ct_of (own := RX6) (lv := [some (.ref (E.2.1 0)), some (.int x1), some (.int x2), some (.int x3), none]) (by decide +kernel) rfl rfl (Nat.le_of_ble_eq_true rfl) (fun κ C hγ hN => ?_)
  subst hγ
  have hn : ∀ i, i < 5 → i < knL κ := fun i h => by rw [hN]; exact h
  have k77 : ∀ (n : Nat) (M : Mi) (L : Ml) (x1 : Int32) (x2 : Int32) (x3 : Int32) (x4 : Int32), JF κ (PQ κ (Q_iw (kγ κ) E) 0 0) 77 [some (.ref (E.2.1 0)), some (.int x1), some (.int x2), some (.int x3), some (.int x4)] [] E M L 0 0 (F_X6_sheet_k77  n M L x1 x2 x3 x4) := by
    intro n
    induction n with
    | zero => intros; exact jf_none
    | succ n ih =>
      intro M L x1 x2 x3 x4
      unfold F_X6_sheet_k77
      refine j_iload C dX6_sheet_77 rfl ?_
      refine j_iload_n C dX6_sheet_79 rfl rfl ?_
      refine j_icmp_ge (tgt := 106) C dX6_sheet_80 (by decide) ?_ ?_
      · refine j_iconst (v := (1 : Int32)) C dX6_sheet_106 rfl ?_
        exact j_iretw C dX6_sheet_107
      · refine j_iload_n C dX6_sheet_83 rfl rfl ?_
        refine j_if_lt (tgt := 106) C dX6_sheet_84 (by decide) ?_ ?_
        · refine j_iconst (v := (1 : Int32)) C dX6_sheet_106 rfl ?_
          exact j_iretw C dX6_sheet_107
        · refine j_aload_n C dX6_sheet_87 rfl rfl ?_
          refine j_getR (j := 40) C dX6_sheet_88 FC6 (MAt.S h0) (by decide) rfl (MAt.R_items h0) tw_843 ?_
          refine j_bipush (v := (40 : Int32)) C dX6_sheet_91 (by decide) ?_
          refine j_iload_n C dX6_sheet_93 rfl rfl ?_
          refine j_imul C dX6_sheet_94 ?_
          refine j_iload C dX6_sheet_95 rfl ?_
          refine j_iadd C dX6_sheet_97 ?_
          refine j_pc (pc2 := 98) rfl ?_
          refine j_iconst (v := (0 : Int32)) C dX6_sheet_98 rfl ?_
          refine j_iast C dX6_sheet_99 (MAt.P_items h0) ?_
          refine j_iinc (i := 4) (v := (x4 + (1 : Int32))) (lv' := [some (.ref (E.2.1 0)), some (.int x1), some (.int x2), some (.int x3), some (.int (x4 + (1 : Int32)))]) C dX6_sheet_100 rfl rfl (hn 4 (by decide)) rfl ?_
          refine j_goto (tgt := 77) C dX6_sheet_103 (by decide) ?_
          exact ih ((up2 M 10 (Int32.toNatClampNeg (((40 : Int32) * x1) + x4)) (0 : Int32))) L x1 x2 x3 ((x4 + (1 : Int32)))
  have k59 : ∀ (M : Mi) (L : Ml) (x1 : Int32) (x2 : Int32) (x3 : Int32) (s1 : Int32) (s2 : Int32), JF κ (PQ κ (Q_iw (kγ κ) E) 0 0) 59 [some (.ref (E.2.1 0)), some (.int x1), some (.int x2), some (.int x3), none] [.int s2, .int s1, .ref (E.2.1 7)] E M L 0 0 (F_X6_sheet_k59  M L x1 x2 x3 s1 s2) := by
    intro M L x1 x2 x3 s1 s2
    unfold F_X6_sheet_k59
    refine j_zast C dX6_sheet_59 (MAt.P_isThere h0) ?_
    refine j_aload_n C dX6_sheet_60 rfl rfl ?_
    refine j_getR (j := 38) C dX6_sheet_61 FC6 (MAt.S h0) (by decide) rfl (MAt.R_sorts h0) tw_841 ?_
    refine j_iload_n C dX6_sheet_64 rfl rfl ?_
    refine j_iload_n C dX6_sheet_65 rfl rfl ?_
    refine j_iast C dX6_sheet_66 (MAt.P_sorts h0) ?_
    refine j_aload_n C dX6_sheet_67 rfl rfl ?_
    refine j_pc (pc2 := 68) rfl ?_
    refine j_getR (j := 39) C dX6_sheet_68 FC6 (MAt.S h0) (by decide) rfl (MAt.R_sheetSize h0) tw_842 ?_
    refine j_iload_n C dX6_sheet_71 rfl rfl ?_
    refine j_iload_n C dX6_sheet_72 rfl rfl ?_
    refine j_iast C dX6_sheet_73 (MAt.P_sheetSize h0) ?_
    refine j_iconst (v := (0 : Int32)) C dX6_sheet_74 rfl ?_
    refine j_istore (i := 4) (lv' := [some (.ref (E.2.1 0)), some (.int x1), some (.int x2), some (.int x3), some (.int (0 : Int32))]) C dX6_sheet_75 (hn 4 (by decide)) rfl ?_
    exact k77 FU ((up2 (up2 (up2 M 7 (Int32.toNatClampNeg s1) (vp_nar .boolean s2)) 8 (Int32.toNatClampNeg x1) x2) 9 (Int32.toNatClampNeg x1) x3)) L x1 x2 x3 ((0 : Int32))
  have k45 : ∀ (M : Mi) (L : Ml) (x1 : Int32) (x2 : Int32) (x3 : Int32), JF κ (PQ κ (Q_iw (kγ κ) E) 0 0) 45 [some (.ref (E.2.1 0)), some (.int x1), some (.int x2), some (.int x3), none] [] E M L 0 0 (F_X6_sheet_k45  M L x1 x2 x3) := by
    intro M L x1 x2 x3
    unfold F_X6_sheet_k45
    refine j_aload_n C dX6_sheet_45 rfl rfl ?_
    refine j_getR (j := 37) C dX6_sheet_46 FC6 (MAt.S h0) (by decide) rfl (MAt.R_isThere h0) tw_840 ?_
    refine j_iload_n C dX6_sheet_49 rfl rfl ?_
    refine j_iload_n C dX6_sheet_50 rfl rfl ?_
    refine j_if_lt (tgt := 58) C dX6_sheet_51 (by decide) ?_ ?_
    · refine j_iconst (v := (0 : Int32)) C dX6_sheet_58 rfl ?_
      exact k59 M L x1 x2 x3 x1 ((0 : Int32))
    · refine j_iconst (v := (1 : Int32)) C dX6_sheet_54 rfl ?_
      refine j_goto (tgt := 59) C dX6_sheet_55 (by decide) ?_
      exact k59 M L x1 x2 x3 x1 ((1 : Int32))
  have k34 : ∀ (M : Mi) (L : Ml) (x1 : Int32) (x2 : Int32) (x3 : Int32), JF κ (PQ κ (Q_iw (kγ κ) E) 0 0) 34 [some (.ref (E.2.1 0)), some (.int x1), some (.int x2), some (.int x3), none] [] E M L 0 0 (F_X6_sheet_k34  M L x1 x2 x3) := by
    intro M L x1 x2 x3
    unfold F_X6_sheet_k34
    refine j_iload_n C dX6_sheet_34 rfl rfl ?_
    refine j_if_lt (tgt := 45) C dX6_sheet_35 (by decide) ?_ ?_
    · exact k45 M L x1 x2 x3
    · refine j_iload_n C dX6_sheet_38 rfl rfl ?_
      refine j_if_ge (tgt := 45) C dX6_sheet_39 (by decide) ?_ ?_
      · exact k45 M L x1 x2 x3
      · refine j_bipush (v := (-14 : Int32)) C dX6_sheet_42 (by decide) ?_
        exact j_iretw C dX6_sheet_44
  unfold F_X6_sheet
  refine j_iload_n C dX6_sheet_0 rfl rfl ?_
  refine j_callS_i (st := []) C dX6_sheet_1 (ct_X6_isSheet (kγ κ) E M L x1) mi_X6_isSheet tw_1318 rfl rfl (Nat.le_of_ble_eq_true rfl) ⟨⟨rfl, rfl⟩, ⟨Nat.le_of_ble_eq_true rfl, Nat.le_of_ble_eq_true rfl⟩, ⟨Nat.zero_le _, Nat.zero_le _⟩⟩ (fun v1 => ?_)
  refine j_if_eq (tgt := 31) C dX6_sheet_4 (by decide) ?_ ?_
  · refine j_bipush (v := (-2 : Int32)) C dX6_sheet_31 (by decide) ?_
    exact j_iretw C dX6_sheet_33
  · refine j_iload_n C dX6_sheet_7 rfl rfl ?_
    refine j_i2l C dX6_sheet_8 ?_
    refine j_ldc2 (v := (-1 : Int64)) C dX6_sheet_9 tw_1191 ?_
    refine j_ldc2 (v := (2 : Int64)) C dX6_sheet_12 tw_1202 ?_
    refine j_callS_i (st := []) C dX6_sheet_15 (ct_X6_in (kγ κ) E M L (Int32.toInt64 x2) (-1 : Int64) (2 : Int64)) mi_X6_in tw_933 rfl rfl (Nat.le_of_ble_eq_true rfl) ⟨⟨rfl, rfl⟩, ⟨Nat.le_of_ble_eq_true rfl, Nat.le_of_ble_eq_true rfl⟩, ⟨Nat.zero_le _, Nat.zero_le _⟩⟩ (fun v15 => ?_)
    refine j_if_eq (tgt := 31) C dX6_sheet_18 (by decide) ?_ ?_
    · refine j_bipush (v := (-2 : Int32)) C dX6_sheet_31 (by decide) ?_
      exact j_iretw C dX6_sheet_33
    · refine j_iload_n C dX6_sheet_21 rfl rfl ?_
      refine j_if_lt (tgt := 34) C dX6_sheet_22 (by decide) ?_ ?_
      · exact k34 M L x1 x2 x3
      · refine j_iload_n C dX6_sheet_25 rfl rfl ?_
        refine j_bipush (v := (40 : Int32)) C dX6_sheet_26 (by decide) ?_
        refine j_icmp_le (tgt := 34) C dX6_sheet_28 (by decide) ?_ ?_
        · exact k34 M L x1 x2 x3
        · refine j_bipush (v := (-2 : Int32)) C dX6_sheet_31 (by decide) ?_
          exact j_iretw C dX6_sheet_33
set_option maxRecDepth 100000 in
set_option maxHeartbeats 4000000 in
theorem ct_X6_film (γ : Gm) (E : Ev) (M : Mi) (L : Ml)  (x1 : Int32) (x2 : Int32) (x3 : Int32) (h0 : MAt E) : Ct γ yX6_film cX6_film 5 (some .int) ⟨45, 0, 0, 1001⟩ [.ref (E.2.1 0), .int x1, .int x2, .int x3] E M L (Q_iw γ E) 0 0 (F_X6_film M L x1 x2 x3) := by
  refine ct_of (own := RX6) (lv := [some (.ref (E.2.1 0)), some (.int x1), some (.int x2), some (.int x3), none]) (by decide +kernel) rfl rfl (Nat.le_of_ble_eq_true rfl) (fun κ C hγ hN => ?_)
  subst hγ
  have hn : ∀ i, i < 5 → i < knL κ := fun i h => by rw [hN]; exact h
  have k45 : ∀ (n : Nat) (M : Mi) (L : Ml) (x1 : Int32) (x2 : Int32) (x3 : Int32) (x4 : Int32), JF κ (PQ κ (Q_iw (kγ κ) E) 0 0) 45 [some (.ref (E.2.1 0)), some (.int x1), some (.int x2), some (.int x3), some (.int x4)] [] E M L 0 0 (F_X6_film_k45  n M L x1 x2 x3 x4) := by
    intro n
    induction n with
    | zero => intros; exact jf_none
    | succ n ih =>
      intro M L x1 x2 x3 x4
      unfold F_X6_film_k45
      refine j_iload C dX6_film_45 rfl ?_
      refine j_iload_n C dX6_film_47 rfl rfl ?_
      refine j_icmp_ge (tgt := 79) C dX6_film_48 (by decide) ?_ ?_
      · refine j_aload_n C dX6_film_79 rfl rfl ?_
        refine j_callV_vw (st := []) C dX6_film_80 (ct_X6_laysBack (kγ κ) E M L h0) mi_X6_laysBack tw_1262 FC6 (MAt.S h0) rfl rfl (Nat.le_of_ble_eq_true rfl) ⟨⟨rfl, rfl⟩, ⟨Nat.le_of_ble_eq_true rfl, Nat.le_of_ble_eq_true rfl⟩, ⟨Nat.zero_le _, Nat.zero_le _⟩⟩ (fun r80 => ?_)
        refine j_iload_n C dX6_film_83 rfl rfl ?_
        exact j_iretw C dX6_film_84
      · refine j_aload_n C dX6_film_51 rfl rfl ?_
        refine j_callV_iw (st := []) C dX6_film_52 (ct_X6_passes (kγ κ) E M L h0) mi_X6_passes tw_1240 FC6 (MAt.S h0) rfl rfl (Nat.le_of_ble_eq_true rfl) ⟨⟨rfl, rfl⟩, ⟨Nat.le_of_ble_eq_true rfl, Nat.le_of_ble_eq_true rfl⟩, ⟨Nat.zero_le _, Nat.zero_le _⟩⟩ (fun r52 => ?_)
        refine j_pop C dX6_film_55 rfl ?_
        refine j_aload_n C dX6_film_56 rfl rfl ?_
        refine j_getR (j := 40) C dX6_film_57 FC6 (MAt.S h0) (by decide) rfl (MAt.R_items h0) tw_843 ?_
        refine j_bipush (v := (40 : Int32)) C dX6_film_60 (by decide) ?_
        refine j_iload_n C dX6_film_62 rfl rfl ?_
        refine j_pc (pc2 := 63) rfl ?_
        refine j_imul C dX6_film_63 ?_
        refine j_iload C dX6_film_64 rfl ?_
        refine j_iadd C dX6_film_66 ?_
        refine j_aload_n C dX6_film_67 rfl rfl ?_
        refine j_iload_n C dX6_film_68 rfl rfl ?_
        refine j_callV_i (st := [.int (((40 : Int32) * x1) + x4), .ref (E.2.1 10)]) C dX6_film_69 (ct_X6_onOf (kγ κ) E r52.2.1 r52.2.2 x2 h0) mi_X6_onOf tw_955 FC6 (MAt.S h0) rfl rfl (Nat.le_of_ble_eq_true rfl) ⟨⟨rfl, rfl⟩, ⟨Nat.le_of_ble_eq_true rfl, Nat.le_of_ble_eq_true rfl⟩, ⟨Nat.zero_le _, Nat.zero_le _⟩⟩ (fun v69 => ?_)
        refine j_iast C dX6_film_72 (MAt.P_items h0) ?_
        refine j_iinc (i := 4) (v := (x4 + (1 : Int32))) (lv' := [some (.ref (E.2.1 0)), some (.int x1), some (.int x2), some (.int x3), some (.int (x4 + (1 : Int32)))]) C dX6_film_73 rfl rfl (hn 4 (by decide)) rfl ?_
        refine j_pc (pc2 := 76) rfl ?_
        refine j_goto (tgt := 45) C dX6_film_76 (by decide) ?_
        exact ih ((up2 r52.2.1 10 (Int32.toNatClampNeg (((40 : Int32) * x1) + x4)) v69)) r52.2.2 x1 x2 x3 ((x4 + (1 : Int32)))
  unfold F_X6_film
  refine j_iload_n C dX6_film_0 rfl rfl ?_
  refine j_callS_i (st := []) C dX6_film_1 (ct_X6_isSheet (kγ κ) E M L x1) mi_X6_isSheet tw_1318 rfl rfl (Nat.le_of_ble_eq_true rfl) ⟨⟨rfl, rfl⟩, ⟨Nat.le_of_ble_eq_true rfl, Nat.le_of_ble_eq_true rfl⟩, ⟨Nat.zero_le _, Nat.zero_le _⟩⟩ (fun v1 => ?_)
  refine j_if_eq (tgt := 27) C dX6_film_4 (by decide) ?_ ?_
  · refine j_bipush (v := (-2 : Int32)) C dX6_film_27 (by decide) ?_
    exact j_iretw C dX6_film_29
  · refine j_aload_n C dX6_film_7 rfl rfl ?_
    refine j_iload_n C dX6_film_8 rfl rfl ?_
    refine j_callV_i (st := []) C dX6_film_9 (ct_X6_isOne (kγ κ) E M L x2 h0) mi_X6_isOne tw_944 FC6 (MAt.S h0) rfl rfl (Nat.le_of_ble_eq_true rfl) ⟨⟨rfl, rfl⟩, ⟨Nat.le_of_ble_eq_true rfl, Nat.le_of_ble_eq_true rfl⟩, ⟨Nat.zero_le _, Nat.zero_le _⟩⟩ (fun v9 => ?_)
    refine j_if_eq (tgt := 27) C dX6_film_12 (by decide) ?_ ?_
    · refine j_bipush (v := (-2 : Int32)) C dX6_film_27 (by decide) ?_
      exact j_iretw C dX6_film_29
    · refine j_iload_n C dX6_film_15 rfl rfl ?_
      refine j_i2l C dX6_film_16 ?_
      refine j_lconst (v := (0 : Int64)) C dX6_film_17 rfl ?_
      refine j_ldc2 (v := (20 : Int64)) C dX6_film_18 tw_1298 ?_
      refine j_callS_i (st := []) C dX6_film_21 (ct_X6_in (kγ κ) E M L (Int32.toInt64 x3) (0 : Int64) (20 : Int64)) mi_X6_in tw_933 rfl rfl (Nat.le_of_ble_eq_true rfl) ⟨⟨rfl, rfl⟩, ⟨Nat.le_of_ble_eq_true rfl, Nat.le_of_ble_eq_true rfl⟩, ⟨Nat.zero_le _, Nat.zero_le _⟩⟩ (fun v21 => ?_)
      refine j_if_ne (tgt := 30) C dX6_film_24 (by decide) ?_ ?_
      · refine j_aload_n C dX6_film_30 rfl rfl ?_
        refine j_iload_n C dX6_film_31 rfl rfl ?_
        refine j_iconst (v := (0 : Int32)) C dX6_film_32 rfl ?_
        refine j_iload_n C dX6_film_33 rfl rfl ?_
        refine j_callV_iw (st := []) C dX6_film_34 (ct_X6_sheet (kγ κ) E M L x1 (0 : Int32) x3 h0) mi_X6_sheet tw_1338 FC6 (MAt.S h0) rfl rfl (Nat.le_of_ble_eq_true rfl) ⟨⟨rfl, rfl⟩, ⟨Nat.le_of_ble_eq_true rfl, Nat.le_of_ble_eq_true rfl⟩, ⟨Nat.zero_le _, Nat.zero_le _⟩⟩ (fun r34 => ?_)
        refine j_pop C dX6_film_37 rfl ?_
        refine j_aload_n C dX6_film_38 rfl rfl ?_
        refine j_pc (pc2 := 39) rfl ?_
        refine j_callV_vw (st := []) C dX6_film_39 (ct_X6_laysAside (kγ κ) E r34.2.1 r34.2.2 h0) mi_X6_laysAside tw_1250 FC6 (MAt.S h0) rfl rfl (Nat.le_of_ble_eq_true rfl) ⟨⟨rfl, rfl⟩, ⟨Nat.le_of_ble_eq_true rfl, Nat.le_of_ble_eq_true rfl⟩, ⟨Nat.zero_le _, Nat.zero_le _⟩⟩ (fun r39 => ?_)
        refine j_iconst (v := (0 : Int32)) C dX6_film_42 rfl ?_
        refine j_istore (i := 4) (lv' := [some (.ref (E.2.1 0)), some (.int x1), some (.int x2), some (.int x3), some (.int (0 : Int32))]) C dX6_film_43 (hn 4 (by decide)) rfl ?_
        exact k45 FU r39.1 r39.2 x1 x2 x3 ((0 : Int32))
      · refine j_bipush (v := (-2 : Int32)) C dX6_film_27 (by decide) ?_
        exact j_iretw C dX6_film_29
set_option maxRecDepth 100000 in
set_option maxHeartbeats 4000000 in
theorem ct_X6_onDrawn (γ : Gm) (E : Ev) (M : Mi) (L : Ml)  (x1 : Int32) (x2 : Int32) (x3 : Int32) (h0 : MAt E) : Ct γ yX6_onDrawn cX6_onDrawn 8 (some .int) ⟨2, 0, 0, 54⟩ [.ref (E.2.1 0), .int x1, .int x2, .int x3] E M L (Q_i γ E M L) 0 0 (F_X6_onDrawn M L x1 x2 x3) := by
  refine ct_of (own := RX6) (lv := [some (.ref (E.2.1 0)), some (.int x1), some (.int x2), some (.int x3), none, none, none, none]) (by decide +kernel) rfl rfl (Nat.le_of_ble_eq_true rfl) (fun κ C hγ hN => ?_)
  subst hγ
  have hn : ∀ i, i < 8 → i < knL κ := fun i h => by rw [hN]; exact h
  have k61 : ∀ (kf13 : Int32 → Int32 → Int32 → Int32 → Int32 → Option (Int32)), (∀ (x2 : Int32) (x3 : Int32) (x4 : Int32) (x5 : Int32) (x6 : Int32), JF κ (PQ κ (Q_i (kγ κ) E M L) 0 0) 13 [some (.ref (E.2.1 0)), none, some (.int x2), some (.int x3), some (.int x4), some (.int x5), some (.int x6), none] [] E M L 0 0 (kf13 x2 x3 x4 x5 x6)) → ∀ (x2 : Int32) (x3 : Int32) (x4 : Int32) (x6 : Int32) (s0 : Int32), JF κ (PQ κ (Q_i (kγ κ) E M L) 0 0) 61 [some (.ref (E.2.1 0)), none, some (.int x2), some (.int x3), some (.int x4), none, some (.int x6), none] [.int s0] E M L 0 0 (F_X6_onDrawn_k61 M L kf13 x2 x3 x4 x6 s0) := by
    intro kf13 hkf13 x2 x3 x4 x6 s0
    unfold F_X6_onDrawn_k61
    refine j_istore (i := 5) (lv' := [some (.ref (E.2.1 0)), none, some (.int x2), some (.int x3), some (.int x4), some (.int s0), some (.int x6), none]) C dX6_onDrawn_61 (hn 5 (by decide)) rfl ?_
    refine j_iinc (i := 6) (v := (x6 + (1 : Int32))) (lv' := [some (.ref (E.2.1 0)), none, some (.int x2), some (.int x3), some (.int x4), some (.int s0), some (.int (x6 + (1 : Int32))), none]) C dX6_onDrawn_63 rfl rfl (hn 6 (by decide)) rfl ?_
    refine j_goto (tgt := 13) C dX6_onDrawn_66 (by decide) ?_
    exact hkf13 x2 x3 x4 s0 ((x6 + (1 : Int32)))
  have k13 : ∀ (n : Nat) (x2 : Int32) (x3 : Int32) (x4 : Int32) (x5 : Int32) (x6 : Int32), JF κ (PQ κ (Q_i (kγ κ) E M L) 0 0) 13 [some (.ref (E.2.1 0)), none, some (.int x2), some (.int x3), some (.int x4), some (.int x5), some (.int x6), none] [] E M L 0 0 (F_X6_onDrawn_k13 M L n x2 x3 x4 x5 x6) := by
    intro n
    induction n with
    | zero => intros; exact jf_none
    | succ n ih =>
      intro x2 x3 x4 x5 x6
      unfold F_X6_onDrawn_k13
      refine j_iload C dX6_onDrawn_13 rfl ?_
      refine j_iload_n C dX6_onDrawn_15 rfl rfl ?_
      refine j_icmp_ge (tgt := 69) C dX6_onDrawn_16 (by decide) ?_ ?_
      · refine j_iload C dX6_onDrawn_69 rfl ?_
        exact j_iret C dX6_onDrawn_71
      · refine j_iload C dX6_onDrawn_19 rfl ?_
        refine j_ldcw (v := (1103515245 : Int32)) C dX6_onDrawn_21 tw_1350 ?_
        refine j_imul C dX6_onDrawn_24 ?_
        refine j_sipush (v := (12345 : Int32)) C dX6_onDrawn_25 (by decide) ?_
        refine j_iadd C dX6_onDrawn_28 ?_
        refine j_nmi (fun z29 => ?_)
        refine j_istore (i := 4) (lv' := [some (.ref (E.2.1 0)), none, some (.int x2), some (.int x3), some (.int z29), some (.int x5), some (.int x6), none]) C dX6_onDrawn_29 (hn 4 (by decide)) rfl ?_
        refine j_aload_n C dX6_onDrawn_31 rfl rfl ?_
        refine j_pc (pc2 := 32) rfl ?_
        refine j_iload_n C dX6_onDrawn_32 rfl rfl ?_
        refine j_iload C dX6_onDrawn_33 rfl ?_
        refine j_iload C dX6_onDrawn_35 rfl ?_
        refine j_bipush (v := (9 : Int32)) C dX6_onDrawn_37 (by decide) ?_
        refine j_iushr C dX6_onDrawn_39 ?_
        refine j_bipush (v := (8 : Int32)) C dX6_onDrawn_40 (by decide) ?_
        refine j_iremc C dX6_onDrawn_42 (by decide) ?_
        refine j_callV_i (st := []) C dX6_onDrawn_43 (ct_X6_leapFrom (kγ κ) E M L x2 x5 (irm (iushr z29 (9 : Int32)) (8 : Int32)) h0) mi_X6_leapFrom tw_1226 FC6 (MAt.S h0) rfl rfl (Nat.le_of_ble_eq_true rfl) ⟨⟨rfl, rfl⟩, ⟨Nat.le_of_ble_eq_true rfl, Nat.le_of_ble_eq_true rfl⟩, ⟨Nat.zero_le _, Nat.zero_le _⟩⟩ (fun v43 => ?_)
        refine j_pc (pc2 := 46) rfl ?_
        refine j_istore (i := 7) (lv' := [some (.ref (E.2.1 0)), none, some (.int x2), some (.int x3), some (.int z29), some (.int x5), some (.int x6), some (.int v43)]) C dX6_onDrawn_46 (hn 7 (by decide)) rfl ?_
        refine j_iload C dX6_onDrawn_48 rfl ?_
        refine j_iconst (v := (-1 : Int32)) C dX6_onDrawn_50 rfl ?_
        refine j_icmp_ne (tgt := 59) C dX6_onDrawn_51 (by decide) ?_ ?_
        · refine j_iload C dX6_onDrawn_59 rfl ?_
          refine j_mask [true, false, true, true, true, false, true, false] (lv' := [some (.ref (E.2.1 0)), none, some (.int x2), some (.int x3), some (.int z29), none, some (.int x6), none]) rfl ?_
          exact k61 (F_X6_onDrawn_k13 M L n) ih x2 x3 z29 x6 v43
        · refine j_iload C dX6_onDrawn_54 rfl ?_
          refine j_goto (tgt := 61) C dX6_onDrawn_56 (by decide) ?_
          refine j_mask [true, false, true, true, true, false, true, false] (lv' := [some (.ref (E.2.1 0)), none, some (.int x2), some (.int x3), some (.int z29), none, some (.int x6), none]) rfl ?_
          exact k61 (F_X6_onDrawn_k13 M L n) ih x2 x3 z29 x6 x5
  unfold F_X6_onDrawn
  refine j_iload_n C dX6_onDrawn_0 rfl rfl ?_
  refine j_istore (i := 4) (lv' := [some (.ref (E.2.1 0)), some (.int x1), some (.int x2), some (.int x3), some (.int x1), none, none, none]) C dX6_onDrawn_1 (hn 4 (by decide)) rfl ?_
  refine j_aload_n C dX6_onDrawn_3 rfl rfl ?_
  refine j_iload_n C dX6_onDrawn_4 rfl rfl ?_
  refine j_callV_i (st := []) C dX6_onDrawn_5 (ct_X6_onOf (kγ κ) E M L x2 h0) mi_X6_onOf tw_955 FC6 (MAt.S h0) rfl rfl (Nat.le_of_ble_eq_true rfl) ⟨⟨rfl, rfl⟩, ⟨Nat.le_of_ble_eq_true rfl, Nat.le_of_ble_eq_true rfl⟩, ⟨Nat.zero_le _, Nat.zero_le _⟩⟩ (fun v5 => ?_)
  refine j_istore (i := 5) (lv' := [some (.ref (E.2.1 0)), some (.int x1), some (.int x2), some (.int x3), some (.int x1), some (.int v5), none, none]) C dX6_onDrawn_8 (hn 5 (by decide)) rfl ?_
  refine j_iconst (v := (0 : Int32)) C dX6_onDrawn_10 rfl ?_
  refine j_pc (pc2 := 11) rfl ?_
  refine j_istore (i := 6) (lv' := [some (.ref (E.2.1 0)), some (.int x1), some (.int x2), some (.int x3), some (.int x1), some (.int v5), some (.int (0 : Int32)), none]) C dX6_onDrawn_11 (hn 6 (by decide)) rfl ?_
  refine j_mask [true, false, true, true, true, true, true, false] (lv' := [some (.ref (E.2.1 0)), none, some (.int x2), some (.int x3), some (.int x1), some (.int v5), some (.int (0 : Int32)), none]) rfl ?_
  exact k13 FU x2 x3 x1 v5 ((0 : Int32))
set_option maxRecDepth 100000 in
set_option maxHeartbeats 4000000 in
theorem ct_X6_drawn (γ : Gm) (E : Ev) (M : Mi) (L : Ml)  (x1 : Int32) (x2 : Int32) (x3 : Int32) (h0 : MAt E) : Ct γ yX6_drawn cX6_drawn 4 (some .int) ⟨3, 0, 0, 81⟩ [.ref (E.2.1 0), .int x1, .int x2, .int x3] E M L (Q_i γ E M L) 0 0 (F_X6_drawn M L x1 x2 x3) := by
  refine ct_of (own := RX6) (lv := [some (.ref (E.2.1 0)), some (.int x1), some (.int x2), some (.int x3)]) (by decide +kernel) rfl rfl (Nat.le_of_ble_eq_true rfl) (fun κ C hγ hN => ?_)
  subst hγ
  have hn : ∀ i, i < 4 → i < knL κ := fun i h => by rw [hN]; exact h
  unfold F_X6_drawn
  refine j_aload_n C dX6_drawn_0 rfl rfl ?_
  refine j_iload_n C dX6_drawn_1 rfl rfl ?_
  refine j_callV_i (st := []) C dX6_drawn_2 (ct_X6_isOne (kγ κ) E M L x2 h0) mi_X6_isOne tw_944 FC6 (MAt.S h0) rfl rfl (Nat.le_of_ble_eq_true rfl) ⟨⟨rfl, rfl⟩, ⟨Nat.le_of_ble_eq_true rfl, Nat.le_of_ble_eq_true rfl⟩, ⟨Nat.zero_le _, Nat.zero_le _⟩⟩ (fun v2 => ?_)
  refine j_if_eq (tgt := 30) C dX6_drawn_5 (by decide) ?_ ?_
  · refine j_bipush (v := (-2 : Int32)) C dX6_drawn_30 (by decide) ?_
    exact j_iret C dX6_drawn_32
  · refine j_iload_n C dX6_drawn_8 rfl rfl ?_
    refine j_i2l C dX6_drawn_9 ?_
    refine j_lconst (v := (0 : Int64)) C dX6_drawn_10 rfl ?_
    refine j_ldc2 (v := (40 : Int64)) C dX6_drawn_11 tw_1248 ?_
    refine j_callS_i (st := []) C dX6_drawn_14 (ct_X6_in (kγ κ) E M L (Int32.toInt64 x3) (0 : Int64) (40 : Int64)) mi_X6_in tw_933 rfl rfl (Nat.le_of_ble_eq_true rfl) ⟨⟨rfl, rfl⟩, ⟨Nat.le_of_ble_eq_true rfl, Nat.le_of_ble_eq_true rfl⟩, ⟨Nat.zero_le _, Nat.zero_le _⟩⟩ (fun v14 => ?_)
    refine j_if_eq (tgt := 30) C dX6_drawn_17 (by decide) ?_ ?_
    · refine j_bipush (v := (-2 : Int32)) C dX6_drawn_30 (by decide) ?_
      exact j_iret C dX6_drawn_32
    · refine j_aload_n C dX6_drawn_20 rfl rfl ?_
      refine j_iload_n C dX6_drawn_21 rfl rfl ?_
      refine j_iload_n C dX6_drawn_22 rfl rfl ?_
      refine j_iload_n C dX6_drawn_23 rfl rfl ?_
      refine j_callV_i (st := []) C dX6_drawn_24 (ct_X6_onDrawn (kγ κ) E M L x1 x2 x3 h0) mi_X6_onDrawn tw_1346 FC6 (MAt.S h0) rfl rfl (Nat.le_of_ble_eq_true rfl) ⟨⟨rfl, rfl⟩, ⟨Nat.le_of_ble_eq_true rfl, Nat.le_of_ble_eq_true rfl⟩, ⟨Nat.zero_le _, Nat.zero_le _⟩⟩ (fun v24 => ?_)
      refine j_goto (tgt := 32) C dX6_drawn_27 (by decide) ?_
      exact j_iret C dX6_drawn_32
set_option maxRecDepth 100000 in
set_option maxHeartbeats 4000000 in
theorem ct_X6_chance (γ : Gm) (E : Ev) (M : Mi) (L : Ml)  (x1 : Int32) (x2 : Int32) (x3 : Int32) (x4 : Int32) (h0 : MAt E) : Ct γ yX6_chance cX6_chance 9 (some .long) ⟨3, 0, 0, 81⟩ [.ref (E.2.1 0), .int x1, .int x2, .int x3, .int x4] E M L (Q_l γ E M L) 0 0 (F_X6_chance M L x1 x2 x3 x4) := by
  refine ct_of (own := RX6) (lv := [some (.ref (E.2.1 0)), some (.int x1), some (.int x2), some (.int x3), some (.int x4), none, none, none, none]) (by decide +kernel) rfl rfl (Nat.le_of_ble_eq_true rfl) (fun κ C hγ hN => ?_)
  subst hγ
  have hn : ∀ i, i < 9 → i < knL κ := fun i h => by rw [hN]; exact h
  have k87 : ∀ (kf41 : Int32 → Int32 → Int32 → Int32 → Int64 → Int32 → Option (Int64)), (∀ (x1 : Int32) (x2 : Int32) (x3 : Int32) (x4 : Int32) (x5 : Int64) (x7 : Int32), JF κ (PQ κ (Q_l (kγ κ) E M L) 0 0) 41 [some (.ref (E.2.1 0)), some (.int x1), some (.int x2), some (.int x3), some (.int x4), some (.long x5), none, some (.int x7), none] [] E M L 0 0 (kf41 x1 x2 x3 x4 x5 x7)) → ∀ (x1 : Int32) (x2 : Int32) (x3 : Int32) (x4 : Int32) (x7 : Int32) (s0 : Int64) (s1 : Int64), JF κ (PQ κ (Q_l (kγ κ) E M L) 0 0) 87 [some (.ref (E.2.1 0)), some (.int x1), some (.int x2), some (.int x3), some (.int x4), none, none, some (.int x7), none] [.long s1, .long s0] E M L 0 0 (F_X6_chance_k87 M L kf41 x1 x2 x3 x4 x7 s0 s1) := by
    intro kf41 hkf41 x1 x2 x3 x4 x7 s0 s1
    unfold F_X6_chance_k87
    refine j_ladd C dX6_chance_87 ?_
    refine j_lstore (i := 5) (lv' := [some (.ref (E.2.1 0)), some (.int x1), some (.int x2), some (.int x3), some (.int x4), some (.long (s0 + s1)), none, some (.int x7), none]) C dX6_chance_88 (hn 6 (by decide)) rfl ?_
    refine j_iinc (i := 7) (v := (x7 + (1 : Int32))) (lv' := [some (.ref (E.2.1 0)), some (.int x1), some (.int x2), some (.int x3), some (.int x4), some (.long (s0 + s1)), none, some (.int (x7 + (1 : Int32))), none]) C dX6_chance_90 rfl rfl (hn 7 (by decide)) rfl ?_
    refine j_goto (tgt := 41) C dX6_chance_93 (by decide) ?_
    exact hkf41 x1 x2 x3 x4 ((s0 + s1)) ((x7 + (1 : Int32)))
  have k86 : ∀ (kf41 : Int32 → Int32 → Int32 → Int32 → Int64 → Int32 → Option (Int64)), (∀ (x1 : Int32) (x2 : Int32) (x3 : Int32) (x4 : Int32) (x5 : Int64) (x7 : Int32), JF κ (PQ κ (Q_l (kγ κ) E M L) 0 0) 41 [some (.ref (E.2.1 0)), some (.int x1), some (.int x2), some (.int x3), some (.int x4), some (.long x5), none, some (.int x7), none] [] E M L 0 0 (kf41 x1 x2 x3 x4 x5 x7)) → ∀ (x1 : Int32) (x2 : Int32) (x3 : Int32) (x4 : Int32) (x7 : Int32) (s0 : Int64), JF κ (PQ κ (Q_l (kγ κ) E M L) 0 0) 86 [some (.ref (E.2.1 0)), some (.int x1), some (.int x2), some (.int x3), some (.int x4), none, none, some (.int x7), none] [.long s0] E M L 0 0 (F_X6_chance_k86 M L kf41 x1 x2 x3 x4 x7 s0) := by
    intro kf41 hkf41 x1 x2 x3 x4 x7 s0
    unfold F_X6_chance_k86
    refine j_lconst (v := (0 : Int64)) C dX6_chance_86 rfl ?_
    exact k87 kf41 hkf41 x1 x2 x3 x4 x7 s0 ((0 : Int64))
  have k41 : ∀ (n : Nat) (x1 : Int32) (x2 : Int32) (x3 : Int32) (x4 : Int32) (x5 : Int64) (x7 : Int32), JF κ (PQ κ (Q_l (kγ κ) E M L) 0 0) 41 [some (.ref (E.2.1 0)), some (.int x1), some (.int x2), some (.int x3), some (.int x4), some (.long x5), none, some (.int x7), none] [] E M L 0 0 (F_X6_chance_k41 M L n x1 x2 x3 x4 x5 x7) := by
    intro n
    induction n with
    | zero => intros; exact jf_none
    | succ n ih =>
      intro x1 x2 x3 x4 x5 x7
      unfold F_X6_chance_k41
      refine j_iload C dX6_chance_41 rfl ?_
      refine j_iload_n C dX6_chance_43 rfl rfl ?_
      refine j_icmp_ge (tgt := 96) C dX6_chance_44 (by decide) ?_ ?_
      · refine j_lload C dX6_chance_96 rfl ?_
        refine j_iload_n C dX6_chance_98 rfl rfl ?_
        refine j_i2l C dX6_chance_99 ?_
        refine j_iload C dX6_chance_100 rfl ?_
        refine j_callS_l (st := []) C dX6_chance_102 (ct_X6_lowest (kγ κ) E M L x5 (Int32.toInt64 x2) x4) mi_X6_lowest tw_1311 rfl rfl (Nat.le_of_ble_eq_true rfl) ⟨⟨rfl, rfl⟩, ⟨Nat.le_of_ble_eq_true rfl, Nat.le_of_ble_eq_true rfl⟩, ⟨Nat.zero_le _, Nat.zero_le _⟩⟩ (fun v102 => ?_)
        exact j_lret C dX6_chance_105
      · refine j_aload_n C dX6_chance_47 rfl rfl ?_
        refine j_iload_n C dX6_chance_48 rfl rfl ?_
        refine j_iload C dX6_chance_49 rfl ?_
        refine j_iadd C dX6_chance_51 ?_
        refine j_iload_n C dX6_chance_52 rfl rfl ?_
        refine j_bipush (v := (8 : Int32)) C dX6_chance_53 (by decide) ?_
        refine j_callV_i (st := []) C dX6_chance_55 (ct_X6_onDrawn (kγ κ) E M L (x1 + x7) x3 (8 : Int32) h0) mi_X6_onDrawn tw_1346 FC6 (MAt.S h0) rfl rfl (Nat.le_of_ble_eq_true rfl) ⟨⟨rfl, rfl⟩, ⟨Nat.le_of_ble_eq_true rfl, Nat.le_of_ble_eq_true rfl⟩, ⟨Nat.zero_le _, Nat.zero_le _⟩⟩ (fun v55 => ?_)
        refine j_pc (pc2 := 58) rfl ?_
        refine j_istore (i := 8) (lv' := [some (.ref (E.2.1 0)), some (.int x1), some (.int x2), some (.int x3), some (.int x4), some (.long x5), none, some (.int x7), some (.int v55)]) C dX6_chance_58 (hn 8 (by decide)) rfl ?_
        refine j_lload C dX6_chance_60 rfl ?_
        refine j_iload C dX6_chance_62 rfl ?_
        refine j_callS_i (st := [.long x5]) C dX6_chance_64 (ct_X6_isBlack (kγ κ) E M L v55) mi_X6_isBlack tw_1184 rfl rfl (Nat.le_of_ble_eq_true rfl) ⟨⟨rfl, rfl⟩, ⟨Nat.le_of_ble_eq_true rfl, Nat.le_of_ble_eq_true rfl⟩, ⟨Nat.zero_le _, Nat.zero_le _⟩⟩ (fun v64 => ?_)
        refine j_if_eq (tgt := 86) C dX6_chance_67 (by decide) ?_ ?_
        · refine j_mask [true, true, true, true, true, false, false, true, false] (lv' := [some (.ref (E.2.1 0)), some (.int x1), some (.int x2), some (.int x3), some (.int x4), none, none, some (.int x7), none]) rfl ?_
          exact k86 (F_X6_chance_k41 M L n) ih x1 x2 x3 x4 x7 x5
        · refine j_aload_n C dX6_chance_70 rfl rfl ?_
          refine j_getL (j := 8) C dX6_chance_71 FC6 (MAt.S h0) (by decide) rfl tw_811 ?_
          refine j_iload C dX6_chance_74 rfl ?_
          refine j_callS_i (st := [.long x5]) C dX6_chance_76 (ct_X6_has (kγ κ) E M L (L 0 8) v55) mi_X6_has tw_959 rfl rfl (Nat.le_of_ble_eq_true rfl) ⟨⟨rfl, rfl⟩, ⟨Nat.le_of_ble_eq_true rfl, Nat.le_of_ble_eq_true rfl⟩, ⟨Nat.zero_le _, Nat.zero_le _⟩⟩ (fun v76 => ?_)
          refine j_if_ne (tgt := 86) C dX6_chance_79 (by decide) ?_ ?_
          · refine j_mask [true, true, true, true, true, false, false, true, false] (lv' := [some (.ref (E.2.1 0)), some (.int x1), some (.int x2), some (.int x3), some (.int x4), none, none, some (.int x7), none]) rfl ?_
            exact k86 (F_X6_chance_k41 M L n) ih x1 x2 x3 x4 x7 x5
          · refine j_lconst (v := (1 : Int64)) C dX6_chance_82 rfl ?_
            refine j_goto (tgt := 87) C dX6_chance_83 (by decide) ?_
            refine j_mask [true, true, true, true, true, false, false, true, false] (lv' := [some (.ref (E.2.1 0)), some (.int x1), some (.int x2), some (.int x3), some (.int x4), none, none, some (.int x7), none]) rfl ?_
            exact k87 (F_X6_chance_k41 M L n) ih x1 x2 x3 x4 x7 x5 ((1 : Int64))
  unfold F_X6_chance
  refine j_iload_n C dX6_chance_0 rfl rfl ?_
  refine j_i2l C dX6_chance_1 ?_
  refine j_lconst (v := (1 : Int64)) C dX6_chance_2 rfl ?_
  refine j_ldc2 (v := (40 : Int64)) C dX6_chance_3 tw_1248 ?_
  refine j_callS_i (st := []) C dX6_chance_6 (ct_X6_in (kγ κ) E M L (Int32.toInt64 x2) (1 : Int64) (40 : Int64)) mi_X6_in tw_933 rfl rfl (Nat.le_of_ble_eq_true rfl) ⟨⟨rfl, rfl⟩, ⟨Nat.le_of_ble_eq_true rfl, Nat.le_of_ble_eq_true rfl⟩, ⟨Nat.zero_le _, Nat.zero_le _⟩⟩ (fun v6 => ?_)
  refine j_if_eq (tgt := 31) C dX6_chance_9 (by decide) ?_ ?_
  · refine j_ldc2 (v := (-4611686018427387904 : Int64)) C dX6_chance_31 tw_1203 ?_
    exact j_lret C dX6_chance_34
  · refine j_aload_n C dX6_chance_12 rfl rfl ?_
    refine j_iload_n C dX6_chance_13 rfl rfl ?_
    refine j_callV_i (st := []) C dX6_chance_14 (ct_X6_isOne (kγ κ) E M L x3 h0) mi_X6_isOne tw_944 FC6 (MAt.S h0) rfl rfl (Nat.le_of_ble_eq_true rfl) ⟨⟨rfl, rfl⟩, ⟨Nat.le_of_ble_eq_true rfl, Nat.le_of_ble_eq_true rfl⟩, ⟨Nat.zero_le _, Nat.zero_le _⟩⟩ (fun v14 => ?_)
    refine j_if_eq (tgt := 31) C dX6_chance_17 (by decide) ?_ ?_
    · refine j_ldc2 (v := (-4611686018427387904 : Int64)) C dX6_chance_31 tw_1203 ?_
      exact j_lret C dX6_chance_34
    · refine j_iload C dX6_chance_20 rfl ?_
      refine j_i2l C dX6_chance_22 ?_
      refine j_lconst (v := (0 : Int64)) C dX6_chance_23 rfl ?_
      refine j_lconst (v := (1 : Int64)) C dX6_chance_24 rfl ?_
      refine j_callS_i (st := []) C dX6_chance_25 (ct_X6_in (kγ κ) E M L (Int32.toInt64 x4) (0 : Int64) (1 : Int64)) mi_X6_in tw_933 rfl rfl (Nat.le_of_ble_eq_true rfl) ⟨⟨rfl, rfl⟩, ⟨Nat.le_of_ble_eq_true rfl, Nat.le_of_ble_eq_true rfl⟩, ⟨Nat.zero_le _, Nat.zero_le _⟩⟩ (fun v25 => ?_)
      refine j_if_ne (tgt := 35) C dX6_chance_28 (by decide) ?_ ?_
      · refine j_lconst (v := (0 : Int64)) C dX6_chance_35 rfl ?_
        refine j_lstore (i := 5) (lv' := [some (.ref (E.2.1 0)), some (.int x1), some (.int x2), some (.int x3), some (.int x4), some (.long (0 : Int64)), none, none, none]) C dX6_chance_36 (hn 6 (by decide)) rfl ?_
        refine j_iconst (v := (0 : Int32)) C dX6_chance_38 rfl ?_
        refine j_istore (i := 7) (lv' := [some (.ref (E.2.1 0)), some (.int x1), some (.int x2), some (.int x3), some (.int x4), some (.long (0 : Int64)), none, some (.int (0 : Int32)), none]) C dX6_chance_39 (hn 7 (by decide)) rfl ?_
        exact k41 FU x1 x2 x3 x4 ((0 : Int64)) ((0 : Int32))
      · refine j_ldc2 (v := (-4611686018427387904 : Int64)) C dX6_chance_31 tw_1203 ?_
        exact j_lret C dX6_chance_34
set_option maxRecDepth 100000 in
set_option maxHeartbeats 4000000 in
theorem ct_X6_image (γ : Gm) (E : Ev) (M : Mi) (L : Ml)   (h0 : MAt E) : Ct γ yX6_image cX6_image 2 (some .int) ⟨0, 0, 0, 0⟩ [.ref (E.2.1 0)] E M L (Q_iw γ E) 0 0 (F_X6_image M L) := by
  refine ct_of (own := RX6) (lv := [some (.ref (E.2.1 0)), none]) (by decide +kernel) rfl rfl (Nat.le_of_ble_eq_true rfl) (fun κ C hγ hN => ?_)
  subst hγ
  have hn : ∀ i, i < 2 → i < knL κ := fun i h => by rw [hN]; exact h
  have k2 : ∀ (n : Nat) (M : Mi) (L : Ml) (x1 : Int32), JF κ (PQ κ (Q_iw (kγ κ) E) 0 0) 2 [some (.ref (E.2.1 0)), some (.int x1)] [] E M L 0 0 (F_X6_image_k2  n M L x1) := by
    intro n
    induction n with
    | zero => intros; exact jf_none
    | succ n ih =>
      intro M L x1
      unfold F_X6_image_k2
      refine j_iload_n C dX6_image_2 rfl rfl ?_
      refine j_bipush (v := (20 : Int32)) C dX6_image_3 (by decide) ?_
      refine j_icmp_ge (tgt := 26) C dX6_image_5 (by decide) ?_ ?_
      · refine j_aload_n C dX6_image_26 rfl rfl ?_
        refine j_aload_n C dX6_image_27 rfl rfl ?_
        refine j_getI (j := 11) C dX6_image_28 FC6 (MAt.S h0) (by decide) rfl tw_814 ?_
        refine j_putI (j := 32) C dX6_image_31 FC6 (MAt.S h0) (by decide) rfl rfl rfl rfl tw_835 ?_
        refine j_aload_n C dX6_image_34 rfl rfl ?_
        refine j_aload_n C dX6_image_35 rfl rfl ?_
        refine j_getI (j := 7) C dX6_image_36 FC6 (MAt.S h0) (by decide) rfl tw_810 ?_
        refine j_pc (pc2 := 39) rfl ?_
        refine j_putI (j := 33) C dX6_image_39 FC6 (MAt.S h0) (by decide) rfl rfl rfl rfl tw_836 ?_
        refine j_aload_n C dX6_image_42 rfl rfl ?_
        refine j_aload_n C dX6_image_43 rfl rfl ?_
        refine j_getI (j := 4) C dX6_image_44 FC6 (MAt.S h0) (by decide) rfl tw_807 ?_
        refine j_putI (j := 34) C dX6_image_47 FC6 (MAt.S h0) (by decide) rfl rfl rfl rfl tw_837 ?_
        refine j_aload_n C dX6_image_50 rfl rfl ?_
        refine j_aload_n C dX6_image_51 rfl rfl ?_
        refine j_getL (j := 8) C dX6_image_52 FC6 (MAt.S h0) (by decide) rfl tw_811 ?_
        refine j_pc (pc2 := 55) rfl ?_
        refine j_putL (j := 35) C dX6_image_55 FC6 (MAt.S h0) (by decide) rfl rfl rfl rfl tw_838 ?_
        refine j_aload_n C dX6_image_58 rfl rfl ?_
        refine j_aload_n C dX6_image_59 rfl rfl ?_
        refine j_getL (j := 9) C dX6_image_60 FC6 (MAt.S h0) (by decide) rfl tw_812 ?_
        refine j_putL (j := 36) C dX6_image_63 FC6 (MAt.S h0) (by decide) rfl rfl rfl rfl tw_839 ?_
        refine j_aload_n C dX6_image_66 rfl rfl ?_
        refine j_getI (j := 11) C dX6_image_67 FC6 (MAt.S h0) (by decide) rfl tw_814 ?_
        exact j_iretw C dX6_image_70
      · refine j_aload_n C dX6_image_8 rfl rfl ?_
        refine j_getR (j := 31) C dX6_image_9 FC6 (MAt.S h0) (by decide) rfl (MAt.R_rowsKept h0) tw_834 ?_
        refine j_iload_n C dX6_image_12 rfl rfl ?_
        refine j_aload_n C dX6_image_13 rfl rfl ?_
        refine j_getR (j := 10) C dX6_image_14 FC6 (MAt.S h0) (by decide) rfl (MAt.R_rows h0) tw_813 ?_
        refine j_iload_n C dX6_image_17 rfl rfl ?_
        refine j_iald C dX6_image_18 (MAt.P_rows h0) ?_
        refine j_pc (pc2 := 19) rfl ?_
        refine j_iast C dX6_image_19 (MAt.P_rowsKept h0) ?_
        refine j_iinc (i := 1) (v := (x1 + (1 : Int32))) (lv' := [some (.ref (E.2.1 0)), some (.int (x1 + (1 : Int32)))]) C dX6_image_20 rfl rfl (hn 1 (by decide)) rfl ?_
        refine j_goto (tgt := 2) C dX6_image_23 (by decide) ?_
        exact ih ((up2 M 6 (Int32.toNatClampNeg x1) (M 4 (Int32.toNatClampNeg x1)))) L ((x1 + (1 : Int32)))
  unfold F_X6_image
  refine j_iconst (v := (0 : Int32)) C dX6_image_0 rfl ?_
  refine j_istore_n (i := 1) (lv' := [some (.ref (E.2.1 0)), some (.int (0 : Int32))]) C dX6_image_1 rfl (hn 1 (by decide)) rfl ?_
  exact k2 FU M L ((0 : Int32))
set_option maxRecDepth 100000 in
set_option maxHeartbeats 4000000 in
theorem ct_X6_back (γ : Gm) (E : Ev) (M : Mi) (L : Ml)   (h0 : MAt E) : Ct γ yX6_back cX6_back 2 (some .int) ⟨0, 0, 0, 0⟩ [.ref (E.2.1 0)] E M L (Q_iw γ E) 0 0 (F_X6_back M L) := by
  refine ct_of (own := RX6) (lv := [some (.ref (E.2.1 0)), none]) (by decide +kernel) rfl rfl (Nat.le_of_ble_eq_true rfl) (fun κ C hγ hN => ?_)
  subst hγ
  have hn : ∀ i, i < 2 → i < knL κ := fun i h => by rw [hN]; exact h
  have k13 : ∀ (n : Nat) (M : Mi) (L : Ml) (x1 : Int32), JF κ (PQ κ (Q_iw (kγ κ) E) 0 0) 13 [some (.ref (E.2.1 0)), some (.int x1)] [] E M L 0 0 (F_X6_back_k13  n M L x1) := by
    intro n
    induction n with
    | zero => intros; exact jf_none
    | succ n ih =>
      intro M L x1
      unfold F_X6_back_k13
      refine j_iload_n C dX6_back_13 rfl rfl ?_
      refine j_bipush (v := (20 : Int32)) C dX6_back_14 (by decide) ?_
      refine j_icmp_ge (tgt := 37) C dX6_back_16 (by decide) ?_ ?_
      · refine j_aload_n C dX6_back_37 rfl rfl ?_
        refine j_aload_n C dX6_back_38 rfl rfl ?_
        refine j_getI (j := 32) C dX6_back_39 FC6 (MAt.S h0) (by decide) rfl tw_835 ?_
        refine j_putI (j := 11) C dX6_back_42 FC6 (MAt.S h0) (by decide) rfl rfl rfl rfl tw_814 ?_
        refine j_aload_n C dX6_back_45 rfl rfl ?_
        refine j_aload_n C dX6_back_46 rfl rfl ?_
        refine j_getI (j := 33) C dX6_back_47 FC6 (MAt.S h0) (by decide) rfl tw_836 ?_
        refine j_pc (pc2 := 50) rfl ?_
        refine j_putI (j := 7) C dX6_back_50 FC6 (MAt.S h0) (by decide) rfl rfl rfl rfl tw_810 ?_
        refine j_aload_n C dX6_back_53 rfl rfl ?_
        refine j_aload_n C dX6_back_54 rfl rfl ?_
        refine j_getI (j := 34) C dX6_back_55 FC6 (MAt.S h0) (by decide) rfl tw_837 ?_
        refine j_putI (j := 4) C dX6_back_58 FC6 (MAt.S h0) (by decide) rfl rfl rfl rfl tw_807 ?_
        refine j_aload_n C dX6_back_61 rfl rfl ?_
        refine j_aload_n C dX6_back_62 rfl rfl ?_
        refine j_getL (j := 35) C dX6_back_63 FC6 (MAt.S h0) (by decide) rfl tw_838 ?_
        refine j_pc (pc2 := 66) rfl ?_
        refine j_putL (j := 8) C dX6_back_66 FC6 (MAt.S h0) (by decide) rfl rfl rfl rfl tw_811 ?_
        refine j_aload_n C dX6_back_69 rfl rfl ?_
        refine j_aload_n C dX6_back_70 rfl rfl ?_
        refine j_getL (j := 36) C dX6_back_71 FC6 (MAt.S h0) (by decide) rfl tw_839 ?_
        refine j_putL (j := 9) C dX6_back_74 FC6 (MAt.S h0) (by decide) rfl rfl rfl rfl tw_812 ?_
        refine j_aload_n C dX6_back_77 rfl rfl ?_
        refine j_getI (j := 11) C dX6_back_78 FC6 (MAt.S h0) (by decide) rfl tw_814 ?_
        exact j_iretw C dX6_back_81
      · refine j_aload_n C dX6_back_19 rfl rfl ?_
        refine j_getR (j := 10) C dX6_back_20 FC6 (MAt.S h0) (by decide) rfl (MAt.R_rows h0) tw_813 ?_
        refine j_iload_n C dX6_back_23 rfl rfl ?_
        refine j_aload_n C dX6_back_24 rfl rfl ?_
        refine j_getR (j := 31) C dX6_back_25 FC6 (MAt.S h0) (by decide) rfl (MAt.R_rowsKept h0) tw_834 ?_
        refine j_iload_n C dX6_back_28 rfl rfl ?_
        refine j_iald C dX6_back_29 (MAt.P_rowsKept h0) ?_
        refine j_pc (pc2 := 30) rfl ?_
        refine j_iast C dX6_back_30 (MAt.P_rows h0) ?_
        refine j_iinc (i := 1) (v := (x1 + (1 : Int32))) (lv' := [some (.ref (E.2.1 0)), some (.int (x1 + (1 : Int32)))]) C dX6_back_31 rfl rfl (hn 1 (by decide)) rfl ?_
        refine j_goto (tgt := 13) C dX6_back_34 (by decide) ?_
        exact ih ((up2 M 4 (Int32.toNatClampNeg x1) (M 6 (Int32.toNatClampNeg x1)))) L ((x1 + (1 : Int32)))
  unfold F_X6_back
  refine j_aload_n C dX6_back_0 rfl rfl ?_
  refine j_getI (j := 32) C dX6_back_1 FC6 (MAt.S h0) (by decide) rfl tw_835 ?_
  refine j_iconst (v := (-1 : Int32)) C dX6_back_4 rfl ?_
  refine j_icmp_ne (tgt := 11) C dX6_back_5 (by decide) ?_ ?_
  · refine j_iconst (v := (0 : Int32)) C dX6_back_11 rfl ?_
    refine j_istore_n (i := 1) (lv' := [some (.ref (E.2.1 0)), some (.int (0 : Int32))]) C dX6_back_12 rfl (hn 1 (by decide)) rfl ?_
    exact k13 FU M L ((0 : Int32))
  · refine j_bipush (v := (-3 : Int32)) C dX6_back_8 (by decide) ?_
    exact j_iretw C dX6_back_10
set_option maxRecDepth 100000 in
set_option maxHeartbeats 4000000 in
theorem ct_X6_count (γ : Gm) (E : Ev) (M : Mi) (L : Ml)  (x1 : Int32) (h0 : MAt E) : Ct γ yX6_count cX6_count 2 (some .int) ⟨1, 0, 0, 25⟩ [.ref (E.2.1 0), .int x1] E M L (Q_i γ E M L) 0 0 (F_X6_count M L x1) := by
  refine ct_of (own := RX6) (lv := [some (.ref (E.2.1 0)), some (.int x1)]) (by decide +kernel) rfl rfl (Nat.le_of_ble_eq_true rfl) (fun κ C hγ hN => ?_)
  subst hγ
  have hn : ∀ i, i < 2 → i < knL κ := fun i h => by rw [hN]; exact h
  unfold F_X6_count
  refine j_iload_n C dX6_count_0 rfl rfl ?_
  refine j_i2l C dX6_count_1 ?_
  refine j_lconst (v := (0 : Int64)) C dX6_count_2 rfl ?_
  refine j_ldc2 (v := (5 : Int64)) C dX6_count_3 tw_932 ?_
  refine j_callS_i (st := []) C dX6_count_6 (ct_X6_in (kγ κ) E M L (Int32.toInt64 x1) (0 : Int64) (5 : Int64)) mi_X6_in tw_933 rfl rfl (Nat.le_of_ble_eq_true rfl) ⟨⟨rfl, rfl⟩, ⟨Nat.le_of_ble_eq_true rfl, Nat.le_of_ble_eq_true rfl⟩, ⟨Nat.zero_le _, Nat.zero_le _⟩⟩ (fun v6 => ?_)
  refine j_if_ne (tgt := 15) C dX6_count_9 (by decide) ?_ ?_
  · refine j_iload_n C dX6_count_15 rfl rfl ?_
    refine j_if_ne (tgt := 26) C dX6_count_16 (by decide) ?_ ?_
    · refine j_iload_n C dX6_count_26 rfl rfl ?_
      refine j_iconst (v := (1 : Int32)) C dX6_count_27 rfl ?_
      refine j_icmp_ne (tgt := 41) C dX6_count_28 (by decide) ?_ ?_
      · refine j_iload_n C dX6_count_41 rfl rfl ?_
        refine j_iconst (v := (2 : Int32)) C dX6_count_42 rfl ?_
        refine j_icmp_ne (tgt := 53) C dX6_count_43 (by decide) ?_ ?_
        · refine j_iload_n C dX6_count_53 rfl rfl ?_
          refine j_iconst (v := (3 : Int32)) C dX6_count_54 rfl ?_
          refine j_icmp_ne (tgt := 65) C dX6_count_55 (by decide) ?_ ?_
          · refine j_iload_n C dX6_count_65 rfl rfl ?_
            refine j_iconst (v := (4 : Int32)) C dX6_count_66 rfl ?_
            refine j_icmp_ne (tgt := 77) C dX6_count_67 (by decide) ?_ ?_
            · refine j_aload_n C dX6_count_77 rfl rfl ?_
              refine j_getI (j := 4) C dX6_count_78 FC6 (MAt.S h0) (by decide) rfl tw_807 ?_
              exact j_iret C dX6_count_81
            · refine j_aload_n C dX6_count_70 rfl rfl ?_
              refine j_getI (j := 6) C dX6_count_71 FC6 (MAt.S h0) (by decide) rfl tw_809 ?_
              refine j_goto (tgt := 81) C dX6_count_74 (by decide) ?_
              exact j_iret C dX6_count_81
          · refine j_aload_n C dX6_count_58 rfl rfl ?_
            refine j_getI (j := 3) C dX6_count_59 FC6 (MAt.S h0) (by decide) rfl tw_806 ?_
            refine j_goto (tgt := 81) C dX6_count_62 (by decide) ?_
            exact j_iret C dX6_count_81
        · refine j_aload_n C dX6_count_46 rfl rfl ?_
          refine j_getI (j := 7) C dX6_count_47 FC6 (MAt.S h0) (by decide) rfl tw_810 ?_
          refine j_goto (tgt := 81) C dX6_count_50 (by decide) ?_
          exact j_iret C dX6_count_81
      · refine j_aload_n C dX6_count_31 rfl rfl ?_
        refine j_getL (j := 9) C dX6_count_32 FC6 (MAt.S h0) (by decide) rfl tw_812 ?_
        refine j_callS_i (st := []) C dX6_count_35 (ct_X6_bitsOf (kγ κ) E M L (L 0 9)) mi_X6_bitsOf tw_975 rfl rfl (Nat.le_of_ble_eq_true rfl) ⟨⟨rfl, rfl⟩, ⟨Nat.le_of_ble_eq_true rfl, Nat.le_of_ble_eq_true rfl⟩, ⟨Nat.zero_le _, Nat.zero_le _⟩⟩ (fun v35 => ?_)
        refine j_goto (tgt := 81) C dX6_count_38 (by decide) ?_
        exact j_iret C dX6_count_81
    · refine j_aload_n C dX6_count_19 rfl rfl ?_
      refine j_getI (j := 11) C dX6_count_20 FC6 (MAt.S h0) (by decide) rfl tw_814 ?_
      refine j_goto (tgt := 81) C dX6_count_23 (by decide) ?_
      exact j_iret C dX6_count_81
  · refine j_bipush (v := (-2 : Int32)) C dX6_count_12 (by decide) ?_
    exact j_iret C dX6_count_14
set_option maxRecDepth 100000 in
set_option maxHeartbeats 4000000 in
theorem ct_X6_cell (γ : Gm) (E : Ev) (M : Mi) (L : Ml)  (x1 : Int32) (x2 : Int32) (x3 : Int32) (h0 : MAt E) : Ct γ yX6_cell cX6_cell 4 (some .int) ⟨2, 0, 0, 45⟩ [.ref (E.2.1 0), .int x1, .int x2, .int x3] E M L (Q_iw γ E) 0 0 (F_X6_cell M L x1 x2 x3) := by
  refine ct_of (own := RX6) (lv := [some (.ref (E.2.1 0)), some (.int x1), some (.int x2), some (.int x3)]) (by decide +kernel) rfl rfl (Nat.le_of_ble_eq_true rfl) (fun κ C hγ hN => ?_)
  subst hγ
  have hn : ∀ i, i < 4 → i < knL κ := fun i h => by rw [hN]; exact h
  unfold F_X6_cell
  refine j_iload_n C dX6_cell_0 rfl rfl ?_
  refine j_callS_i (st := []) C dX6_cell_1 (ct_X6_isSheet (kγ κ) E M L x1) mi_X6_isSheet tw_1318 rfl rfl (Nat.le_of_ble_eq_true rfl) ⟨⟨rfl, rfl⟩, ⟨Nat.le_of_ble_eq_true rfl, Nat.le_of_ble_eq_true rfl⟩, ⟨Nat.zero_le _, Nat.zero_le _⟩⟩ (fun v1 => ?_)
  refine j_if_ne (tgt := 10) C dX6_cell_4 (by decide) ?_ ?_
  · refine j_aload_n C dX6_cell_10 rfl rfl ?_
    refine j_getR (j := 37) C dX6_cell_11 FC6 (MAt.S h0) (by decide) rfl (MAt.R_isThere h0) tw_840 ?_
    refine j_iload_n C dX6_cell_14 rfl rfl ?_
    refine j_zald C dX6_cell_15 (MAt.P_isThere h0) ?_
    refine j_if_ne (tgt := 22) C dX6_cell_16 (by decide) ?_ ?_
    · refine j_iload_n C dX6_cell_22 rfl rfl ?_
      refine j_i2l C dX6_cell_23 ?_
      refine j_lconst (v := (0 : Int64)) C dX6_cell_24 rfl ?_
      refine j_aload_n C dX6_cell_25 rfl rfl ?_
      refine j_getR (j := 39) C dX6_cell_26 FC6 (MAt.S h0) (by decide) rfl (MAt.R_sheetSize h0) tw_842 ?_
      refine j_iload_n C dX6_cell_29 rfl rfl ?_
      refine j_iald C dX6_cell_30 (MAt.P_sheetSize h0) ?_
      refine j_pc (pc2 := 31) rfl ?_
      refine j_iconst (v := (1 : Int32)) C dX6_cell_31 rfl ?_
      refine j_isub C dX6_cell_32 ?_
      refine j_i2l C dX6_cell_33 ?_
      refine j_callS_i (st := []) C dX6_cell_34 (ct_X6_in (kγ κ) E M L (Int32.toInt64 x2) (0 : Int64) (Int32.toInt64 ((M 9 (Int32.toNatClampNeg x1)) - (1 : Int32)))) mi_X6_in tw_933 rfl rfl (Nat.le_of_ble_eq_true rfl) ⟨⟨rfl, rfl⟩, ⟨Nat.le_of_ble_eq_true rfl, Nat.le_of_ble_eq_true rfl⟩, ⟨Nat.zero_le _, Nat.zero_le _⟩⟩ (fun v34 => ?_)
      refine j_if_ne (tgt := 43) C dX6_cell_37 (by decide) ?_ ?_
      · refine j_aload_n C dX6_cell_43 rfl rfl ?_
        refine j_getR (j := 40) C dX6_cell_44 FC6 (MAt.S h0) (by decide) rfl (MAt.R_items h0) tw_843 ?_
        refine j_bipush (v := (40 : Int32)) C dX6_cell_47 (by decide) ?_
        refine j_iload_n C dX6_cell_49 rfl rfl ?_
        refine j_imul C dX6_cell_50 ?_
        refine j_iload_n C dX6_cell_51 rfl rfl ?_
        refine j_iadd C dX6_cell_52 ?_
        refine j_pc (pc2 := 53) rfl ?_
        refine j_aload_n C dX6_cell_53 rfl rfl ?_
        refine j_getR (j := 38) C dX6_cell_54 FC6 (MAt.S h0) (by decide) rfl (MAt.R_sorts h0) tw_841 ?_
        refine j_iload_n C dX6_cell_57 rfl rfl ?_
        refine j_iald C dX6_cell_58 (MAt.P_sorts h0) ?_
        refine j_if_ne (tgt := 67) C dX6_cell_59 (by decide) ?_ ?_
        · refine j_aload_n C dX6_cell_67 rfl rfl ?_
          refine j_getR (j := 38) C dX6_cell_68 FC6 (MAt.S h0) (by decide) rfl (MAt.R_sorts h0) tw_841 ?_
          refine j_iload_n C dX6_cell_71 rfl rfl ?_
          refine j_iald C dX6_cell_72 (MAt.P_sorts h0) ?_
          refine j_iconst (v := (1 : Int32)) C dX6_cell_73 rfl ?_
          refine j_icmp_ne (tgt := 82) C dX6_cell_74 (by decide) ?_ ?_
          · refine j_iload_n C dX6_cell_82 rfl rfl ?_
            refine j_iast C dX6_cell_83 (MAt.P_items h0) ?_
            refine j_iconst (v := (1 : Int32)) C dX6_cell_84 rfl ?_
            exact j_iretw C dX6_cell_85
          · refine j_iload_n C dX6_cell_77 rfl rfl ?_
            refine j_i2s C dX6_cell_78 ?_
            refine j_goto (tgt := 83) C dX6_cell_79 (by decide) ?_
            refine j_iast C dX6_cell_83 (MAt.P_items h0) ?_
            refine j_iconst (v := (1 : Int32)) C dX6_cell_84 rfl ?_
            exact j_iretw C dX6_cell_85
        · refine j_iload_n C dX6_cell_62 rfl rfl ?_
          refine j_i2b C dX6_cell_63 ?_
          refine j_goto (tgt := 83) C dX6_cell_64 (by decide) ?_
          refine j_iast C dX6_cell_83 (MAt.P_items h0) ?_
          refine j_iconst (v := (1 : Int32)) C dX6_cell_84 rfl ?_
          exact j_iretw C dX6_cell_85
      · refine j_bipush (v := (-12 : Int32)) C dX6_cell_40 (by decide) ?_
        exact j_iretw C dX6_cell_42
    · refine j_bipush (v := (-11 : Int32)) C dX6_cell_19 (by decide) ?_
      exact j_iretw C dX6_cell_21
  · refine j_bipush (v := (-2 : Int32)) C dX6_cell_7 (by decide) ?_
    exact j_iretw C dX6_cell_9
set_option maxRecDepth 100000 in
set_option maxHeartbeats 4000000 in
theorem ct_X6_copy (γ : Gm) (E : Ev) (M : Mi) (L : Ml)  (x1 : Int32) (x2 : Int32) (x3 : Int32) (x4 : Int32) (x5 : Int32) (h0 : MAt E) : Ct γ yX6_copy cX6_copy 9 (some .int) ⟨2, 0, 0, 45⟩ [.ref (E.2.1 0), .int x1, .int x2, .int x3, .int x4, .int x5] E M L (Q_iw γ E) 0 0 (F_X6_copy M L x1 x2 x3 x4 x5) := by
  refine ct_of (own := RX6) (lv := [some (.ref (E.2.1 0)), some (.int x1), some (.int x2), some (.int x3), some (.int x4), some (.int x5), none, none, none]) (by decide +kernel) rfl rfl (Nat.le_of_ble_eq_true rfl) (fun κ C hγ hN => ?_)
  subst hγ
  have hn : ∀ i, i < 9 → i < knL κ := fun i h => by rw [hN]; exact h
  have k145 : ∀ (kf121 : Mi → Ml → Int32 → Int32 → Int32 → Int32 → Int32 → Int32 → Int32 → Option (Int32 × Mi × Ml)), (∀ (M : Mi) (L : Ml) (x1 : Int32) (x2 : Int32) (x3 : Int32) (x4 : Int32) (x5 : Int32) (x6 : Int32) (x7 : Int32), JF κ (PQ κ (Q_iw (kγ κ) E) 0 0) 121 [some (.ref (E.2.1 0)), some (.int x1), some (.int x2), some (.int x3), some (.int x4), some (.int x5), some (.int x6), some (.int x7), none] [] E M L 0 0 (kf121 M L x1 x2 x3 x4 x5 x6 x7)) → ∀ (M : Mi) (L : Ml) (x1 : Int32) (x2 : Int32) (x3 : Int32) (x4 : Int32) (x5 : Int32) (x6 : Int32) (x7 : Int32) (s0 : Int32), JF κ (PQ κ (Q_iw (kγ κ) E) 0 0) 145 [some (.ref (E.2.1 0)), some (.int x1), some (.int x2), some (.int x3), some (.int x4), some (.int x5), some (.int x6), some (.int x7), none] [.int s0] E M L 0 0 (F_X6_copy_k145 kf121 M L x1 x2 x3 x4 x5 x6 x7 s0) := by
    intro kf121 hkf121 M L x1 x2 x3 x4 x5 x6 x7 s0
    unfold F_X6_copy_k145
    refine j_istore (i := 8) (lv' := [some (.ref (E.2.1 0)), some (.int x1), some (.int x2), some (.int x3), some (.int x4), some (.int x5), some (.int x6), some (.int x7), some (.int s0)]) C dX6_copy_145 (hn 8 (by decide)) rfl ?_
    refine j_aload_n C dX6_copy_147 rfl rfl ?_
    refine j_getR (j := 40) C dX6_copy_148 FC6 (MAt.S h0) (by decide) rfl (MAt.R_items h0) tw_843 ?_
    refine j_bipush (v := (40 : Int32)) C dX6_copy_151 (by decide) ?_
    refine j_iload_n C dX6_copy_153 rfl rfl ?_
    refine j_imul C dX6_copy_154 ?_
    refine j_iload C dX6_copy_155 rfl ?_
    refine j_pc (pc2 := 157) rfl ?_
    refine j_iadd C dX6_copy_157 ?_
    refine j_iload C dX6_copy_158 rfl ?_
    refine j_iadd C dX6_copy_160 ?_
    refine j_aload_n C dX6_copy_161 rfl rfl ?_
    refine j_getR (j := 40) C dX6_copy_162 FC6 (MAt.S h0) (by decide) rfl (MAt.R_items h0) tw_843 ?_
    refine j_bipush (v := (40 : Int32)) C dX6_copy_165 (by decide) ?_
    refine j_iload_n C dX6_copy_167 rfl rfl ?_
    refine j_imul C dX6_copy_168 ?_
    refine j_pc (pc2 := 169) rfl ?_
    refine j_iload_n C dX6_copy_169 rfl rfl ?_
    refine j_iadd C dX6_copy_170 ?_
    refine j_iload C dX6_copy_171 rfl ?_
    refine j_iadd C dX6_copy_173 ?_
    refine j_iald C dX6_copy_174 (MAt.P_items h0) ?_
    refine j_iast C dX6_copy_175 (MAt.P_items h0) ?_
    refine j_iinc (i := 7) (v := (x7 + (1 : Int32))) (lv' := [some (.ref (E.2.1 0)), some (.int x1), some (.int x2), some (.int x3), some (.int x4), some (.int x5), some (.int x6), some (.int (x7 + (1 : Int32))), some (.int s0)]) C dX6_copy_176 rfl rfl (hn 7 (by decide)) rfl ?_
    refine j_goto (tgt := 121) C dX6_copy_179 (by decide) ?_
    refine j_mask [true, true, true, true, true, true, true, true, false] (lv' := [some (.ref (E.2.1 0)), some (.int x1), some (.int x2), some (.int x3), some (.int x4), some (.int x5), some (.int x6), some (.int (x7 + (1 : Int32))), none]) rfl ?_
    exact hkf121 ((up2 M 10 (Int32.toNatClampNeg ((((40 : Int32) * x3) + x4) + s0)) (M 10 (Int32.toNatClampNeg ((((40 : Int32) * x1) + x2) + s0))))) L x1 x2 x3 x4 x5 x6 ((x7 + (1 : Int32)))
  have k121 : ∀ (n : Nat) (M : Mi) (L : Ml) (x1 : Int32) (x2 : Int32) (x3 : Int32) (x4 : Int32) (x5 : Int32) (x6 : Int32) (x7 : Int32), JF κ (PQ κ (Q_iw (kγ κ) E) 0 0) 121 [some (.ref (E.2.1 0)), some (.int x1), some (.int x2), some (.int x3), some (.int x4), some (.int x5), some (.int x6), some (.int x7), none] [] E M L 0 0 (F_X6_copy_k121  n M L x1 x2 x3 x4 x5 x6 x7) := by
    intro n
    induction n with
    | zero => intros; exact jf_none
    | succ n ih =>
      intro M L x1 x2 x3 x4 x5 x6 x7
      unfold F_X6_copy_k121
      refine j_iload C dX6_copy_121 rfl ?_
      refine j_iload C dX6_copy_123 rfl ?_
      refine j_icmp_ge (tgt := 182) C dX6_copy_125 (by decide) ?_ ?_
      · refine j_iload C dX6_copy_182 rfl ?_
        exact j_iretw C dX6_copy_184
      · refine j_iload C dX6_copy_128 rfl ?_
        refine j_if_eq (tgt := 143) C dX6_copy_130 (by decide) ?_ ?_
        · refine j_iload C dX6_copy_143 rfl ?_
          exact k145 (F_X6_copy_k121  n) ih M L x1 x2 x3 x4 x5 x6 x7 x7
        · refine j_iload C dX6_copy_133 rfl ?_
          refine j_iconst (v := (1 : Int32)) C dX6_copy_135 rfl ?_
          refine j_isub C dX6_copy_136 ?_
          refine j_iload C dX6_copy_137 rfl ?_
          refine j_isub C dX6_copy_139 ?_
          refine j_goto (tgt := 145) C dX6_copy_140 (by decide) ?_
          exact k145 (F_X6_copy_k121  n) ih M L x1 x2 x3 x4 x5 x6 x7 (((x5 - (1 : Int32)) - x7))
  have k116 : ∀ (M : Mi) (L : Ml) (x1 : Int32) (x2 : Int32) (x3 : Int32) (x4 : Int32) (x5 : Int32) (s0 : Int32), JF κ (PQ κ (Q_iw (kγ κ) E) 0 0) 116 [some (.ref (E.2.1 0)), some (.int x1), some (.int x2), some (.int x3), some (.int x4), some (.int x5), none, none, none] [.int s0] E M L 0 0 (F_X6_copy_k116  M L x1 x2 x3 x4 x5 s0) := by
    intro M L x1 x2 x3 x4 x5 s0
    unfold F_X6_copy_k116
    refine j_istore (i := 6) (lv' := [some (.ref (E.2.1 0)), some (.int x1), some (.int x2), some (.int x3), some (.int x4), some (.int x5), some (.int s0), none, none]) C dX6_copy_116 (hn 6 (by decide)) rfl ?_
    refine j_iconst (v := (0 : Int32)) C dX6_copy_118 rfl ?_
    refine j_istore (i := 7) (lv' := [some (.ref (E.2.1 0)), some (.int x1), some (.int x2), some (.int x3), some (.int x4), some (.int x5), some (.int s0), some (.int (0 : Int32)), none]) C dX6_copy_119 (hn 7 (by decide)) rfl ?_
    exact k121 FU M L x1 x2 x3 x4 x5 s0 ((0 : Int32))
  have k115 : ∀ (M : Mi) (L : Ml) (x1 : Int32) (x2 : Int32) (x3 : Int32) (x4 : Int32) (x5 : Int32), JF κ (PQ κ (Q_iw (kγ κ) E) 0 0) 115 [some (.ref (E.2.1 0)), some (.int x1), some (.int x2), some (.int x3), some (.int x4), some (.int x5), none, none, none] [] E M L 0 0 (F_X6_copy_k115  M L x1 x2 x3 x4 x5) := by
    intro M L x1 x2 x3 x4 x5
    unfold F_X6_copy_k115
    refine j_iconst (v := (0 : Int32)) C dX6_copy_115 rfl ?_
    exact k116 M L x1 x2 x3 x4 x5 ((0 : Int32))
  unfold F_X6_copy
  refine j_iload_n C dX6_copy_0 rfl rfl ?_
  refine j_callS_i (st := []) C dX6_copy_1 (ct_X6_isSheet (kγ κ) E M L x1) mi_X6_isSheet tw_1318 rfl rfl (Nat.le_of_ble_eq_true rfl) ⟨⟨rfl, rfl⟩, ⟨Nat.le_of_ble_eq_true rfl, Nat.le_of_ble_eq_true rfl⟩, ⟨Nat.zero_le _, Nat.zero_le _⟩⟩ (fun v1 => ?_)
  refine j_if_eq (tgt := 14) C dX6_copy_4 (by decide) ?_ ?_
  · refine j_bipush (v := (-2 : Int32)) C dX6_copy_14 (by decide) ?_
    exact j_iretw C dX6_copy_16
  · refine j_iload_n C dX6_copy_7 rfl rfl ?_
    refine j_callS_i (st := []) C dX6_copy_8 (ct_X6_isSheet (kγ κ) E M L x3) mi_X6_isSheet tw_1318 rfl rfl (Nat.le_of_ble_eq_true rfl) ⟨⟨rfl, rfl⟩, ⟨Nat.le_of_ble_eq_true rfl, Nat.le_of_ble_eq_true rfl⟩, ⟨Nat.zero_le _, Nat.zero_le _⟩⟩ (fun v8 => ?_)
    refine j_if_ne (tgt := 17) C dX6_copy_11 (by decide) ?_ ?_
    · refine j_aload_n C dX6_copy_17 rfl rfl ?_
      refine j_getR (j := 37) C dX6_copy_18 FC6 (MAt.S h0) (by decide) rfl (MAt.R_isThere h0) tw_840 ?_
      refine j_iload_n C dX6_copy_21 rfl rfl ?_
      refine j_zald C dX6_copy_22 (MAt.P_isThere h0) ?_
      refine j_if_eq (tgt := 35) C dX6_copy_23 (by decide) ?_ ?_
      · refine j_bipush (v := (-11 : Int32)) C dX6_copy_35 (by decide) ?_
        exact j_iretw C dX6_copy_37
      · refine j_aload_n C dX6_copy_26 rfl rfl ?_
        refine j_getR (j := 37) C dX6_copy_27 FC6 (MAt.S h0) (by decide) rfl (MAt.R_isThere h0) tw_840 ?_
        refine j_iload_n C dX6_copy_30 rfl rfl ?_
        refine j_zald C dX6_copy_31 (MAt.P_isThere h0) ?_
        refine j_if_ne (tgt := 38) C dX6_copy_32 (by decide) ?_ ?_
        · refine j_aload_n C dX6_copy_38 rfl rfl ?_
          refine j_getR (j := 38) C dX6_copy_39 FC6 (MAt.S h0) (by decide) rfl (MAt.R_sorts h0) tw_841 ?_
          refine j_iload_n C dX6_copy_42 rfl rfl ?_
          refine j_iald C dX6_copy_43 (MAt.P_sorts h0) ?_
          refine j_aload_n C dX6_copy_44 rfl rfl ?_
          refine j_getR (j := 38) C dX6_copy_45 FC6 (MAt.S h0) (by decide) rfl (MAt.R_sorts h0) tw_841 ?_
          refine j_iload_n C dX6_copy_48 rfl rfl ?_
          refine j_pc (pc2 := 49) rfl ?_
          refine j_iald C dX6_copy_49 (MAt.P_sorts h0) ?_
          refine j_icmp_eq (tgt := 56) C dX6_copy_50 (by decide) ?_ ?_
          · refine j_iload C dX6_copy_56 rfl ?_
            refine j_if_lt (tgt := 97) C dX6_copy_58 (by decide) ?_ ?_
            · refine j_bipush (v := (-12 : Int32)) C dX6_copy_97 (by decide) ?_
              exact j_iretw C dX6_copy_99
            · refine j_iload_n C dX6_copy_61 rfl rfl ?_
              refine j_if_lt (tgt := 97) C dX6_copy_62 (by decide) ?_ ?_
              · refine j_bipush (v := (-12 : Int32)) C dX6_copy_97 (by decide) ?_
                exact j_iretw C dX6_copy_99
              · refine j_iload C dX6_copy_65 rfl ?_
                refine j_if_lt (tgt := 97) C dX6_copy_67 (by decide) ?_ ?_
                · refine j_bipush (v := (-12 : Int32)) C dX6_copy_97 (by decide) ?_
                  exact j_iretw C dX6_copy_99
                · refine j_iload_n C dX6_copy_70 rfl rfl ?_
                  refine j_aload_n C dX6_copy_71 rfl rfl ?_
                  refine j_getR (j := 39) C dX6_copy_72 FC6 (MAt.S h0) (by decide) rfl (MAt.R_sheetSize h0) tw_842 ?_
                  refine j_iload_n C dX6_copy_75 rfl rfl ?_
                  refine j_iald C dX6_copy_76 (MAt.P_sheetSize h0) ?_
                  refine j_iload C dX6_copy_77 rfl ?_
                  refine j_isub C dX6_copy_79 ?_
                  refine j_pc (pc2 := 80) rfl ?_
                  refine j_icmp_gt (tgt := 97) C dX6_copy_80 (by decide) ?_ ?_
                  · refine j_bipush (v := (-12 : Int32)) C dX6_copy_97 (by decide) ?_
                    exact j_iretw C dX6_copy_99
                  · refine j_iload C dX6_copy_83 rfl ?_
                    refine j_aload_n C dX6_copy_85 rfl rfl ?_
                    refine j_getR (j := 39) C dX6_copy_86 FC6 (MAt.S h0) (by decide) rfl (MAt.R_sheetSize h0) tw_842 ?_
                    refine j_iload_n C dX6_copy_89 rfl rfl ?_
                    refine j_iald C dX6_copy_90 (MAt.P_sheetSize h0) ?_
                    refine j_iload C dX6_copy_91 rfl ?_
                    refine j_isub C dX6_copy_93 ?_
                    refine j_pc (pc2 := 94) rfl ?_
                    refine j_icmp_le (tgt := 100) C dX6_copy_94 (by decide) ?_ ?_
                    · refine j_iload_n C dX6_copy_100 rfl rfl ?_
                      refine j_iload_n C dX6_copy_101 rfl rfl ?_
                      refine j_icmp_ne (tgt := 115) C dX6_copy_102 (by decide) ?_ ?_
                      · exact k115 M L x1 x2 x3 x4 x5
                      · refine j_iload_n C dX6_copy_105 rfl rfl ?_
                        refine j_iload C dX6_copy_106 rfl ?_
                        refine j_icmp_ge (tgt := 115) C dX6_copy_108 (by decide) ?_ ?_
                        · exact k115 M L x1 x2 x3 x4 x5
                        · refine j_iconst (v := (1 : Int32)) C dX6_copy_111 rfl ?_
                          refine j_goto (tgt := 116) C dX6_copy_112 (by decide) ?_
                          exact k116 M L x1 x2 x3 x4 x5 ((1 : Int32))
                    · refine j_bipush (v := (-12 : Int32)) C dX6_copy_97 (by decide) ?_
                      exact j_iretw C dX6_copy_99
          · refine j_bipush (v := (-13 : Int32)) C dX6_copy_53 (by decide) ?_
            exact j_iretw C dX6_copy_55
        · refine j_bipush (v := (-11 : Int32)) C dX6_copy_35 (by decide) ?_
          exact j_iretw C dX6_copy_37
    · refine j_bipush (v := (-2 : Int32)) C dX6_copy_14 (by decide) ?_
      exact j_iretw C dX6_copy_16
set_option maxRecDepth 100000 in
set_option maxHeartbeats 4000000 in
theorem ct_X6_suits (γ : Gm) (E : Ev) (M : Mi) (L : Ml)  (x1 : Int32) (x2 : Int32) (x3 : Int32) (x4 : Int32) (h0 : MAt E) : Ct γ yX6_suits cX6_suits 8 (some .int) ⟨3, 0, 0, 68⟩ [.ref (E.2.1 0), .int x1, .int x2, .int x3, .int x4] E M L (Q_iw γ E) 0 0 (F_X6_suits M L x1 x2 x3 x4) := by
  refine ct_of (own := RX6) (lv := [some (.ref (E.2.1 0)), some (.int x1), some (.int x2), some (.int x3), some (.int x4), none, none, none]) (by decide +kernel) rfl rfl (Nat.le_of_ble_eq_true rfl) (fun κ C hγ hN => ?_)
  subst hγ
  have hn : ∀ i, i < 8 → i < knL κ := fun i h => by rw [hN]; exact h
  have k158 : ∀ (kf75 : Mi → Ml → Int32 → Int32 → Int32 → Int32 → Int32 → Option (Int32 × Mi × Ml)), (∀ (M : Mi) (L : Ml) (x1 : Int32) (x3 : Int32) (x4 : Int32) (x5 : Int32) (x6 : Int32), JF κ (PQ κ (Q_iw (kγ κ) E) 0 0) 75 [some (.ref (E.2.1 0)), some (.int x1), none, some (.int x3), some (.int x4), some (.int x5), some (.int x6), none] [] E M L 0 0 (kf75 M L x1 x3 x4 x5 x6)) → ∀ (M : Mi) (L : Ml) (x1 : Int32) (x3 : Int32) (x4 : Int32) (x6 : Int32) (s0 : Int32) (s1 : Int32), JF κ (PQ κ (Q_iw (kγ κ) E) 0 0) 158 [some (.ref (E.2.1 0)), some (.int x1), none, some (.int x3), some (.int x4), none, some (.int x6), none] [.int s1, .int s0] E M L 0 0 (F_X6_suits_k158 kf75 M L x1 x3 x4 x6 s0 s1) := by
    intro kf75 hkf75 M L x1 x3 x4 x6 s0 s1
    unfold F_X6_suits_k158
    refine j_iadd C dX6_suits_158 ?_
    refine j_istore (i := 5) (lv' := [some (.ref (E.2.1 0)), some (.int x1), none, some (.int x3), some (.int x4), some (.int (s0 + s1)), some (.int x6), none]) C dX6_suits_159 (hn 5 (by decide)) rfl ?_
    refine j_iinc (i := 6) (v := (x6 + (1 : Int32))) (lv' := [some (.ref (E.2.1 0)), some (.int x1), none, some (.int x3), some (.int x4), some (.int (s0 + s1)), some (.int (x6 + (1 : Int32))), none]) C dX6_suits_161 rfl rfl (hn 6 (by decide)) rfl ?_
    refine j_goto (tgt := 75) C dX6_suits_164 (by decide) ?_
    exact hkf75 M L x1 x3 x4 ((s0 + s1)) ((x6 + (1 : Int32)))
  have k75 : ∀ (n : Nat) (M : Mi) (L : Ml) (x1 : Int32) (x3 : Int32) (x4 : Int32) (x5 : Int32) (x6 : Int32), JF κ (PQ κ (Q_iw (kγ κ) E) 0 0) 75 [some (.ref (E.2.1 0)), some (.int x1), none, some (.int x3), some (.int x4), some (.int x5), some (.int x6), none] [] E M L 0 0 (F_X6_suits_k75  n M L x1 x3 x4 x5 x6) := by
    intro n
    induction n with
    | zero => intros; exact jf_none
    | succ n ih =>
      intro M L x1 x3 x4 x5 x6
      unfold F_X6_suits_k75
      refine j_iload C dX6_suits_75 rfl ?_
      refine j_iload C dX6_suits_77 rfl ?_
      refine j_icmp_ge (tgt := 167) C dX6_suits_79 (by decide) ?_ ?_
      · refine j_iload C dX6_suits_167 rfl ?_
        exact j_iretw C dX6_suits_169
      · refine j_iload_n C dX6_suits_82 rfl rfl ?_
        refine j_if_lt (tgt := 103) C dX6_suits_83 (by decide) ?_ ?_
        · refine j_bipush (v := (-12 : Int32)) C dX6_suits_103 (by decide) ?_
          exact j_iretw C dX6_suits_105
        · refine j_iload_n C dX6_suits_86 rfl rfl ?_
          refine j_aload_n C dX6_suits_87 rfl rfl ?_
          refine j_getR (j := 39) C dX6_suits_88 FC6 (MAt.S h0) (by decide) rfl (MAt.R_sheetSize h0) tw_842 ?_
          refine j_iload_n C dX6_suits_91 rfl rfl ?_
          refine j_iald C dX6_suits_92 (MAt.P_sheetSize h0) ?_
          refine j_iconst (v := (3 : Int32)) C dX6_suits_93 rfl ?_
          refine j_iload C dX6_suits_94 rfl ?_
          refine j_pc (pc2 := 96) rfl ?_
          refine j_imul C dX6_suits_96 ?_
          refine j_isub C dX6_suits_97 ?_
          refine j_iconst (v := (3 : Int32)) C dX6_suits_98 rfl ?_
          refine j_isub C dX6_suits_99 ?_
          refine j_icmp_le (tgt := 106) C dX6_suits_100 (by decide) ?_ ?_
          · refine j_bipush (v := (40 : Int32)) C dX6_suits_106 (by decide) ?_
            refine j_iload_n C dX6_suits_108 rfl rfl ?_
            refine j_imul C dX6_suits_109 ?_
            refine j_iload_n C dX6_suits_110 rfl rfl ?_
            refine j_iadd C dX6_suits_111 ?_
            refine j_iconst (v := (3 : Int32)) C dX6_suits_112 rfl ?_
            refine j_iload C dX6_suits_113 rfl ?_
            refine j_pc (pc2 := 115) rfl ?_
            refine j_imul C dX6_suits_115 ?_
            refine j_iadd C dX6_suits_116 ?_
            refine j_nmi (fun z117 => ?_)
            refine j_istore (i := 7) (lv' := [some (.ref (E.2.1 0)), some (.int x1), none, some (.int x3), some (.int x4), some (.int x5), some (.int x6), some (.int z117)]) C dX6_suits_117 (hn 7 (by decide)) rfl ?_
            refine j_iload C dX6_suits_119 rfl ?_
            refine j_aload_n C dX6_suits_121 rfl rfl ?_
            refine j_aload_n C dX6_suits_122 rfl rfl ?_
            refine j_getR (j := 40) C dX6_suits_123 FC6 (MAt.S h0) (by decide) rfl (MAt.R_items h0) tw_843 ?_
            refine j_iload C dX6_suits_126 rfl ?_
            refine j_pc (pc2 := 128) rfl ?_
            refine j_iald C dX6_suits_128 (MAt.P_items h0) ?_
            refine j_aload_n C dX6_suits_129 rfl rfl ?_
            refine j_getR (j := 40) C dX6_suits_130 FC6 (MAt.S h0) (by decide) rfl (MAt.R_items h0) tw_843 ?_
            refine j_iload C dX6_suits_133 rfl ?_
            refine j_iconst (v := (1 : Int32)) C dX6_suits_135 rfl ?_
            refine j_iadd C dX6_suits_136 ?_
            refine j_iald C dX6_suits_137 (MAt.P_items h0) ?_
            refine j_aload_n C dX6_suits_138 rfl rfl ?_
            refine j_pc (pc2 := 139) rfl ?_
            refine j_getR (j := 40) C dX6_suits_139 FC6 (MAt.S h0) (by decide) rfl (MAt.R_items h0) tw_843 ?_
            refine j_iload C dX6_suits_142 rfl ?_
            refine j_iconst (v := (2 : Int32)) C dX6_suits_144 rfl ?_
            refine j_iadd C dX6_suits_145 ?_
            refine j_iald C dX6_suits_146 (MAt.P_items h0) ?_
            refine j_callV_iw (st := [.int x5]) C dX6_suits_147 (ct_X6_party (kγ κ) E M L (M 10 (Int32.toNatClampNeg z117)) (M 10 (Int32.toNatClampNeg (z117 + (1 : Int32)))) (M 10 (Int32.toNatClampNeg (z117 + (2 : Int32)))) h0) mi_X6_party tw_1380 FC6 (MAt.S h0) rfl rfl (Nat.le_of_ble_eq_true rfl) ⟨⟨rfl, rfl⟩, ⟨Nat.le_of_ble_eq_true rfl, Nat.le_of_ble_eq_true rfl⟩, ⟨Nat.zero_le _, Nat.zero_le _⟩⟩ (fun r147 => ?_)
            refine j_if_lt (tgt := 157) C dX6_suits_150 (by decide) ?_ ?_
            · refine j_iconst (v := (0 : Int32)) C dX6_suits_157 rfl ?_
              refine j_mask [true, true, false, true, true, false, true, false] (lv' := [some (.ref (E.2.1 0)), some (.int x1), none, some (.int x3), some (.int x4), none, some (.int x6), none]) rfl ?_
              exact k158 (F_X6_suits_k75  n) ih r147.2.1 r147.2.2 x1 x3 x4 x6 x5 ((0 : Int32))
            · refine j_iconst (v := (1 : Int32)) C dX6_suits_153 rfl ?_
              refine j_goto (tgt := 158) C dX6_suits_154 (by decide) ?_
              refine j_mask [true, true, false, true, true, false, true, false] (lv' := [some (.ref (E.2.1 0)), some (.int x1), none, some (.int x3), some (.int x4), none, some (.int x6), none]) rfl ?_
              exact k158 (F_X6_suits_k75  n) ih r147.2.1 r147.2.2 x1 x3 x4 x6 x5 ((1 : Int32))
          · refine j_bipush (v := (-12 : Int32)) C dX6_suits_103 (by decide) ?_
            exact j_iretw C dX6_suits_105
  have k57 : ∀ (M : Mi) (L : Ml) (x1 : Int32) (x3 : Int32) (x4 : Int32), JF κ (PQ κ (Q_iw (kγ κ) E) 0 0) 57 [some (.ref (E.2.1 0)), some (.int x1), none, some (.int x3), some (.int x4), none, none, none] [] E M L 0 0 (F_X6_suits_k57  M L x1 x3 x4) := by
    intro M L x1 x3 x4
    unfold F_X6_suits_k57
    refine j_aload_n C dX6_suits_57 rfl rfl ?_
    refine j_getR (j := 37) C dX6_suits_58 FC6 (MAt.S h0) (by decide) rfl (MAt.R_isThere h0) tw_840 ?_
    refine j_iload_n C dX6_suits_61 rfl rfl ?_
    refine j_zald C dX6_suits_62 (MAt.P_isThere h0) ?_
    refine j_if_ne (tgt := 69) C dX6_suits_63 (by decide) ?_ ?_
    · refine j_iconst (v := (0 : Int32)) C dX6_suits_69 rfl ?_
      refine j_istore (i := 5) (lv' := [some (.ref (E.2.1 0)), some (.int x1), none, some (.int x3), some (.int x4), some (.int (0 : Int32)), none, none]) C dX6_suits_70 (hn 5 (by decide)) rfl ?_
      refine j_iconst (v := (0 : Int32)) C dX6_suits_72 rfl ?_
      refine j_istore (i := 6) (lv' := [some (.ref (E.2.1 0)), some (.int x1), none, some (.int x3), some (.int x4), some (.int (0 : Int32)), some (.int (0 : Int32)), none]) C dX6_suits_73 (hn 6 (by decide)) rfl ?_
      exact k75 FU M L x1 x3 x4 ((0 : Int32)) ((0 : Int32))
    · refine j_bipush (v := (-11 : Int32)) C dX6_suits_66 (by decide) ?_
      exact j_iretw C dX6_suits_68
  unfold F_X6_suits
  refine j_iload_n C dX6_suits_0 rfl rfl ?_
  refine j_callS_i (st := []) C dX6_suits_1 (ct_X6_isSheet (kγ κ) E M L x1) mi_X6_isSheet tw_1318 rfl rfl (Nat.le_of_ble_eq_true rfl) ⟨⟨rfl, rfl⟩, ⟨Nat.le_of_ble_eq_true rfl, Nat.le_of_ble_eq_true rfl⟩, ⟨Nat.zero_le _, Nat.zero_le _⟩⟩ (fun v1 => ?_)
  refine j_if_eq (tgt := 32) C dX6_suits_4 (by decide) ?_ ?_
  · refine j_bipush (v := (-2 : Int32)) C dX6_suits_32 (by decide) ?_
    exact j_iretw C dX6_suits_34
  · refine j_iload_n C dX6_suits_7 rfl rfl ?_
    refine j_i2l C dX6_suits_8 ?_
    refine j_lconst (v := (0 : Int64)) C dX6_suits_9 rfl ?_
    refine j_ldc2 (v := (2 : Int64)) C dX6_suits_10 tw_1202 ?_
    refine j_callS_i (st := []) C dX6_suits_13 (ct_X6_in (kγ κ) E M L (Int32.toInt64 x2) (0 : Int64) (2 : Int64)) mi_X6_in tw_933 rfl rfl (Nat.le_of_ble_eq_true rfl) ⟨⟨rfl, rfl⟩, ⟨Nat.le_of_ble_eq_true rfl, Nat.le_of_ble_eq_true rfl⟩, ⟨Nat.zero_le _, Nat.zero_le _⟩⟩ (fun v13 => ?_)
    refine j_if_eq (tgt := 32) C dX6_suits_16 (by decide) ?_ ?_
    · refine j_bipush (v := (-2 : Int32)) C dX6_suits_32 (by decide) ?_
      exact j_iretw C dX6_suits_34
    · refine j_iload C dX6_suits_19 rfl ?_
      refine j_i2l C dX6_suits_21 ?_
      refine j_lconst (v := (0 : Int64)) C dX6_suits_22 rfl ?_
      refine j_ldc2 (v := (5 : Int64)) C dX6_suits_23 tw_932 ?_
      refine j_callS_i (st := []) C dX6_suits_26 (ct_X6_in (kγ κ) E M L (Int32.toInt64 x4) (0 : Int64) (5 : Int64)) mi_X6_in tw_933 rfl rfl (Nat.le_of_ble_eq_true rfl) ⟨⟨rfl, rfl⟩, ⟨Nat.le_of_ble_eq_true rfl, Nat.le_of_ble_eq_true rfl⟩, ⟨Nat.zero_le _, Nat.zero_le _⟩⟩ (fun v26 => ?_)
      refine j_if_ne (tgt := 35) C dX6_suits_29 (by decide) ?_ ?_
      · refine j_aload_n C dX6_suits_35 rfl rfl ?_
        refine j_getR (j := 37) C dX6_suits_36 FC6 (MAt.S h0) (by decide) rfl (MAt.R_isThere h0) tw_840 ?_
        refine j_iload_n C dX6_suits_39 rfl rfl ?_
        refine j_zald C dX6_suits_40 (MAt.P_isThere h0) ?_
        refine j_if_eq (tgt := 57) C dX6_suits_41 (by decide) ?_ ?_
        · refine j_mask [true, true, false, true, true, false, false, false] (lv' := [some (.ref (E.2.1 0)), some (.int x1), none, some (.int x3), some (.int x4), none, none, none]) rfl ?_
          exact k57 M L x1 x3 x4
        · refine j_aload_n C dX6_suits_44 rfl rfl ?_
          refine j_getR (j := 38) C dX6_suits_45 FC6 (MAt.S h0) (by decide) rfl (MAt.R_sorts h0) tw_841 ?_
          refine j_iload_n C dX6_suits_48 rfl rfl ?_
          refine j_iald C dX6_suits_49 (MAt.P_sorts h0) ?_
          refine j_iload_n C dX6_suits_50 rfl rfl ?_
          refine j_icmp_eq (tgt := 57) C dX6_suits_51 (by decide) ?_ ?_
          · refine j_mask [true, true, false, true, true, false, false, false] (lv' := [some (.ref (E.2.1 0)), some (.int x1), none, some (.int x3), some (.int x4), none, none, none]) rfl ?_
            exact k57 M L x1 x3 x4
          · refine j_bipush (v := (-13 : Int32)) C dX6_suits_54 (by decide) ?_
            exact j_iretw C dX6_suits_56
      · refine j_bipush (v := (-2 : Int32)) C dX6_suits_32 (by decide) ?_
        exact j_iretw C dX6_suits_34
set_option maxRecDepth 100000 in
set_option maxHeartbeats 4000000 in
theorem ct_X6_over (γ : Gm) (E : Ev) (M : Mi) (L : Ml)  (x0 : Int32)  : Ct γ yX6_over cX6_over 1 (some .int) ⟨0, 0, 0, 0⟩ [.int x0] E M L (Q_i γ E M L) 0 0 (F_X6_over x0) := by
  refine ct_of (own := RX6) (lv := [some (.int x0)]) (by decide +kernel) rfl rfl (Nat.le_of_ble_eq_true rfl) (fun κ C hγ hN => ?_)
  subst hγ
  have hn : ∀ i, i < 1 → i < knL κ := fun i h => by rw [hN]; exact h
  unfold F_X6_over
  refine j_iload_n C dX6_over_0 rfl rfl ?_
  refine j_if_ne (tgt := 8) C dX6_over_1 (by decide) ?_ ?_
  · refine j_iload_n C dX6_over_8 rfl rfl ?_
    refine j_iconst (v := (3 : Int32)) C dX6_over_9 rfl ?_
    refine j_icmp_ne (tgt := 17) C dX6_over_10 (by decide) ?_ ?_
    · refine j_iload_n C dX6_over_17 rfl rfl ?_
      refine j_iconst (v := (4 : Int32)) C dX6_over_18 rfl ?_
      refine j_icmp_ne (tgt := 26) C dX6_over_19 (by decide) ?_ ?_
      · refine j_iconst (v := (0 : Int32)) C dX6_over_26 rfl ?_
        exact j_iret C dX6_over_27
      · refine j_iconst (v := (2 : Int32)) C dX6_over_22 rfl ?_
        refine j_goto (tgt := 27) C dX6_over_23 (by decide) ?_
        exact j_iret C dX6_over_27
    · refine j_iconst (v := (1 : Int32)) C dX6_over_13 rfl ?_
      refine j_goto (tgt := 27) C dX6_over_14 (by decide) ?_
      exact j_iret C dX6_over_27
  · refine j_iconst (v := (-1 : Int32)) C dX6_over_4 rfl ?_
    refine j_goto (tgt := 27) C dX6_over_5 (by decide) ?_
    exact j_iret C dX6_over_27
set_option maxRecDepth 100000 in
set_option maxHeartbeats 4000000 in
theorem ct_X6_taken (γ : Gm) (E : Ev) (M : Mi) (L : Ml)  (x1 : Int32) (x2 : Int32) (h0 : MAt E) : Ct γ yX6_taken cX6_taken 4 (some .int) ⟨2, 0, 0, 46⟩ [.ref (E.2.1 0), .int x1, .int x2] E M L (Q_i γ E M L) 0 0 (F_X6_taken M L x1 x2) := by
  refine ct_of (own := RX6) (lv := [some (.ref (E.2.1 0)), some (.int x1), some (.int x2), none]) (by decide +kernel) rfl rfl (Nat.le_of_ble_eq_true rfl) (fun κ C hγ hN => ?_)
  subst hγ
  have hn : ∀ i, i < 4 → i < knL κ := fun i h => by rw [hN]; exact h
  have k55 : ∀ (x1 : Int32) (x2 : Int32) (x3 : Int32), JF κ (PQ κ (Q_i (kγ κ) E M L) 0 0) 55 [some (.ref (E.2.1 0)), some (.int x1), some (.int x2), some (.int x3)] [] E M L 0 0 (F_X6_taken_k55 M L x1 x2 x3) := by
    intro x1 x2 x3
    unfold F_X6_taken_k55
    refine j_iload_n C dX6_taken_55 rfl rfl ?_
    refine j_iload_n C dX6_taken_56 rfl rfl ?_
    refine j_icmp_ne (tgt := 71) C dX6_taken_57 (by decide) ?_ ?_
    · refine j_bipush (v := (-13 : Int32)) C dX6_taken_71 (by decide) ?_
      exact j_iret C dX6_taken_73
    · refine j_aload_n C dX6_taken_60 rfl rfl ?_
      refine j_getR (j := 10) C dX6_taken_61 FC6 (MAt.S h0) (by decide) rfl (MAt.R_rows h0) tw_813 ?_
      refine j_iconst (v := (4 : Int32)) C dX6_taken_64 rfl ?_
      refine j_iload_n C dX6_taken_65 rfl rfl ?_
      refine j_imul C dX6_taken_66 ?_
      refine j_iald C dX6_taken_67 (MAt.P_rows h0) ?_
      refine j_goto (tgt := 73) C dX6_taken_68 (by decide) ?_
      exact j_iret C dX6_taken_73
  have k37 : ∀ (n : Nat) (x1 : Int32) (x2 : Int32) (x3 : Int32), JF κ (PQ κ (Q_i (kγ κ) E M L) 0 0) 37 [some (.ref (E.2.1 0)), some (.int x1), some (.int x2), some (.int x3)] [] E M L 0 0 (F_X6_taken_k37 M L n x1 x2 x3) := by
    intro n
    induction n with
    | zero => intros; exact jf_none
    | succ n ih =>
      intro x1 x2 x3
      unfold F_X6_taken_k37
      refine j_iload_n C dX6_taken_37 rfl rfl ?_
      refine j_iconst (v := (-1 : Int32)) C dX6_taken_38 rfl ?_
      refine j_icmp_eq (tgt := 55) C dX6_taken_39 (by decide) ?_ ?_
      · exact k55 x1 x2 x3
      · refine j_iload_n C dX6_taken_42 rfl rfl ?_
        refine j_iload_n C dX6_taken_43 rfl rfl ?_
        refine j_icmp_eq (tgt := 55) C dX6_taken_44 (by decide) ?_ ?_
        · exact k55 x1 x2 x3
        · refine j_iload_n C dX6_taken_47 rfl rfl ?_
          refine j_callS_i (st := []) C dX6_taken_48 (ct_X6_over (kγ κ) E M L x3) mi_X6_over tw_1385 rfl rfl (Nat.le_of_ble_eq_true rfl) ⟨⟨rfl, rfl⟩, ⟨Nat.le_of_ble_eq_true rfl, Nat.le_of_ble_eq_true rfl⟩, ⟨Nat.zero_le _, Nat.zero_le _⟩⟩ (fun v48 => ?_)
          refine j_istore_n (i := 3) (lv' := [some (.ref (E.2.1 0)), some (.int x1), some (.int x2), some (.int v48)]) C dX6_taken_51 rfl (hn 3 (by decide)) rfl ?_
          refine j_goto (tgt := 37) C dX6_taken_52 (by decide) ?_
          exact ih x1 x2 v48
  unfold F_X6_taken
  refine j_iload_n C dX6_taken_0 rfl rfl ?_
  refine j_i2l C dX6_taken_1 ?_
  refine j_lconst (v := (0 : Int64)) C dX6_taken_2 rfl ?_
  refine j_ldc2 (v := (5 : Int64)) C dX6_taken_3 tw_932 ?_
  refine j_callS_i (st := []) C dX6_taken_6 (ct_X6_in (kγ κ) E M L (Int32.toInt64 x2) (0 : Int64) (5 : Int64)) mi_X6_in tw_933 rfl rfl (Nat.le_of_ble_eq_true rfl) ⟨⟨rfl, rfl⟩, ⟨Nat.le_of_ble_eq_true rfl, Nat.le_of_ble_eq_true rfl⟩, ⟨Nat.zero_le _, Nat.zero_le _⟩⟩ (fun v6 => ?_)
  refine j_if_ne (tgt := 15) C dX6_taken_9 (by decide) ?_ ?_
  · refine j_aload_n C dX6_taken_15 rfl rfl ?_
    refine j_iload_n C dX6_taken_16 rfl rfl ?_
    refine j_callV_i (st := []) C dX6_taken_17 (ct_X6_isOne (kγ κ) E M L x1 h0) mi_X6_isOne tw_944 FC6 (MAt.S h0) rfl rfl (Nat.le_of_ble_eq_true rfl) ⟨⟨rfl, rfl⟩, ⟨Nat.le_of_ble_eq_true rfl, Nat.le_of_ble_eq_true rfl⟩, ⟨Nat.zero_le _, Nat.zero_le _⟩⟩ (fun v17 => ?_)
    refine j_if_ne (tgt := 26) C dX6_taken_20 (by decide) ?_ ?_
    · refine j_aload_n C dX6_taken_26 rfl rfl ?_
      refine j_getR (j := 10) C dX6_taken_27 FC6 (MAt.S h0) (by decide) rfl (MAt.R_rows h0) tw_813 ?_
      refine j_iconst (v := (4 : Int32)) C dX6_taken_30 rfl ?_
      refine j_iload_n C dX6_taken_31 rfl rfl ?_
      refine j_imul C dX6_taken_32 ?_
      refine j_iconst (v := (3 : Int32)) C dX6_taken_33 rfl ?_
      refine j_iadd C dX6_taken_34 ?_
      refine j_pc (pc2 := 35) rfl ?_
      refine j_iald C dX6_taken_35 (MAt.P_rows h0) ?_
      refine j_nmi (fun z36 => ?_)
      refine j_istore_n (i := 3) (lv' := [some (.ref (E.2.1 0)), some (.int x1), some (.int x2), some (.int z36)]) C dX6_taken_36 rfl (hn 3 (by decide)) rfl ?_
      exact k37 FU x1 x2 z36
    · refine j_bipush (v := (-11 : Int32)) C dX6_taken_23 (by decide) ?_
      exact j_iret C dX6_taken_25
  · refine j_bipush (v := (-2 : Int32)) C dX6_taken_12 (by decide) ?_
    exact j_iret C dX6_taken_14
