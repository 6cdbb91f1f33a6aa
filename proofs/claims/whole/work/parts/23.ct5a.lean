set_option maxRecDepth 100000 in
set_option maxHeartbeats 4000000 in
theorem ct_X5_isParty (γ : Gm) (E : Ev) (M : Mi) (L : Ml)  (x1 : Int32) (h0 : XAt E) : Ct γ yX5_isParty cX5_isParty 2 (some .boolean) ⟨1, 0, 0, 21⟩ [.ref (E.2.1 0), .int x1] E M L (Q_i γ E M L) 0 0 (F_X5_isParty M L x1) := by
  refine ct_of (own := RX5) (lv := [some (.ref (E.2.1 0)), some (.int x1)]) (by decide +kernel) rfl rfl (Nat.le_of_ble_eq_true rfl) (fun κ C hγ hN => ?_)
  subst hγ
  have hn : ∀ i, i < 2 → i < knL κ := fun i h => by rw [hN]; exact h
  unfold F_X5_isParty
  refine j_iload_n C dX5_isParty_0 rfl rfl ?_
  refine j_aload_n C dX5_isParty_1 rfl rfl ?_
  refine j_getR (j := 0) C dX5_isParty_2 FC5 (XAt.S h0) (by decide) rfl (XAt.R_now h0) tw_426 ?_
  refine j_getI (j := 3) C dX5_isParty_5 FC0 (FAt.S (XAt.P_now h0)) (by decide) rfl tw_139 ?_
  refine j_iconst (v := (1 : Int32)) C dX5_isParty_8 rfl ?_
  refine j_isub C dX5_isParty_9 ?_
  refine j_callS_i (st := []) C dX5_isParty_10 (ct_X5_isWithin (kγ κ) E M L x1 ((M 1 3) - (1 : Int32))) mi_X5_isWithin tw_459 rfl rfl (Nat.le_of_ble_eq_true rfl) ⟨⟨rfl, rfl⟩, ⟨Nat.le_of_ble_eq_true rfl, Nat.le_of_ble_eq_true rfl⟩, ⟨Nat.zero_le _, Nat.zero_le _⟩⟩ (fun v10 => ?_)
  refine j_pc (pc2 := 13) rfl ?_
  exact j_zret C dX5_isParty_13
set_option maxRecDepth 100000 in
set_option maxHeartbeats 4000000 in
theorem ct_X5_canSet (γ : Gm) (E : Ev) (M : Mi) (L : Ml)  (x1 : Int32) (x2 : Int32) (x3 : Int32) (h0 : XAt E) : Ct γ yX5_canSet cX5_canSet 4 (some .boolean) ⟨2, 0, 0, 43⟩ [.ref (E.2.1 0), .int x1, .int x2, .int x3] E M L (Q_i γ E M L) 0 0 (F_X5_canSet M L x1 x2 x3) := by
  refine ct_of (own := RX5) (lv := [some (.ref (E.2.1 0)), some (.int x1), some (.int x2), some (.int x3)]) (by decide +kernel) rfl rfl (Nat.le_of_ble_eq_true rfl) (fun κ C hγ hN => ?_)
  subst hγ
  have hn : ∀ i, i < 4 → i < knL κ := fun i h => by rw [hN]; exact h
  unfold F_X5_canSet
  refine j_iload_n C dX5_canSet_0 rfl rfl ?_
  refine j_ite (fun h1_0 => ?_) (fun h1_0 => ?_)
  · refine j_tswHit (c := (0 : Int32)) (off := 39) (tgt := 40) C dX5_canSet_1 h1_0 (by decide) (by decide) (by decide) (by decide) ?_
    refine j_iload_n C dX5_canSet_40 rfl rfl ?_
    refine j_sipush (v := (999 : Int32)) C dX5_canSet_41 (by decide) ?_
    refine j_callS_i (st := []) C dX5_canSet_44 (ct_X5_isWithin (kγ κ) E M L x3 (999 : Int32)) mi_X5_isWithin tw_459 rfl rfl (Nat.le_of_ble_eq_true rfl) ⟨⟨rfl, rfl⟩, ⟨Nat.le_of_ble_eq_true rfl, Nat.le_of_ble_eq_true rfl⟩, ⟨Nat.zero_le _, Nat.zero_le _⟩⟩ (fun v44 => ?_)
    exact j_zret C dX5_canSet_47
  · skip
    refine j_ite (fun h1_1 => ?_) (fun h1_1 => ?_)
    · refine j_tswHit (c := (1 : Int32)) (off := 47) (tgt := 48) C dX5_canSet_1 h1_1 (by decide) (by decide) (by decide) (by decide) ?_
      refine j_iload_n C dX5_canSet_48 rfl rfl ?_
      refine j_callS_i (st := []) C dX5_canSet_49 (ct_X5_isTile (kγ κ) E M L x2) mi_X5_isTile tw_462 rfl rfl (Nat.le_of_ble_eq_true rfl) ⟨⟨rfl, rfl⟩, ⟨Nat.le_of_ble_eq_true rfl, Nat.le_of_ble_eq_true rfl⟩, ⟨Nat.zero_le _, Nat.zero_le _⟩⟩ (fun v49 => ?_)
      refine j_if_eq (tgt := 67) C dX5_canSet_52 (by decide) ?_ ?_
      · refine j_iconst (v := (0 : Int32)) C dX5_canSet_67 rfl ?_
        exact j_zret C dX5_canSet_68
      · refine j_iload_n C dX5_canSet_55 rfl rfl ?_
        refine j_iconst (v := (1 : Int32)) C dX5_canSet_56 rfl ?_
        refine j_callS_i (st := []) C dX5_canSet_57 (ct_X5_isWithin (kγ κ) E M L x3 (1 : Int32)) mi_X5_isWithin tw_459 rfl rfl (Nat.le_of_ble_eq_true rfl) ⟨⟨rfl, rfl⟩, ⟨Nat.le_of_ble_eq_true rfl, Nat.le_of_ble_eq_true rfl⟩, ⟨Nat.zero_le _, Nat.zero_le _⟩⟩ (fun v57 => ?_)
        refine j_if_eq (tgt := 67) C dX5_canSet_60 (by decide) ?_ ?_
        · refine j_iconst (v := (0 : Int32)) C dX5_canSet_67 rfl ?_
          exact j_zret C dX5_canSet_68
        · refine j_iconst (v := (1 : Int32)) C dX5_canSet_63 rfl ?_
          refine j_goto (tgt := 68) C dX5_canSet_64 (by decide) ?_
          exact j_zret C dX5_canSet_68
    · skip
      refine j_ite (fun h1_2 => ?_) (fun h1_2 => ?_)
      · refine j_tswHit (c := (2 : Int32)) (off := 68) (tgt := 69) C dX5_canSet_1 h1_2 (by decide) (by decide) (by decide) (by decide) ?_
        refine j_iload_n C dX5_canSet_69 rfl rfl ?_
        refine j_callS_i (st := []) C dX5_canSet_70 (ct_X5_isTile (kγ κ) E M L x2) mi_X5_isTile tw_462 rfl rfl (Nat.le_of_ble_eq_true rfl) ⟨⟨rfl, rfl⟩, ⟨Nat.le_of_ble_eq_true rfl, Nat.le_of_ble_eq_true rfl⟩, ⟨Nat.zero_le _, Nat.zero_le _⟩⟩ (fun v70 => ?_)
        refine j_if_eq (tgt := 99) C dX5_canSet_73 (by decide) ?_ ?_
        · refine j_iconst (v := (0 : Int32)) C dX5_canSet_99 rfl ?_
          exact j_zret C dX5_canSet_100
        · refine j_iload_n C dX5_canSet_76 rfl rfl ?_
          refine j_iconst (v := (1 : Int32)) C dX5_canSet_77 rfl ?_
          refine j_callS_i (st := []) C dX5_canSet_78 (ct_X5_isWithin (kγ κ) E M L x3 (1 : Int32)) mi_X5_isWithin tw_459 rfl rfl (Nat.le_of_ble_eq_true rfl) ⟨⟨rfl, rfl⟩, ⟨Nat.le_of_ble_eq_true rfl, Nat.le_of_ble_eq_true rfl⟩, ⟨Nat.zero_le _, Nat.zero_le _⟩⟩ (fun v78 => ?_)
          refine j_if_eq (tgt := 99) C dX5_canSet_81 (by decide) ?_ ?_
          · refine j_iconst (v := (0 : Int32)) C dX5_canSet_99 rfl ?_
            exact j_zret C dX5_canSet_100
          · refine j_aload_n C dX5_canSet_84 rfl rfl ?_
            refine j_getR (j := 0) C dX5_canSet_85 FC5 (XAt.S h0) (by decide) rfl (XAt.R_now h0) tw_426 ?_
            refine j_iload_n C dX5_canSet_88 rfl rfl ?_
            refine j_callV_i (st := []) C dX5_canSet_89 (ct_X0_whoIsOn (kγ κ) E M L 1 x2 (XAt.P_now h0)) mi_X0_whoIsOn tw_465 FC0 (FAt.S (XAt.P_now h0)) rfl rfl (Nat.le_of_ble_eq_true rfl) ⟨⟨rfl, rfl⟩, ⟨Nat.le_of_ble_eq_true rfl, Nat.le_of_ble_eq_true rfl⟩, ⟨Nat.zero_le _, Nat.zero_le _⟩⟩ (fun v89 => ?_)
            refine j_if_ne (tgt := 99) C dX5_canSet_92 (by decide) ?_ ?_
            · refine j_iconst (v := (0 : Int32)) C dX5_canSet_99 rfl ?_
              exact j_zret C dX5_canSet_100
            · refine j_iconst (v := (1 : Int32)) C dX5_canSet_95 rfl ?_
              refine j_goto (tgt := 100) C dX5_canSet_96 (by decide) ?_
              exact j_zret C dX5_canSet_100
      · skip
        refine j_ite (fun h1_3 => ?_) (fun h1_3 => ?_)
        · refine j_tswHit (c := (3 : Int32)) (off := 100) (tgt := 101) C dX5_canSet_1 h1_3 (by decide) (by decide) (by decide) (by decide) ?_
          refine j_aload_n C dX5_canSet_101 rfl rfl ?_
          refine j_iload_n C dX5_canSet_102 rfl rfl ?_
          refine j_callV_i (st := []) C dX5_canSet_103 (ct_X5_isParty (kγ κ) E M L x2 h0) mi_X5_isParty tw_469 FC5 (XAt.S h0) rfl rfl (Nat.le_of_ble_eq_true rfl) ⟨⟨rfl, rfl⟩, ⟨Nat.le_of_ble_eq_true rfl, Nat.le_of_ble_eq_true rfl⟩, ⟨Nat.zero_le _, Nat.zero_le _⟩⟩ (fun v103 => ?_)
          refine j_if_eq (tgt := 122) C dX5_canSet_106 (by decide) ?_ ?_
          · refine j_iconst (v := (0 : Int32)) C dX5_canSet_122 rfl ?_
            exact j_zret C dX5_canSet_123
          · refine j_iload_n C dX5_canSet_109 rfl rfl ?_
            refine j_bipush (v := (9 : Int32)) C dX5_canSet_110 (by decide) ?_
            refine j_callS_i (st := []) C dX5_canSet_112 (ct_X5_isWithin (kγ κ) E M L x3 (9 : Int32)) mi_X5_isWithin tw_459 rfl rfl (Nat.le_of_ble_eq_true rfl) ⟨⟨rfl, rfl⟩, ⟨Nat.le_of_ble_eq_true rfl, Nat.le_of_ble_eq_true rfl⟩, ⟨Nat.zero_le _, Nat.zero_le _⟩⟩ (fun v112 => ?_)
            refine j_if_eq (tgt := 122) C dX5_canSet_115 (by decide) ?_ ?_
            · refine j_iconst (v := (0 : Int32)) C dX5_canSet_122 rfl ?_
              exact j_zret C dX5_canSet_123
            · refine j_iconst (v := (1 : Int32)) C dX5_canSet_118 rfl ?_
              refine j_goto (tgt := 123) C dX5_canSet_119 (by decide) ?_
              exact j_zret C dX5_canSet_123
        · skip
          refine j_ite (fun h1_4 => ?_) (fun h1_4 => ?_)
          · refine j_tswHit (c := (4 : Int32)) (off := 123) (tgt := 124) C dX5_canSet_1 h1_4 (by decide) (by decide) (by decide) (by decide) ?_
            refine j_aload_n C dX5_canSet_124 rfl rfl ?_
            refine j_iload_n C dX5_canSet_125 rfl rfl ?_
            refine j_callV_i (st := []) C dX5_canSet_126 (ct_X5_isParty (kγ κ) E M L x2 h0) mi_X5_isParty tw_469 FC5 (XAt.S h0) rfl rfl (Nat.le_of_ble_eq_true rfl) ⟨⟨rfl, rfl⟩, ⟨Nat.le_of_ble_eq_true rfl, Nat.le_of_ble_eq_true rfl⟩, ⟨Nat.zero_le _, Nat.zero_le _⟩⟩ (fun v126 => ?_)
            refine j_if_eq (tgt := 154) C dX5_canSet_129 (by decide) ?_ ?_
            · refine j_iconst (v := (0 : Int32)) C dX5_canSet_154 rfl ?_
              exact j_zret C dX5_canSet_155
            · refine j_iload_n C dX5_canSet_132 rfl rfl ?_
              refine j_callS_i (st := []) C dX5_canSet_133 (ct_X5_isTile (kγ κ) E M L x3) mi_X5_isTile tw_462 rfl rfl (Nat.le_of_ble_eq_true rfl) ⟨⟨rfl, rfl⟩, ⟨Nat.le_of_ble_eq_true rfl, Nat.le_of_ble_eq_true rfl⟩, ⟨Nat.zero_le _, Nat.zero_le _⟩⟩ (fun v133 => ?_)
              refine j_if_eq (tgt := 154) C dX5_canSet_136 (by decide) ?_ ?_
              · refine j_iconst (v := (0 : Int32)) C dX5_canSet_154 rfl ?_
                exact j_zret C dX5_canSet_155
              · refine j_aload_n C dX5_canSet_139 rfl rfl ?_
                refine j_getR (j := 0) C dX5_canSet_140 FC5 (XAt.S h0) (by decide) rfl (XAt.R_now h0) tw_426 ?_
                refine j_iload_n C dX5_canSet_143 rfl rfl ?_
                refine j_callV_i (st := []) C dX5_canSet_144 (ct_X0_isHollow (kγ κ) E M L 1 x3 (XAt.P_now h0)) mi_X0_isHollow tw_473 FC0 (FAt.S (XAt.P_now h0)) rfl rfl (Nat.le_of_ble_eq_true rfl) ⟨⟨rfl, rfl⟩, ⟨Nat.le_of_ble_eq_true rfl, Nat.le_of_ble_eq_true rfl⟩, ⟨Nat.zero_le _, Nat.zero_le _⟩⟩ (fun v144 => ?_)
                refine j_if_ne (tgt := 154) C dX5_canSet_147 (by decide) ?_ ?_
                · refine j_iconst (v := (0 : Int32)) C dX5_canSet_154 rfl ?_
                  exact j_zret C dX5_canSet_155
                · refine j_iconst (v := (1 : Int32)) C dX5_canSet_150 rfl ?_
                  refine j_goto (tgt := 155) C dX5_canSet_151 (by decide) ?_
                  exact j_zret C dX5_canSet_155
          · skip
            refine j_ite (fun h1_5 => ?_) (fun h1_5 => ?_)
            · refine j_tswHit (c := (5 : Int32)) (off := 155) (tgt := 156) C dX5_canSet_1 h1_5 (by decide) (by decide) (by decide) (by decide) ?_
              refine j_aload_n C dX5_canSet_156 rfl rfl ?_
              refine j_iload_n C dX5_canSet_157 rfl rfl ?_
              refine j_callV_i (st := []) C dX5_canSet_158 (ct_X5_isParty (kγ κ) E M L x2 h0) mi_X5_isParty tw_469 FC5 (XAt.S h0) rfl rfl (Nat.le_of_ble_eq_true rfl) ⟨⟨rfl, rfl⟩, ⟨Nat.le_of_ble_eq_true rfl, Nat.le_of_ble_eq_true rfl⟩, ⟨Nat.zero_le _, Nat.zero_le _⟩⟩ (fun v158 => ?_)
              refine j_if_eq (tgt := 177) C dX5_canSet_161 (by decide) ?_ ?_
              · refine j_iconst (v := (0 : Int32)) C dX5_canSet_177 rfl ?_
                exact j_zret C dX5_canSet_178
              · refine j_iload_n C dX5_canSet_164 rfl rfl ?_
                refine j_bipush (v := (99 : Int32)) C dX5_canSet_165 (by decide) ?_
                refine j_callS_i (st := []) C dX5_canSet_167 (ct_X5_isWithin (kγ κ) E M L x3 (99 : Int32)) mi_X5_isWithin tw_459 rfl rfl (Nat.le_of_ble_eq_true rfl) ⟨⟨rfl, rfl⟩, ⟨Nat.le_of_ble_eq_true rfl, Nat.le_of_ble_eq_true rfl⟩, ⟨Nat.zero_le _, Nat.zero_le _⟩⟩ (fun v167 => ?_)
                refine j_if_eq (tgt := 177) C dX5_canSet_170 (by decide) ?_ ?_
                · refine j_iconst (v := (0 : Int32)) C dX5_canSet_177 rfl ?_
                  exact j_zret C dX5_canSet_178
                · refine j_iconst (v := (1 : Int32)) C dX5_canSet_173 rfl ?_
                  refine j_goto (tgt := 178) C dX5_canSet_174 (by decide) ?_
                  exact j_zret C dX5_canSet_178
            · skip
              refine j_tswDef (tgt := 179) C dX5_canSet_1 (by have q0 := i_neq (0) (by decide) h1_0; have q1 := i_neq (1) (by decide) h1_1; have q2 := i_neq (2) (by decide) h1_2; have q3 := i_neq (3) (by decide) h1_3; have q4 := i_neq (4) (by decide) h1_4; have q5 := i_neq (5) (by decide) h1_5; omega) (by decide) ?_
              refine j_iconst (v := (0 : Int32)) C dX5_canSet_179 rfl ?_
              exact j_zret C dX5_canSet_180
set_option maxRecDepth 100000 in
set_option maxHeartbeats 4000000 in
theorem ct_X5_toldOfParty (γ : Gm) (E : Ev) (M : Mi) (L : Ml)  (x1 : Int32) (x2 : Int32) (h0 : XAt E) : Ct γ yX5_toldOfParty cX5_toldOfParty 3 (some .int) ⟨4, 0, 0, 93⟩ [.ref (E.2.1 0), .int x1, .int x2] E M L (Q_iw γ E) 0 0 (F_X5_toldOfParty E M L x1 x2) := by
  refine ct_of (own := RX5) (lv := [some (.ref (E.2.1 0)), some (.int x1), some (.int x2)]) (by decide +kernel) rfl rfl (Nat.le_of_ble_eq_true rfl) (fun κ C hγ hN => ?_)
  subst hγ
  have hn : ∀ i, i < 3 → i < knL κ := fun i h => by rw [hN]; exact h
  unfold F_X5_toldOfParty
  refine j_iload_n C dX5_toldOfParty_0 rfl rfl ?_
  refine j_ite (fun h1_0 => ?_) (fun h1_0 => ?_)
  · refine j_tswHit (c := (3 : Int32)) (off := 47) (tgt := 48) C dX5_toldOfParty_1 h1_0 (by decide) (by decide) (by decide) (by decide) ?_
    refine j_aload_n C dX5_toldOfParty_48 rfl rfl ?_
    refine j_getR (j := 0) C dX5_toldOfParty_49 FC5 (XAt.S h0) (by decide) rfl (XAt.R_now h0) tw_426 ?_
    refine j_getR (j := 6) C dX5_toldOfParty_52 FC0 (FAt.S (XAt.P_now h0)) (by decide) rfl (FAt.R_number (XAt.P_now h0)) tw_146 ?_
    refine j_iload_n C dX5_toldOfParty_55 rfl rfl ?_
    refine j_iald C dX5_toldOfParty_56 (FAt.P_number (XAt.P_now h0)) ?_
    exact j_iretw C dX5_toldOfParty_57
  · skip
    refine j_ite (fun h1_1 => ?_) (fun h1_1 => ?_)
    · refine j_tswHit (c := (4 : Int32)) (off := 57) (tgt := 58) C dX5_toldOfParty_1 h1_1 (by decide) (by decide) (by decide) (by decide) ?_
      refine j_aload_n C dX5_toldOfParty_58 rfl rfl ?_
      refine j_getR (j := 0) C dX5_toldOfParty_59 FC5 (XAt.S h0) (by decide) rfl (XAt.R_now h0) tw_426 ?_
      refine j_getR (j := 7) C dX5_toldOfParty_62 FC0 (FAt.S (XAt.P_now h0)) (by decide) rfl (FAt.R_on (XAt.P_now h0)) tw_148 ?_
      refine j_iload_n C dX5_toldOfParty_65 rfl rfl ?_
      refine j_iald C dX5_toldOfParty_66 (FAt.P_on (XAt.P_now h0)) ?_
      exact j_iretw C dX5_toldOfParty_67
    · skip
      refine j_ite (fun h1_2 => ?_) (fun h1_2 => ?_)
      · refine j_tswHit (c := (5 : Int32)) (off := 67) (tgt := 68) C dX5_toldOfParty_1 h1_2 (by decide) (by decide) (by decide) (by decide) ?_
        refine j_aload_n C dX5_toldOfParty_68 rfl rfl ?_
        refine j_getR (j := 0) C dX5_toldOfParty_69 FC5 (XAt.S h0) (by decide) rfl (XAt.R_now h0) tw_426 ?_
        refine j_getR (j := 8) C dX5_toldOfParty_72 FC0 (FAt.S (XAt.P_now h0)) (by decide) rfl (FAt.R_weary (XAt.P_now h0)) tw_151 ?_
        refine j_iload_n C dX5_toldOfParty_75 rfl rfl ?_
        refine j_iald C dX5_toldOfParty_76 (FAt.P_weary (XAt.P_now h0)) ?_
        exact j_iretw C dX5_toldOfParty_77
      · skip
        refine j_ite (fun h1_3 => ?_) (fun h1_3 => ?_)
        · refine j_tswHit (c := (6 : Int32)) (off := 77) (tgt := 78) C dX5_toldOfParty_1 h1_3 (by decide) (by decide) (by decide) (by decide) ?_
          refine j_aload_n C dX5_toldOfParty_78 rfl rfl ?_
          refine j_getR (j := 0) C dX5_toldOfParty_79 FC5 (XAt.S h0) (by decide) rfl (XAt.R_now h0) tw_426 ?_
          refine j_getR (j := 5) C dX5_toldOfParty_82 FC0 (FAt.S (XAt.P_now h0)) (by decide) rfl (FAt.R_kind (XAt.P_now h0)) tw_144 ?_
          refine j_iload_n C dX5_toldOfParty_85 rfl rfl ?_
          refine j_iald C dX5_toldOfParty_86 (FAt.P_kind (XAt.P_now h0)) ?_
          exact j_iretw C dX5_toldOfParty_87
        · skip
          refine j_ite (fun h1_4 => ?_) (fun h1_4 => ?_)
          · refine j_tswHit (c := (7 : Int32)) (off := 87) (tgt := 88) C dX5_toldOfParty_1 h1_4 (by decide) (by decide) (by decide) (by decide) ?_
            refine j_aload_n C dX5_toldOfParty_88 rfl rfl ?_
            refine j_getR (j := 4) C dX5_toldOfParty_89 FC5 (XAt.S h0) (by decide) rfl (XAt.R_law h0) tw_430 ?_
            refine j_aload_n C dX5_toldOfParty_92 rfl rfl ?_
            refine j_getR (j := 0) C dX5_toldOfParty_93 FC5 (XAt.S h0) (by decide) rfl (XAt.R_now h0) tw_426 ?_
            refine j_iload_n C dX5_toldOfParty_96 rfl rfl ?_
            refine j_callV_iw (st := []) C dX5_toldOfParty_97 (ct_X1_wayOf (kγ κ) E M L 1 x1 (XAt.P_law h0) (XAt.P_now h0)) mi_X1_wayOf tw_496 FC1 (LAt.S (XAt.P_law h0)) rfl rfl (Nat.le_of_ble_eq_true rfl) ⟨⟨rfl, rfl⟩, ⟨Nat.le_of_ble_eq_true rfl, Nat.le_of_ble_eq_true rfl⟩, ⟨Nat.zero_le _, Nat.zero_le _⟩⟩ (fun r97 => ?_)
            exact j_iretw C dX5_toldOfParty_100
          · skip
            refine j_ite (fun h1_5 => ?_) (fun h1_5 => ?_)
            · refine j_tswHit (c := (8 : Int32)) (off := 100) (tgt := 101) C dX5_toldOfParty_1 h1_5 (by decide) (by decide) (by decide) (by decide) ?_
              refine j_aload_n C dX5_toldOfParty_101 rfl rfl ?_
              refine j_getR (j := 4) C dX5_toldOfParty_102 FC5 (XAt.S h0) (by decide) rfl (XAt.R_law h0) tw_430 ?_
              refine j_aload_n C dX5_toldOfParty_105 rfl rfl ?_
              refine j_getR (j := 0) C dX5_toldOfParty_106 FC5 (XAt.S h0) (by decide) rfl (XAt.R_now h0) tw_426 ?_
              refine j_iload_n C dX5_toldOfParty_109 rfl rfl ?_
              refine j_callV_iw (st := []) C dX5_toldOfParty_110 (ct_X1_tiresOf (kγ κ) E M L 1 x1 (XAt.P_law h0) (XAt.P_now h0)) mi_X1_tiresOf tw_536 FC1 (LAt.S (XAt.P_law h0)) rfl rfl (Nat.le_of_ble_eq_true rfl) ⟨⟨rfl, rfl⟩, ⟨Nat.le_of_ble_eq_true rfl, Nat.le_of_ble_eq_true rfl⟩, ⟨Nat.zero_le _, Nat.zero_le _⟩⟩ (fun r110 => ?_)
              exact j_iretw C dX5_toldOfParty_113
            · skip
              refine j_ite (fun h1_6 => ?_) (fun h1_6 => ?_)
              · refine j_tswHit (c := (9 : Int32)) (off := 113) (tgt := 114) C dX5_toldOfParty_1 h1_6 (by decide) (by decide) (by decide) (by decide) ?_
                refine j_aload_n C dX5_toldOfParty_114 rfl rfl ?_
                refine j_getR (j := 4) C dX5_toldOfParty_115 FC5 (XAt.S h0) (by decide) rfl (XAt.R_law h0) tw_430 ?_
                refine j_aload_n C dX5_toldOfParty_118 rfl rfl ?_
                refine j_getR (j := 0) C dX5_toldOfParty_119 FC5 (XAt.S h0) (by decide) rfl (XAt.R_now h0) tw_426 ?_
                refine j_iload_n C dX5_toldOfParty_122 rfl rfl ?_
                refine j_callV_iw (st := []) C dX5_toldOfParty_123 (ct_X1_restsOf (kγ κ) E M L 1 x1 (XAt.P_law h0) (XAt.P_now h0)) mi_X1_restsOf tw_544 FC1 (LAt.S (XAt.P_law h0)) rfl rfl (Nat.le_of_ble_eq_true rfl) ⟨⟨rfl, rfl⟩, ⟨Nat.le_of_ble_eq_true rfl, Nat.le_of_ble_eq_true rfl⟩, ⟨Nat.zero_le _, Nat.zero_le _⟩⟩ (fun r123 => ?_)
                exact j_iretw C dX5_toldOfParty_126
              · skip
                refine j_ite (fun h1_7 => ?_) (fun h1_7 => ?_)
                · refine j_tswHit (c := (10 : Int32)) (off := 126) (tgt := 127) C dX5_toldOfParty_1 h1_7 (by decide) (by decide) (by decide) (by decide) ?_
                  refine j_aload_n C dX5_toldOfParty_127 rfl rfl ?_
                  refine j_getR (j := 0) C dX5_toldOfParty_128 FC5 (XAt.S h0) (by decide) rfl (XAt.R_now h0) tw_426 ?_
                  refine j_iload_n C dX5_toldOfParty_131 rfl rfl ?_
                  refine j_callV_i (st := []) C dX5_toldOfParty_132 (ct_X0_foundOf (kγ κ) E M L 1 x1 (XAt.P_now h0)) mi_X0_foundOf tw_552 FC0 (FAt.S (XAt.P_now h0)) rfl rfl (Nat.le_of_ble_eq_true rfl) ⟨⟨rfl, rfl⟩, ⟨Nat.le_of_ble_eq_true rfl, Nat.le_of_ble_eq_true rfl⟩, ⟨Nat.zero_le _, Nat.zero_le _⟩⟩ (fun v132 => ?_)
                  exact j_iretw C dX5_toldOfParty_135
                · skip
                  refine j_tswDef (tgt := 136) C dX5_toldOfParty_1 (by have q0 := i_neq (3) (by decide) h1_0; have q1 := i_neq (4) (by decide) h1_1; have q2 := i_neq (5) (by decide) h1_2; have q3 := i_neq (6) (by decide) h1_3; have q4 := i_neq (7) (by decide) h1_4; have q5 := i_neq (8) (by decide) h1_5; have q6 := i_neq (9) (by decide) h1_6; have q7 := i_neq (10) (by decide) h1_7; omega) (by decide) ?_
                  refine j_sipush (v := (-1000 : Int32)) C dX5_toldOfParty_136 (by decide) ?_
                  exact j_iretw C dX5_toldOfParty_139
set_option maxRecDepth 100000 in
set_option maxHeartbeats 4000000 in
theorem ct_X5_toldOfTile (γ : Gm) (E : Ev) (M : Mi) (L : Ml)  (x1 : Int32) (x2 : Int32) (h0 : XAt E) : Ct γ yX5_toldOfTile cX5_toldOfTile 3 (some .int) ⟨2, 0, 0, 43⟩ [.ref (E.2.1 0), .int x1, .int x2] E M L (Q_i γ E M L) 0 0 (F_X5_toldOfTile M L x1 x2) := by
  refine ct_of (own := RX5) (lv := [some (.ref (E.2.1 0)), some (.int x1), some (.int x2)]) (by decide +kernel) rfl rfl (Nat.le_of_ble_eq_true rfl) (fun κ C hγ hN => ?_)
  subst hγ
  have hn : ∀ i, i < 3 → i < knL κ := fun i h => by rw [hN]; exact h
  unfold F_X5_toldOfTile
  refine j_iload_n C dX5_toldOfTile_0 rfl rfl ?_
  refine j_iconst (v := (1 : Int32)) C dX5_toldOfTile_1 rfl ?_
  refine j_icmp_ne (tgt := 22) C dX5_toldOfTile_2 (by decide) ?_ ?_
  · refine j_iload_n C dX5_toldOfTile_22 rfl rfl ?_
    refine j_iconst (v := (2 : Int32)) C dX5_toldOfTile_23 rfl ?_
    refine j_icmp_ne (tgt := 44) C dX5_toldOfTile_24 (by decide) ?_ ?_
    · refine j_aload_n C dX5_toldOfTile_44 rfl rfl ?_
      refine j_getR (j := 0) C dX5_toldOfTile_45 FC5 (XAt.S h0) (by decide) rfl (XAt.R_now h0) tw_426 ?_
      refine j_iload_n C dX5_toldOfTile_48 rfl rfl ?_
      refine j_callV_i (st := []) C dX5_toldOfTile_49 (ct_X0_whoIsOn (kγ κ) E M L 1 x1 (XAt.P_now h0)) mi_X0_whoIsOn tw_465 FC0 (FAt.S (XAt.P_now h0)) rfl rfl (Nat.le_of_ble_eq_true rfl) ⟨⟨rfl, rfl⟩, ⟨Nat.le_of_ble_eq_true rfl, Nat.le_of_ble_eq_true rfl⟩, ⟨Nat.zero_le _, Nat.zero_le _⟩⟩ (fun v49 => ?_)
      exact j_iret C dX5_toldOfTile_52
    · refine j_aload_n C dX5_toldOfTile_27 rfl rfl ?_
      refine j_getR (j := 0) C dX5_toldOfTile_28 FC5 (XAt.S h0) (by decide) rfl (XAt.R_now h0) tw_426 ?_
      refine j_iload_n C dX5_toldOfTile_31 rfl rfl ?_
      refine j_callV_i (st := []) C dX5_toldOfTile_32 (ct_X0_isHollow (kγ κ) E M L 1 x1 (XAt.P_now h0)) mi_X0_isHollow tw_473 FC0 (FAt.S (XAt.P_now h0)) rfl rfl (Nat.le_of_ble_eq_true rfl) ⟨⟨rfl, rfl⟩, ⟨Nat.le_of_ble_eq_true rfl, Nat.le_of_ble_eq_true rfl⟩, ⟨Nat.zero_le _, Nat.zero_le _⟩⟩ (fun v32 => ?_)
      refine j_if_eq (tgt := 42) C dX5_toldOfTile_35 (by decide) ?_ ?_
      · refine j_iconst (v := (0 : Int32)) C dX5_toldOfTile_42 rfl ?_
        exact j_iret C dX5_toldOfTile_43
      · refine j_iconst (v := (1 : Int32)) C dX5_toldOfTile_38 rfl ?_
        refine j_goto (tgt := 43) C dX5_toldOfTile_39 (by decide) ?_
        exact j_iret C dX5_toldOfTile_43
  · refine j_aload_n C dX5_toldOfTile_5 rfl rfl ?_
    refine j_getR (j := 0) C dX5_toldOfTile_6 FC5 (XAt.S h0) (by decide) rfl (XAt.R_now h0) tw_426 ?_
    refine j_iload_n C dX5_toldOfTile_9 rfl rfl ?_
    refine j_callV_i (st := []) C dX5_toldOfTile_10 (ct_X0_isRed (kγ κ) E M L 1 x1 (XAt.P_now h0)) mi_X0_isRed tw_488 FC0 (FAt.S (XAt.P_now h0)) rfl rfl (Nat.le_of_ble_eq_true rfl) ⟨⟨rfl, rfl⟩, ⟨Nat.le_of_ble_eq_true rfl, Nat.le_of_ble_eq_true rfl⟩, ⟨Nat.zero_le _, Nat.zero_le _⟩⟩ (fun v10 => ?_)
    refine j_if_eq (tgt := 20) C dX5_toldOfTile_13 (by decide) ?_ ?_
    · refine j_iconst (v := (0 : Int32)) C dX5_toldOfTile_20 rfl ?_
      exact j_iret C dX5_toldOfTile_21
    · refine j_iconst (v := (1 : Int32)) C dX5_toldOfTile_16 rfl ?_
      refine j_goto (tgt := 21) C dX5_toldOfTile_17 (by decide) ?_
      exact j_iret C dX5_toldOfTile_21
set_option maxRecDepth 100000 in
set_option maxHeartbeats 4000000 in
theorem ct_X5_told (γ : Gm) (E : Ev) (M : Mi) (L : Ml)  (x1 : Int32) (x2 : Int32) (h0 : XAt E) : Ct γ yX5_told cX5_told 3 (some .int) ⟨5, 0, 0, 115⟩ [.ref (E.2.1 0), .int x1, .int x2] E M L (Q_iw γ E) 0 0 (F_X5_told E M L x1 x2) := by
  refine ct_of (own := RX5) (lv := [some (.ref (E.2.1 0)), some (.int x1), some (.int x2)]) (by decide +kernel) rfl rfl (Nat.le_of_ble_eq_true rfl) (fun κ C hγ hN => ?_)
  subst hγ
  have hn : ∀ i, i < 3 → i < knL κ := fun i h => by rw [hN]; exact h
  have k28 : ∀ (M : Mi) (L : Ml) (x1 : Int32) (x2 : Int32), JF κ (PQ κ (Q_iw (kγ κ) E) 0 0) 28 [some (.ref (E.2.1 0)), some (.int x1), some (.int x2)] [] E M L 0 0 (F_X5_told_k28 E M L x1 x2) := by
    intro M L x1 x2
    unfold F_X5_told_k28
    refine j_iload_n C dX5_told_28 rfl rfl ?_
    refine j_callS_i (st := []) C dX5_told_29 (ct_X5_isTile (kγ κ) E M L x1) mi_X5_isTile tw_462 rfl rfl (Nat.le_of_ble_eq_true rfl) ⟨⟨rfl, rfl⟩, ⟨Nat.le_of_ble_eq_true rfl, Nat.le_of_ble_eq_true rfl⟩, ⟨Nat.zero_le _, Nat.zero_le _⟩⟩ (fun v29 => ?_)
    refine j_if_eq (tgt := 44) C dX5_told_32 (by decide) ?_ ?_
    · refine j_sipush (v := (-1000 : Int32)) C dX5_told_44 (by decide) ?_
      exact j_iretw C dX5_told_47
    · refine j_aload_n C dX5_told_35 rfl rfl ?_
      refine j_iload_n C dX5_told_36 rfl rfl ?_
      refine j_iload_n C dX5_told_37 rfl rfl ?_
      refine j_callV_i (st := []) C dX5_told_38 (ct_X5_toldOfTile (kγ κ) E M L x1 x2 h0) mi_X5_toldOfTile tw_484 FC5 (XAt.S h0) rfl rfl (Nat.le_of_ble_eq_true rfl) ⟨⟨rfl, rfl⟩, ⟨Nat.le_of_ble_eq_true rfl, Nat.le_of_ble_eq_true rfl⟩, ⟨Nat.zero_le _, Nat.zero_le _⟩⟩ (fun v38 => ?_)
      refine j_goto (tgt := 47) C dX5_told_41 (by decide) ?_
      exact j_iretw C dX5_told_47
  unfold F_X5_told
  refine j_iload_n C dX5_told_0 rfl rfl ?_
  refine j_if_ne (tgt := 12) C dX5_told_1 (by decide) ?_ ?_
  · refine j_iload_n C dX5_told_12 rfl rfl ?_
    refine j_iconst (v := (1 : Int32)) C dX5_told_13 rfl ?_
    refine j_icmp_eq (tgt := 28) C dX5_told_14 (by decide) ?_ ?_
    · exact k28 M L x1 x2
    · refine j_iload_n C dX5_told_17 rfl rfl ?_
      refine j_iconst (v := (2 : Int32)) C dX5_told_18 rfl ?_
      refine j_icmp_eq (tgt := 28) C dX5_told_19 (by decide) ?_ ?_
      · exact k28 M L x1 x2
      · refine j_iload_n C dX5_told_22 rfl rfl ?_
        refine j_bipush (v := (11 : Int32)) C dX5_told_23 (by decide) ?_
        refine j_icmp_ne (tgt := 48) C dX5_told_25 (by decide) ?_ ?_
        · refine j_aload_n C dX5_told_48 rfl rfl ?_
          refine j_iload_n C dX5_told_49 rfl rfl ?_
          refine j_callV_i (st := []) C dX5_told_50 (ct_X5_isParty (kγ κ) E M L x1 h0) mi_X5_isParty tw_469 FC5 (XAt.S h0) rfl rfl (Nat.le_of_ble_eq_true rfl) ⟨⟨rfl, rfl⟩, ⟨Nat.le_of_ble_eq_true rfl, Nat.le_of_ble_eq_true rfl⟩, ⟨Nat.zero_le _, Nat.zero_le _⟩⟩ (fun v50 => ?_)
          refine j_if_eq (tgt := 65) C dX5_told_53 (by decide) ?_ ?_
          · refine j_sipush (v := (-1000 : Int32)) C dX5_told_65 (by decide) ?_
            exact j_iretw C dX5_told_68
          · refine j_aload_n C dX5_told_56 rfl rfl ?_
            refine j_iload_n C dX5_told_57 rfl rfl ?_
            refine j_iload_n C dX5_told_58 rfl rfl ?_
            refine j_callV_iw (st := []) C dX5_told_59 (ct_X5_toldOfParty (kγ κ) E M L x1 x2 h0) mi_X5_toldOfParty tw_492 FC5 (XAt.S h0) rfl rfl (Nat.le_of_ble_eq_true rfl) ⟨⟨rfl, rfl⟩, ⟨Nat.le_of_ble_eq_true rfl, Nat.le_of_ble_eq_true rfl⟩, ⟨Nat.zero_le _, Nat.zero_le _⟩⟩ (fun r59 => ?_)
            refine j_goto (tgt := 68) C dX5_told_62 (by decide) ?_
            exact j_iretw C dX5_told_68
        · exact k28 M L x1 x2
  · refine j_aload_n C dX5_told_4 rfl rfl ?_
    refine j_getR (j := 0) C dX5_told_5 FC5 (XAt.S h0) (by decide) rfl (XAt.R_now h0) tw_426 ?_
    refine j_getI (j := 2) C dX5_told_8 FC0 (FAt.S (XAt.P_now h0)) (by decide) rfl tw_135 ?_
    exact j_iretw C dX5_told_11
set_option maxRecDepth 100000 in
set_option maxHeartbeats 4000000 in
theorem ct_X5_set (γ : Gm) (E : Ev) (M : Mi) (L : Ml)  (x1 : Int32) (x2 : Int32) (x3 : Int32) (h0 : XAt E) : Ct γ yX5_set cX5_set 7 (some .int) ⟨6, 0, 0, 137⟩ [.ref (E.2.1 0), .int x1, .int x2, .int x3] E M L (Q_iw γ E) 0 0 (F_X5_set E M L x1 x2 x3) := by
  refine ct_of (own := RX5) (lv := [some (.ref (E.2.1 0)), some (.int x1), some (.int x2), some (.int x3), none, none, none]) (by decide +kernel) rfl rfl (Nat.le_of_ble_eq_true rfl) (fun κ C hγ hN => ?_)
  subst hγ
  have hn : ∀ i, i < 7 → i < knL κ := fun i h => by rw [hN]; exact h
  have k107 : ∀ (M : Mi) (L : Ml) (x4 : Int32) (s1 : Int64), JF κ (PQ κ (Q_iw (kγ κ) E) 0 0) 107 [none, none, none, none, some (.int x4), none, none] [.long s1, .ref (E.2.1 1)] E M L 0 0 (F_X5_set_k107 E M L x4 s1) := by
    intro M L x4 s1
    unfold F_X5_set_k107
    refine j_putL (j := 0) C dX5_set_107 FC0 (FAt.S (XAt.P_now h0)) (by decide) rfl rfl rfl rfl tw_131 ?_
    refine j_goto (tgt := 191) C dX5_set_110 (by decide) ?_
    refine j_iload C dX5_set_191 rfl ?_
    exact j_iretw C dX5_set_193
  have k149 : ∀ (M : Mi) (L : Ml) (x4 : Int32) (s1 : Int64), JF κ (PQ κ (Q_iw (kγ κ) E) 0 0) 149 [none, none, none, none, some (.int x4), none, none] [.long s1, .ref (E.2.1 1)] E M L 0 0 (F_X5_set_k149 E M L x4 s1) := by
    intro M L x4 s1
    unfold F_X5_set_k149
    refine j_putL (j := 1) C dX5_set_149 FC0 (FAt.S (XAt.P_now h0)) (by decide) rfl rfl rfl rfl tw_133 ?_
    refine j_goto (tgt := 191) C dX5_set_152 (by decide) ?_
    refine j_iload C dX5_set_191 rfl ?_
    exact j_iretw C dX5_set_193
  unfold F_X5_set
  refine j_aload_n C dX5_set_0 rfl rfl ?_
  refine j_iload_n C dX5_set_1 rfl rfl ?_
  refine j_iload_n C dX5_set_2 rfl rfl ?_
  refine j_iload_n C dX5_set_3 rfl rfl ?_
  refine j_callV_i (st := []) C dX5_set_4 (ct_X5_canSet (kγ κ) E M L x1 x2 x3 h0) mi_X5_canSet tw_455 FC5 (XAt.S h0) rfl rfl (Nat.le_of_ble_eq_true rfl) ⟨⟨rfl, rfl⟩, ⟨Nat.le_of_ble_eq_true rfl, Nat.le_of_ble_eq_true rfl⟩, ⟨Nat.zero_le _, Nat.zero_le _⟩⟩ (fun v4 => ?_)
  refine j_if_ne (tgt := 13) C dX5_set_7 (by decide) ?_ ?_
  · refine j_aload_n C dX5_set_13 rfl rfl ?_
    refine j_iload_n C dX5_set_14 rfl rfl ?_
    refine j_iload_n C dX5_set_15 rfl rfl ?_
    refine j_callV_iw (st := []) C dX5_set_16 (ct_X5_told (kγ κ) E M L x2 x1 h0) mi_X5_told tw_480 FC5 (XAt.S h0) rfl rfl (Nat.le_of_ble_eq_true rfl) ⟨⟨rfl, rfl⟩, ⟨Nat.le_of_ble_eq_true rfl, Nat.le_of_ble_eq_true rfl⟩, ⟨Nat.zero_le _, Nat.zero_le _⟩⟩ (fun r16 => ?_)
    refine j_istore (i := 4) (lv' := [some (.ref (E.2.1 0)), some (.int x1), some (.int x2), some (.int x3), some (.int r16.1), none, none]) C dX5_set_19 (hn 4 (by decide)) rfl ?_
    refine j_lconst (v := (1 : Int64)) C dX5_set_21 rfl ?_
    refine j_iload_n C dX5_set_22 rfl rfl ?_
    refine j_pc (pc2 := 23) rfl ?_
    refine j_lshl C dX5_set_23 ?_
    refine j_lstore (i := 5) (lv' := [some (.ref (E.2.1 0)), some (.int x1), some (.int x2), some (.int x3), some (.int r16.1), some (.long (lshl (1 : Int64) x2)), none]) C dX5_set_24 (hn 6 (by decide)) rfl ?_
    refine j_iload_n C dX5_set_26 rfl rfl ?_
    refine j_ite (fun h27_0 => ?_) (fun h27_0 => ?_)
    · refine j_tswHit (c := (0 : Int32)) (off := 33) (tgt := 60) C dX5_set_27 h27_0 (by decide) (by decide) (by decide) (by decide) ?_
      refine j_aload_n C dX5_set_60 rfl rfl ?_
      refine j_getR (j := 0) C dX5_set_61 FC5 (XAt.S h0) (by decide) rfl (XAt.R_now h0) tw_426 ?_
      refine j_iload_n C dX5_set_64 rfl rfl ?_
      refine j_putI (j := 2) C dX5_set_65 FC0 (FAt.S (XAt.P_now h0)) (by decide) rfl rfl rfl rfl tw_135 ?_
      refine j_goto (tgt := 191) C dX5_set_68 (by decide) ?_
      refine j_iload C dX5_set_191 rfl ?_
      exact j_iretw C dX5_set_193
    · skip
      refine j_ite (fun h27_1 => ?_) (fun h27_1 => ?_)
      · refine j_tswHit (c := (1 : Int32)) (off := 44) (tgt := 71) C dX5_set_27 h27_1 (by decide) (by decide) (by decide) (by decide) ?_
        refine j_aload_n C dX5_set_71 rfl rfl ?_
        refine j_getR (j := 0) C dX5_set_72 FC5 (XAt.S h0) (by decide) rfl (XAt.R_now h0) tw_426 ?_
        refine j_iload_n C dX5_set_75 rfl rfl ?_
        refine j_iconst (v := (1 : Int32)) C dX5_set_76 rfl ?_
        refine j_icmp_ne (tgt := 93) C dX5_set_77 (by decide) ?_ ?_
        · refine j_aload_n C dX5_set_93 rfl rfl ?_
          refine j_getR (j := 0) C dX5_set_94 FC5 (XAt.S h0) (by decide) rfl (XAt.R_now h0) tw_426 ?_
          refine j_getL (j := 0) C dX5_set_97 FC0 (FAt.S (XAt.P_now h0)) (by decide) rfl tw_131 ?_
          refine j_lload C dX5_set_100 rfl ?_
          refine j_ldc2 (v := (-1 : Int64)) C dX5_set_102 tw_561 ?_
          refine j_lxor C dX5_set_105 ?_
          refine j_land C dX5_set_106 ?_
          refine j_mask [false, false, false, false, true, false, false] (lv' := [none, none, none, none, some (.int r16.1), none, none]) rfl ?_
          exact k107 r16.2.1 r16.2.2 r16.1 (((r16.2.2 1 0) &&& ((lshl (1 : Int64) x2) ^^^ (-1 : Int64))))
        · refine j_aload_n C dX5_set_80 rfl rfl ?_
          refine j_getR (j := 0) C dX5_set_81 FC5 (XAt.S h0) (by decide) rfl (XAt.R_now h0) tw_426 ?_
          refine j_getL (j := 0) C dX5_set_84 FC0 (FAt.S (XAt.P_now h0)) (by decide) rfl tw_131 ?_
          refine j_lload C dX5_set_87 rfl ?_
          refine j_lor C dX5_set_89 ?_
          refine j_goto (tgt := 107) C dX5_set_90 (by decide) ?_
          refine j_mask [false, false, false, false, true, false, false] (lv' := [none, none, none, none, some (.int r16.1), none, none]) rfl ?_
          exact k107 r16.2.1 r16.2.2 r16.1 (((r16.2.2 1 0) ||| (lshl (1 : Int64) x2)))
      · skip
        refine j_ite (fun h27_2 => ?_) (fun h27_2 => ?_)
        · refine j_tswHit (c := (2 : Int32)) (off := 86) (tgt := 113) C dX5_set_27 h27_2 (by decide) (by decide) (by decide) (by decide) ?_
          refine j_aload_n C dX5_set_113 rfl rfl ?_
          refine j_getR (j := 0) C dX5_set_114 FC5 (XAt.S h0) (by decide) rfl (XAt.R_now h0) tw_426 ?_
          refine j_iload_n C dX5_set_117 rfl rfl ?_
          refine j_iconst (v := (1 : Int32)) C dX5_set_118 rfl ?_
          refine j_icmp_ne (tgt := 135) C dX5_set_119 (by decide) ?_ ?_
          · refine j_aload_n C dX5_set_135 rfl rfl ?_
            refine j_getR (j := 0) C dX5_set_136 FC5 (XAt.S h0) (by decide) rfl (XAt.R_now h0) tw_426 ?_
            refine j_getL (j := 1) C dX5_set_139 FC0 (FAt.S (XAt.P_now h0)) (by decide) rfl tw_133 ?_
            refine j_lload C dX5_set_142 rfl ?_
            refine j_ldc2 (v := (-1 : Int64)) C dX5_set_144 tw_561 ?_
            refine j_lxor C dX5_set_147 ?_
            refine j_land C dX5_set_148 ?_
            refine j_mask [false, false, false, false, true, false, false] (lv' := [none, none, none, none, some (.int r16.1), none, none]) rfl ?_
            exact k149 r16.2.1 r16.2.2 r16.1 (((r16.2.2 1 1) &&& ((lshl (1 : Int64) x2) ^^^ (-1 : Int64))))
          · refine j_aload_n C dX5_set_122 rfl rfl ?_
            refine j_getR (j := 0) C dX5_set_123 FC5 (XAt.S h0) (by decide) rfl (XAt.R_now h0) tw_426 ?_
            refine j_getL (j := 1) C dX5_set_126 FC0 (FAt.S (XAt.P_now h0)) (by decide) rfl tw_133 ?_
            refine j_lload C dX5_set_129 rfl ?_
            refine j_lor C dX5_set_131 ?_
            refine j_goto (tgt := 149) C dX5_set_132 (by decide) ?_
            refine j_mask [false, false, false, false, true, false, false] (lv' := [none, none, none, none, some (.int r16.1), none, none]) rfl ?_
            exact k149 r16.2.1 r16.2.2 r16.1 (((r16.2.2 1 1) ||| (lshl (1 : Int64) x2)))
        · skip
          refine j_ite (fun h27_3 => ?_) (fun h27_3 => ?_)
          · refine j_tswHit (c := (3 : Int32)) (off := 128) (tgt := 155) C dX5_set_27 h27_3 (by decide) (by decide) (by decide) (by decide) ?_
            refine j_aload_n C dX5_set_155 rfl rfl ?_
            refine j_getR (j := 0) C dX5_set_156 FC5 (XAt.S h0) (by decide) rfl (XAt.R_now h0) tw_426 ?_
            refine j_getR (j := 6) C dX5_set_159 FC0 (FAt.S (XAt.P_now h0)) (by decide) rfl (FAt.R_number (XAt.P_now h0)) tw_146 ?_
            refine j_iload_n C dX5_set_162 rfl rfl ?_
            refine j_iload_n C dX5_set_163 rfl rfl ?_
            refine j_iast C dX5_set_164 (FAt.P_number (XAt.P_now h0)) ?_
            refine j_goto (tgt := 191) C dX5_set_165 (by decide) ?_
            refine j_iload C dX5_set_191 rfl ?_
            exact j_iretw C dX5_set_193
          · skip
            refine j_ite (fun h27_4 => ?_) (fun h27_4 => ?_)
            · refine j_tswHit (c := (4 : Int32)) (off := 141) (tgt := 168) C dX5_set_27 h27_4 (by decide) (by decide) (by decide) (by decide) ?_
              refine j_aload_n C dX5_set_168 rfl rfl ?_
              refine j_getR (j := 0) C dX5_set_169 FC5 (XAt.S h0) (by decide) rfl (XAt.R_now h0) tw_426 ?_
              refine j_getR (j := 7) C dX5_set_172 FC0 (FAt.S (XAt.P_now h0)) (by decide) rfl (FAt.R_on (XAt.P_now h0)) tw_148 ?_
              refine j_iload_n C dX5_set_175 rfl rfl ?_
              refine j_iload_n C dX5_set_176 rfl rfl ?_
              refine j_iast C dX5_set_177 (FAt.P_on (XAt.P_now h0)) ?_
              refine j_goto (tgt := 191) C dX5_set_178 (by decide) ?_
              refine j_iload C dX5_set_191 rfl ?_
              exact j_iretw C dX5_set_193
            · skip
              refine j_tswDef (tgt := 181) C dX5_set_27 (by have q0 := i_neq (0) (by decide) h27_0; have q1 := i_neq (1) (by decide) h27_1; have q2 := i_neq (2) (by decide) h27_2; have q3 := i_neq (3) (by decide) h27_3; have q4 := i_neq (4) (by decide) h27_4; omega) (by decide) ?_
              refine j_aload_n C dX5_set_181 rfl rfl ?_
              refine j_getR (j := 0) C dX5_set_182 FC5 (XAt.S h0) (by decide) rfl (XAt.R_now h0) tw_426 ?_
              refine j_getR (j := 8) C dX5_set_185 FC0 (FAt.S (XAt.P_now h0)) (by decide) rfl (FAt.R_weary (XAt.P_now h0)) tw_151 ?_
              refine j_iload_n C dX5_set_188 rfl rfl ?_
              refine j_iload_n C dX5_set_189 rfl rfl ?_
              refine j_iast C dX5_set_190 (FAt.P_weary (XAt.P_now h0)) ?_
              refine j_iload C dX5_set_191 rfl ?_
              refine j_pc (pc2 := 193) rfl ?_
              exact j_iretw C dX5_set_193
  · refine j_bipush (v := (-2 : Int32)) C dX5_set_10 (by decide) ?_
    exact j_iretw C dX5_set_12
set_option maxRecDepth 100000 in
set_option maxHeartbeats 4000000 in
theorem ct_X5_party (γ : Gm) (E : Ev) (M : Mi) (L : Ml)  (x1 : Int32) (x2 : Int32) (x3 : Int32) (h0 : XAt E) : Ct γ yX5_party cX5_party 5 (some .int) ⟨2, 0, 0, 43⟩ [.ref (E.2.1 0), .int x1, .int x2, .int x3] E M L (Q_iw γ E) 0 0 (F_X5_party M L x1 x2 x3) := by
  refine ct_of (own := RX5) (lv := [some (.ref (E.2.1 0)), some (.int x1), some (.int x2), some (.int x3), none]) (by decide +kernel) rfl rfl (Nat.le_of_ble_eq_true rfl) (fun κ C hγ hN => ?_)
  subst hγ
  have hn : ∀ i, i < 5 → i < knL κ := fun i h => by rw [hN]; exact h
  unfold F_X5_party
  refine j_iload_n C dX5_party_0 rfl rfl ?_
  refine j_callS_i (st := []) C dX5_party_1 (ct_X5_isKind (kγ κ) E M L x1) mi_X5_isKind tw_566 rfl rfl (Nat.le_of_ble_eq_true rfl) ⟨⟨rfl, rfl⟩, ⟨Nat.le_of_ble_eq_true rfl, Nat.le_of_ble_eq_true rfl⟩, ⟨Nat.zero_le _, Nat.zero_le _⟩⟩ (fun v1 => ?_)
  refine j_if_eq (tgt := 34) C dX5_party_4 (by decide) ?_ ?_
  · refine j_bipush (v := (-2 : Int32)) C dX5_party_34 (by decide) ?_
    exact j_iretw C dX5_party_36
  · refine j_iload_n C dX5_party_7 rfl rfl ?_
    refine j_bipush (v := (9 : Int32)) C dX5_party_8 (by decide) ?_
    refine j_callS_i (st := []) C dX5_party_10 (ct_X5_isWithin (kγ κ) E M L x2 (9 : Int32)) mi_X5_isWithin tw_459 rfl rfl (Nat.le_of_ble_eq_true rfl) ⟨⟨rfl, rfl⟩, ⟨Nat.le_of_ble_eq_true rfl, Nat.le_of_ble_eq_true rfl⟩, ⟨Nat.zero_le _, Nat.zero_le _⟩⟩ (fun v10 => ?_)
    refine j_if_eq (tgt := 34) C dX5_party_13 (by decide) ?_ ?_
    · refine j_bipush (v := (-2 : Int32)) C dX5_party_34 (by decide) ?_
      exact j_iretw C dX5_party_36
    · refine j_iload_n C dX5_party_16 rfl rfl ?_
      refine j_callS_i (st := []) C dX5_party_17 (ct_X5_isTile (kγ κ) E M L x3) mi_X5_isTile tw_462 rfl rfl (Nat.le_of_ble_eq_true rfl) ⟨⟨rfl, rfl⟩, ⟨Nat.le_of_ble_eq_true rfl, Nat.le_of_ble_eq_true rfl⟩, ⟨Nat.zero_le _, Nat.zero_le _⟩⟩ (fun v17 => ?_)
      refine j_if_eq (tgt := 34) C dX5_party_20 (by decide) ?_ ?_
      · refine j_bipush (v := (-2 : Int32)) C dX5_party_34 (by decide) ?_
        exact j_iretw C dX5_party_36
      · refine j_aload_n C dX5_party_23 rfl rfl ?_
        refine j_getR (j := 0) C dX5_party_24 FC5 (XAt.S h0) (by decide) rfl (XAt.R_now h0) tw_426 ?_
        refine j_iload_n C dX5_party_27 rfl rfl ?_
        refine j_callV_i (st := []) C dX5_party_28 (ct_X0_isHollow (kγ κ) E M L 1 x3 (XAt.P_now h0)) mi_X0_isHollow tw_473 FC0 (FAt.S (XAt.P_now h0)) rfl rfl (Nat.le_of_ble_eq_true rfl) ⟨⟨rfl, rfl⟩, ⟨Nat.le_of_ble_eq_true rfl, Nat.le_of_ble_eq_true rfl⟩, ⟨Nat.zero_le _, Nat.zero_le _⟩⟩ (fun v28 => ?_)
        refine j_if_eq (tgt := 37) C dX5_party_31 (by decide) ?_ ?_
        · refine j_aload_n C dX5_party_37 rfl rfl ?_
          refine j_getR (j := 0) C dX5_party_38 FC5 (XAt.S h0) (by decide) rfl (XAt.R_now h0) tw_426 ?_
          refine j_getI (j := 3) C dX5_party_41 FC0 (FAt.S (XAt.P_now h0)) (by decide) rfl tw_139 ?_
          refine j_istore (i := 4) (lv' := [some (.ref (E.2.1 0)), some (.int x1), some (.int x2), some (.int x3), some (.int (M 1 3))]) C dX5_party_44 (hn 4 (by decide)) rfl ?_
          refine j_iload C dX5_party_46 rfl ?_
          refine j_iconst (v := (5 : Int32)) C dX5_party_48 rfl ?_
          refine j_icmp_lt (tgt := 55) C dX5_party_49 (by decide) ?_ ?_
          · refine j_aload_n C dX5_party_55 rfl rfl ?_
            refine j_getR (j := 0) C dX5_party_56 FC5 (XAt.S h0) (by decide) rfl (XAt.R_now h0) tw_426 ?_
            refine j_getR (j := 5) C dX5_party_59 FC0 (FAt.S (XAt.P_now h0)) (by decide) rfl (FAt.R_kind (XAt.P_now h0)) tw_144 ?_
            refine j_iload C dX5_party_62 rfl ?_
            refine j_iload_n C dX5_party_64 rfl rfl ?_
            refine j_iast C dX5_party_65 (FAt.P_kind (XAt.P_now h0)) ?_
            refine j_aload_n C dX5_party_66 rfl rfl ?_
            refine j_pc (pc2 := 67) rfl ?_
            refine j_getR (j := 0) C dX5_party_67 FC5 (XAt.S h0) (by decide) rfl (XAt.R_now h0) tw_426 ?_
            refine j_getR (j := 6) C dX5_party_70 FC0 (FAt.S (XAt.P_now h0)) (by decide) rfl (FAt.R_number (XAt.P_now h0)) tw_146 ?_
            refine j_iload C dX5_party_73 rfl ?_
            refine j_iload_n C dX5_party_75 rfl rfl ?_
            refine j_iast C dX5_party_76 (FAt.P_number (XAt.P_now h0)) ?_
            refine j_aload_n C dX5_party_77 rfl rfl ?_
            refine j_getR (j := 0) C dX5_party_78 FC5 (XAt.S h0) (by decide) rfl (XAt.R_now h0) tw_426 ?_
            refine j_getR (j := 7) C dX5_party_81 FC0 (FAt.S (XAt.P_now h0)) (by decide) rfl (FAt.R_on (XAt.P_now h0)) tw_148 ?_
            refine j_pc (pc2 := 84) rfl ?_
            refine j_iload C dX5_party_84 rfl ?_
            refine j_iload_n C dX5_party_86 rfl rfl ?_
            refine j_iast C dX5_party_87 (FAt.P_on (XAt.P_now h0)) ?_
            refine j_aload_n C dX5_party_88 rfl rfl ?_
            refine j_getR (j := 0) C dX5_party_89 FC5 (XAt.S h0) (by decide) rfl (XAt.R_now h0) tw_426 ?_
            refine j_getR (j := 8) C dX5_party_92 FC0 (FAt.S (XAt.P_now h0)) (by decide) rfl (FAt.R_weary (XAt.P_now h0)) tw_151 ?_
            refine j_iload C dX5_party_95 rfl ?_
            refine j_iconst (v := (0 : Int32)) C dX5_party_97 rfl ?_
            refine j_pc (pc2 := 98) rfl ?_
            refine j_iast C dX5_party_98 (FAt.P_weary (XAt.P_now h0)) ?_
            refine j_aload_n C dX5_party_99 rfl rfl ?_
            refine j_getR (j := 0) C dX5_party_100 FC5 (XAt.S h0) (by decide) rfl (XAt.R_now h0) tw_426 ?_
            refine j_iload C dX5_party_103 rfl ?_
            refine j_iconst (v := (1 : Int32)) C dX5_party_105 rfl ?_
            refine j_iadd C dX5_party_106 ?_
            refine j_putI (j := 3) C dX5_party_107 FC0 (FAt.S (XAt.P_now h0)) (by decide) rfl rfl rfl rfl tw_139 ?_
            refine j_iload C dX5_party_110 rfl ?_
            refine j_pc (pc2 := 112) rfl ?_
            exact j_iretw C dX5_party_112
          · refine j_bipush (v := (-4 : Int32)) C dX5_party_52 (by decide) ?_
            exact j_iretw C dX5_party_54
        · refine j_bipush (v := (-2 : Int32)) C dX5_party_34 (by decide) ?_
          exact j_iretw C dX5_party_36
set_option maxRecDepth 100000 in
set_option maxHeartbeats 4000000 in
theorem ct_X5_leap (γ : Gm) (E : Ev) (M : Mi) (L : Ml)  (x1 : Int32) (x2 : Int32) (h0 : XAt E) : Ct γ yX5_leap cX5_leap 3 (some .int) ⟨3, 0, 0, 70⟩ [.ref (E.2.1 0), .int x1, .int x2] E M L (Q_i γ E M L) 0 0 (F_X5_leap M L x1 x2) := by
  refine ct_of (own := RX5) (lv := [some (.ref (E.2.1 0)), some (.int x1), some (.int x2)]) (by decide +kernel) rfl rfl (Nat.le_of_ble_eq_true rfl) (fun κ C hγ hN => ?_)
  subst hγ
  have hn : ∀ i, i < 3 → i < knL κ := fun i h => by rw [hN]; exact h
  unfold F_X5_leap
  refine j_aload_n C dX5_leap_0 rfl rfl ?_
  refine j_iload_n C dX5_leap_1 rfl rfl ?_
  refine j_callV_i (st := []) C dX5_leap_2 (ct_X5_isParty (kγ κ) E M L x1 h0) mi_X5_isParty tw_469 FC5 (XAt.S h0) rfl rfl (Nat.le_of_ble_eq_true rfl) ⟨⟨rfl, rfl⟩, ⟨Nat.le_of_ble_eq_true rfl, Nat.le_of_ble_eq_true rfl⟩, ⟨Nat.zero_le _, Nat.zero_le _⟩⟩ (fun v2 => ?_)
  refine j_if_eq (tgt := 17) C dX5_leap_5 (by decide) ?_ ?_
  · refine j_bipush (v := (-2 : Int32)) C dX5_leap_17 (by decide) ?_
    exact j_iret C dX5_leap_19
  · refine j_iload_n C dX5_leap_8 rfl rfl ?_
    refine j_bipush (v := (7 : Int32)) C dX5_leap_9 (by decide) ?_
    refine j_callS_i (st := []) C dX5_leap_11 (ct_X5_isWithin (kγ κ) E M L x2 (7 : Int32)) mi_X5_isWithin tw_459 rfl rfl (Nat.le_of_ble_eq_true rfl) ⟨⟨rfl, rfl⟩, ⟨Nat.le_of_ble_eq_true rfl, Nat.le_of_ble_eq_true rfl⟩, ⟨Nat.zero_le _, Nat.zero_le _⟩⟩ (fun v11 => ?_)
    refine j_if_ne (tgt := 20) C dX5_leap_14 (by decide) ?_ ?_
    · refine j_aload_n C dX5_leap_20 rfl rfl ?_
      refine j_getR (j := 0) C dX5_leap_21 FC5 (XAt.S h0) (by decide) rfl (XAt.R_now h0) tw_426 ?_
      refine j_iload_n C dX5_leap_24 rfl rfl ?_
      refine j_aload_n C dX5_leap_25 rfl rfl ?_
      refine j_getR (j := 0) C dX5_leap_26 FC5 (XAt.S h0) (by decide) rfl (XAt.R_now h0) tw_426 ?_
      refine j_getR (j := 7) C dX5_leap_29 FC0 (FAt.S (XAt.P_now h0)) (by decide) rfl (FAt.R_on (XAt.P_now h0)) tw_148 ?_
      refine j_iload_n C dX5_leap_32 rfl rfl ?_
      refine j_pc (pc2 := 33) rfl ?_
      refine j_iald C dX5_leap_33 (FAt.P_on (XAt.P_now h0)) ?_
      refine j_iload_n C dX5_leap_34 rfl rfl ?_
      refine j_callV_i (st := []) C dX5_leap_35 (ct_X0_landing (kγ κ) E M L 1 x1 (M 4 (Int32.toNatClampNeg x1)) x2 (XAt.P_now h0)) mi_X0_landing tw_574 FC0 (FAt.S (XAt.P_now h0)) rfl rfl (Nat.le_of_ble_eq_true rfl) ⟨⟨rfl, rfl⟩, ⟨Nat.le_of_ble_eq_true rfl, Nat.le_of_ble_eq_true rfl⟩, ⟨Nat.zero_le _, Nat.zero_le _⟩⟩ (fun v35 => ?_)
      exact j_iret C dX5_leap_38
    · refine j_bipush (v := (-2 : Int32)) C dX5_leap_17 (by decide) ?_
      exact j_iret C dX5_leap_19
set_option maxRecDepth 100000 in
set_option maxHeartbeats 4000000 in
theorem ct_X5_floor (γ : Gm) (E : Ev) (M : Mi) (L : Ml)  (x1 : Int32) (h0 : XAt E) : Ct γ yX5_floor cX5_floor 2 (some .long) ⟨1, 0, 0, 23⟩ [.ref (E.2.1 0), .int x1] E M L (Q_l γ E M L) 0 0 (F_X5_floor M L x1) := by
  refine ct_of (own := RX5) (lv := [some (.ref (E.2.1 0)), some (.int x1)]) (by decide +kernel) rfl rfl (Nat.le_of_ble_eq_true rfl) (fun κ C hγ hN => ?_)
  subst hγ
  have hn : ∀ i, i < 2 → i < knL κ := fun i h => by rw [hN]; exact h
  unfold F_X5_floor
  refine j_iload_n C dX5_floor_0 rfl rfl ?_
  refine j_if_ne (tgt := 12) C dX5_floor_1 (by decide) ?_ ?_
  · refine j_iload_n C dX5_floor_12 rfl rfl ?_
    refine j_iconst (v := (1 : Int32)) C dX5_floor_13 rfl ?_
    refine j_icmp_ne (tgt := 25) C dX5_floor_14 (by decide) ?_ ?_
    · refine j_iload_n C dX5_floor_25 rfl rfl ?_
      refine j_iconst (v := (2 : Int32)) C dX5_floor_26 rfl ?_
      refine j_icmp_ne (tgt := 40) C dX5_floor_27 (by decide) ?_ ?_
      · refine j_ldc2 (v := (-4611686018427387904 : Int64)) C dX5_floor_40 tw_604 ?_
        exact j_lret C dX5_floor_43
      · refine j_aload_n C dX5_floor_30 rfl rfl ?_
        refine j_getR (j := 0) C dX5_floor_31 FC5 (XAt.S h0) (by decide) rfl (XAt.R_now h0) tw_426 ?_
        refine j_callV_l (st := []) C dX5_floor_34 (ct_X0_stoodOn (kγ κ) E M L 1 (XAt.P_now h0)) mi_X0_stoodOn tw_600 FC0 (FAt.S (XAt.P_now h0)) rfl rfl (Nat.le_of_ble_eq_true rfl) ⟨⟨rfl, rfl⟩, ⟨Nat.le_of_ble_eq_true rfl, Nat.le_of_ble_eq_true rfl⟩, ⟨Nat.zero_le _, Nat.zero_le _⟩⟩ (fun v34 => ?_)
        refine j_goto (tgt := 43) C dX5_floor_37 (by decide) ?_
        exact j_lret C dX5_floor_43
    · refine j_aload_n C dX5_floor_17 rfl rfl ?_
      refine j_getR (j := 0) C dX5_floor_18 FC5 (XAt.S h0) (by decide) rfl (XAt.R_now h0) tw_426 ?_
      refine j_getL (j := 1) C dX5_floor_21 FC0 (FAt.S (XAt.P_now h0)) (by decide) rfl tw_133 ?_
      exact j_lret C dX5_floor_24
  · refine j_aload_n C dX5_floor_4 rfl rfl ?_
    refine j_getR (j := 0) C dX5_floor_5 FC5 (XAt.S h0) (by decide) rfl (XAt.R_now h0) tw_426 ?_
    refine j_getL (j := 0) C dX5_floor_8 FC0 (FAt.S (XAt.P_now h0)) (by decide) rfl tw_131 ?_
    exact j_lret C dX5_floor_11
set_option maxRecDepth 100000 in
set_option maxHeartbeats 4000000 in
theorem ct_X5_feed (γ : Gm) (E : Ev) (M : Mi) (L : Ml)  (x1 : Int32) (h0 : XAt E) : Ct γ yX5_feed cX5_feed 2 (some .int) ⟨1, 0, 0, 21⟩ [.ref (E.2.1 0), .int x1] E M L (Q_iw γ E) 0 0 (F_X5_feed M L x1) := by
  refine ct_of (own := RX5) (lv := [some (.ref (E.2.1 0)), some (.int x1)]) (by decide +kernel) rfl rfl (Nat.le_of_ble_eq_true rfl) (fun κ C hγ hN => ?_)
  subst hγ
  have hn : ∀ i, i < 2 → i < knL κ := fun i h => by rw [hN]; exact h
  unfold F_X5_feed
  refine j_iload_n C dX5_feed_0 rfl rfl ?_
  refine j_sipush (v := (255 : Int32)) C dX5_feed_1 (by decide) ?_
  refine j_callS_i (st := []) C dX5_feed_4 (ct_X5_isWithin (kγ κ) E M L x1 (255 : Int32)) mi_X5_isWithin tw_459 rfl rfl (Nat.le_of_ble_eq_true rfl) ⟨⟨rfl, rfl⟩, ⟨Nat.le_of_ble_eq_true rfl, Nat.le_of_ble_eq_true rfl⟩, ⟨Nat.zero_le _, Nat.zero_le _⟩⟩ (fun v4 => ?_)
  refine j_if_ne (tgt := 13) C dX5_feed_7 (by decide) ?_ ?_
  · refine j_aload_n C dX5_feed_13 rfl rfl ?_
    refine j_getR (j := 5) C dX5_feed_14 FC5 (XAt.S h0) (by decide) rfl (XAt.R_reader h0) tw_431 ?_
    refine j_iload_n C dX5_feed_17 rfl rfl ?_
    refine j_callV_iw (st := []) C dX5_feed_18 (ct_X2_takeIn (kγ κ) E M L x1 (XAt.P_reader h0)) mi_X2_takeIn tw_297 FC2 (RAt.S (XAt.P_reader h0)) rfl rfl (Nat.le_of_ble_eq_true rfl) ⟨⟨rfl, rfl⟩, ⟨Nat.le_of_ble_eq_true rfl, Nat.le_of_ble_eq_true rfl⟩, ⟨Nat.zero_le _, Nat.zero_le _⟩⟩ (fun r18 => ?_)
    refine j_if_eq (tgt := 34) C dX5_feed_21 (by decide) ?_ ?_
    · refine j_bipush (v := (-4 : Int32)) C dX5_feed_34 (by decide) ?_
      exact j_iretw C dX5_feed_36
    · refine j_aload_n C dX5_feed_24 rfl rfl ?_
      refine j_getR (j := 5) C dX5_feed_25 FC5 (XAt.S h0) (by decide) rfl (XAt.R_reader h0) tw_431 ?_
      refine j_getI (j := 2) C dX5_feed_28 FC2 (RAt.S (XAt.P_reader h0)) (by decide) rfl tw_201 ?_
      refine j_goto (tgt := 36) C dX5_feed_31 (by decide) ?_
      exact j_iretw C dX5_feed_36
  · refine j_bipush (v := (-2 : Int32)) C dX5_feed_10 (by decide) ?_
    exact j_iretw C dX5_feed_12
set_option maxRecDepth 100000 in
set_option maxHeartbeats 4000000 in
theorem ct_X5_isText (γ : Gm) (E : Ev) (M : Mi) (L : Ml)  (x1 : Int32) (h0 : XAt E) : Ct γ yX5_isText cX5_isText 2 (some .boolean) ⟨1, 0, 0, 21⟩ [.ref (E.2.1 0), .int x1] E M L (Q_i γ E M L) 0 0 (F_X5_isText M L x1) := by
  refine ct_of (own := RX5) (lv := [some (.ref (E.2.1 0)), some (.int x1)]) (by decide +kernel) rfl rfl (Nat.le_of_ble_eq_true rfl) (fun κ C hγ hN => ?_)
  subst hγ
  have hn : ∀ i, i < 2 → i < knL κ := fun i h => by rw [hN]; exact h
  unfold F_X5_isText
  refine j_iload_n C dX5_isText_0 rfl rfl ?_
  refine j_aload_n C dX5_isText_1 rfl rfl ?_
  refine j_getR (j := 4) C dX5_isText_2 FC5 (XAt.S h0) (by decide) rfl (XAt.R_law h0) tw_430 ?_
  refine j_getI (j := 2) C dX5_isText_5 FC1 (LAt.S (XAt.P_law h0)) (by decide) rfl tw_184 ?_
  refine j_iconst (v := (1 : Int32)) C dX5_isText_8 rfl ?_
  refine j_isub C dX5_isText_9 ?_
  refine j_callS_i (st := []) C dX5_isText_10 (ct_X5_isWithin (kγ κ) E M L x1 ((M 21 2) - (1 : Int32))) mi_X5_isWithin tw_459 rfl rfl (Nat.le_of_ble_eq_true rfl) ⟨⟨rfl, rfl⟩, ⟨Nat.le_of_ble_eq_true rfl, Nat.le_of_ble_eq_true rfl⟩, ⟨Nat.zero_le _, Nat.zero_le _⟩⟩ (fun v10 => ?_)
  refine j_pc (pc2 := 13) rfl ?_
  exact j_zret C dX5_isText_13
set_option maxRecDepth 100000 in
set_option maxHeartbeats 4000000 in
theorem ct_X5_force (γ : Gm) (E : Ev) (M : Mi) (L : Ml)  (x1 : Int32) (h0 : XAt E) : Ct γ yX5_force cX5_force 3 (some .int) ⟨2, 0, 0, 42⟩ [.ref (E.2.1 0), .int x1] E M L (Q_iw γ E) 0 0 (F_X5_force M L x1) := by
  refine ct_of (own := RX5) (lv := [some (.ref (E.2.1 0)), some (.int x1), none]) (by decide +kernel) rfl rfl (Nat.le_of_ble_eq_true rfl) (fun κ C hγ hN => ?_)
  subst hγ
  have hn : ∀ i, i < 3 → i < knL κ := fun i h => by rw [hN]; exact h
  unfold F_X5_force
  refine j_aload_n C dX5_force_0 rfl rfl ?_
  refine j_iload_n C dX5_force_1 rfl rfl ?_
  refine j_callV_i (st := []) C dX5_force_2 (ct_X5_isText (kγ κ) E M L x1 h0) mi_X5_isText tw_617 FC5 (XAt.S h0) rfl rfl (Nat.le_of_ble_eq_true rfl) ⟨⟨rfl, rfl⟩, ⟨Nat.le_of_ble_eq_true rfl, Nat.le_of_ble_eq_true rfl⟩, ⟨Nat.zero_le _, Nat.zero_le _⟩⟩ (fun v2 => ?_)
  refine j_if_ne (tgt := 11) C dX5_force_5 (by decide) ?_ ?_
  · refine j_aload_n C dX5_force_11 rfl rfl ?_
    refine j_getR (j := 0) C dX5_force_12 FC5 (XAt.S h0) (by decide) rfl (XAt.R_now h0) tw_426 ?_
    refine j_getI (j := 4) C dX5_force_15 FC0 (FAt.S (XAt.P_now h0)) (by decide) rfl tw_142 ?_
    refine j_istore_n (i := 2) (lv' := [some (.ref (E.2.1 0)), some (.int x1), some (.int (M 1 4))]) C dX5_force_18 rfl (hn 2 (by decide)) rfl ?_
    refine j_aload_n C dX5_force_19 rfl rfl ?_
    refine j_getR (j := 0) C dX5_force_20 FC5 (XAt.S h0) (by decide) rfl (XAt.R_now h0) tw_426 ?_
    refine j_iload_n C dX5_force_23 rfl rfl ?_
    refine j_pc (pc2 := 24) rfl ?_
    refine j_putI (j := 4) C dX5_force_24 FC0 (FAt.S (XAt.P_now h0)) (by decide) rfl rfl rfl rfl tw_142 ?_
    refine j_iload_n C dX5_force_27 rfl rfl ?_
    exact j_iretw C dX5_force_28
  · refine j_bipush (v := (-2 : Int32)) C dX5_force_8 (by decide) ?_
    exact j_iretw C dX5_force_10
set_option maxRecDepth 100000 in
set_option maxHeartbeats 4000000 in
theorem ct_X5_minute (γ : Gm) (E : Ev) (M : Mi) (L : Ml)   (h0 : XAt E) : Ct γ yX5_minute cX5_minute 1 (some .int) ⟨6, 0, 0, 143⟩ [.ref (E.2.1 0)] E M L (Q_iw γ E) 0 0 (F_X5_minute E M L) := by
  refine ct_of (own := RX5) (lv := [some (.ref (E.2.1 0))]) (by decide +kernel) rfl rfl (Nat.le_of_ble_eq_true rfl) (fun κ C hγ hN => ?_)
  subst hγ
  have hn : ∀ i, i < 1 → i < knL κ := fun i h => by rw [hN]; exact h
  unfold F_X5_minute
  refine j_aload_n C dX5_minute_0 rfl rfl ?_
  refine j_getR (j := 0) C dX5_minute_1 FC5 (XAt.S h0) (by decide) rfl (XAt.R_now h0) tw_426 ?_
  refine j_getI (j := 2) C dX5_minute_4 FC0 (FAt.S (XAt.P_now h0)) (by decide) rfl tw_135 ?_
  refine j_sipush (v := (999 : Int32)) C dX5_minute_7 (by decide) ?_
  refine j_icmp_lt (tgt := 16) C dX5_minute_10 (by decide) ?_ ?_
  · refine j_aload_n C dX5_minute_16 rfl rfl ?_
    refine j_getR (j := 4) C dX5_minute_17 FC5 (XAt.S h0) (by decide) rfl (XAt.R_law h0) tw_430 ?_
    refine j_aload_n C dX5_minute_20 rfl rfl ?_
    refine j_getR (j := 0) C dX5_minute_21 FC5 (XAt.S h0) (by decide) rfl (XAt.R_now h0) tw_426 ?_
    refine j_iconst (v := (1 : Int32)) C dX5_minute_24 rfl ?_
    refine j_iconst (v := (-1 : Int32)) C dX5_minute_25 rfl ?_
    refine j_callV_iw (st := []) C dX5_minute_26 (ct_X1_passMinutes (kγ κ) E M L 1 (1 : Int32) (-1 : Int32) (XAt.P_law h0) (XAt.P_now h0)) mi_X1_passMinutes tw_625 FC1 (LAt.S (XAt.P_law h0)) rfl rfl (Nat.le_of_ble_eq_true rfl) ⟨⟨rfl, rfl⟩, ⟨Nat.le_of_ble_eq_true rfl, Nat.le_of_ble_eq_true rfl⟩, ⟨Nat.zero_le _, Nat.zero_le _⟩⟩ (fun r26 => ?_)
    refine j_pc (pc2 := 29) rfl ?_
    exact j_iretw C dX5_minute_29
  · refine j_bipush (v := (-3 : Int32)) C dX5_minute_13 (by decide) ?_
    exact j_iretw C dX5_minute_15
set_option maxRecDepth 100000 in
set_option maxHeartbeats 4000000 in
theorem ct_X5_run (γ : Gm) (E : Ev) (M : Mi) (L : Ml)  (x1 : Int32) (x2 : Int32) (x3 : Int32) (h0 : XAt E) : Ct γ yX5_run cX5_run 4 (some .int) ⟨6, 0, 0, 143⟩ [.ref (E.2.1 0), .int x1, .int x2, .int x3] E M L (Q_iw γ E) 0 0 (F_X5_run E M L x1 x2 x3) := by
  refine ct_of (own := RX5) (lv := [some (.ref (E.2.1 0)), some (.int x1), some (.int x2), some (.int x3)]) (by decide +kernel) rfl rfl (Nat.le_of_ble_eq_true rfl) (fun κ C hγ hN => ?_)
  subst hγ
  have hn : ∀ i, i < 4 → i < knL κ := fun i h => by rw [hN]; exact h
  unfold F_X5_run
  refine j_aload_n C dX5_run_0 rfl rfl ?_
  refine j_iload_n C dX5_run_1 rfl rfl ?_
  refine j_callV_i (st := []) C dX5_run_2 (ct_X5_isParty (kγ κ) E M L x1 h0) mi_X5_isParty tw_469 FC5 (XAt.S h0) rfl rfl (Nat.le_of_ble_eq_true rfl) ⟨⟨rfl, rfl⟩, ⟨Nat.le_of_ble_eq_true rfl, Nat.le_of_ble_eq_true rfl⟩, ⟨Nat.zero_le _, Nat.zero_le _⟩⟩ (fun v2 => ?_)
  refine j_if_eq (tgt := 25) C dX5_run_5 (by decide) ?_ ?_
  · refine j_bipush (v := (-2 : Int32)) C dX5_run_25 (by decide) ?_
    exact j_iretw C dX5_run_27
  · refine j_iload_n C dX5_run_8 rfl rfl ?_
    refine j_bipush (v := (40 : Int32)) C dX5_run_9 (by decide) ?_
    refine j_callS_i (st := []) C dX5_run_11 (ct_X5_isWithin (kγ κ) E M L x2 (40 : Int32)) mi_X5_isWithin tw_459 rfl rfl (Nat.le_of_ble_eq_true rfl) ⟨⟨rfl, rfl⟩, ⟨Nat.le_of_ble_eq_true rfl, Nat.le_of_ble_eq_true rfl⟩, ⟨Nat.zero_le _, Nat.zero_le _⟩⟩ (fun v11 => ?_)
    refine j_if_eq (tgt := 25) C dX5_run_14 (by decide) ?_ ?_
    · refine j_bipush (v := (-2 : Int32)) C dX5_run_25 (by decide) ?_
      exact j_iretw C dX5_run_27
    · refine j_iload_n C dX5_run_17 rfl rfl ?_
      refine j_iconst (v := (3 : Int32)) C dX5_run_18 rfl ?_
      refine j_callS_i (st := []) C dX5_run_19 (ct_X5_isWithin (kγ κ) E M L x3 (3 : Int32)) mi_X5_isWithin tw_459 rfl rfl (Nat.le_of_ble_eq_true rfl) ⟨⟨rfl, rfl⟩, ⟨Nat.le_of_ble_eq_true rfl, Nat.le_of_ble_eq_true rfl⟩, ⟨Nat.zero_le _, Nat.zero_le _⟩⟩ (fun v19 => ?_)
      refine j_if_ne (tgt := 28) C dX5_run_22 (by decide) ?_ ?_
      · refine j_aload_n C dX5_run_28 rfl rfl ?_
        refine j_getR (j := 1) C dX5_run_29 FC5 (XAt.S h0) (by decide) rfl (XAt.R_thought h0) tw_427 ?_
        refine j_aload_n C dX5_run_32 rfl rfl ?_
        refine j_getR (j := 0) C dX5_run_33 FC5 (XAt.S h0) (by decide) rfl (XAt.R_now h0) tw_426 ?_
        refine j_callV_vw (st := []) C dX5_run_36 (ct_X0_become (kγ κ) E M L 6 1 (XAt.P_thought h0) (XAt.P_now h0)) mi_X0_become tw_643 FC0 (FAt.S (XAt.P_thought h0)) rfl rfl (Nat.le_of_ble_eq_true rfl) ⟨⟨rfl, rfl⟩, ⟨Nat.le_of_ble_eq_true rfl, Nat.le_of_ble_eq_true rfl⟩, ⟨Nat.zero_le _, Nat.zero_le _⟩⟩ (fun r36 => ?_)
        refine j_aload_n C dX5_run_39 rfl rfl ?_
        refine j_getR (j := 4) C dX5_run_40 FC5 (XAt.S h0) (by decide) rfl (XAt.R_law h0) tw_430 ?_
        refine j_pc (pc2 := 43) rfl ?_
        refine j_aload_n C dX5_run_43 rfl rfl ?_
        refine j_getR (j := 1) C dX5_run_44 FC5 (XAt.S h0) (by decide) rfl (XAt.R_thought h0) tw_427 ?_
        refine j_iload_n C dX5_run_47 rfl rfl ?_
        refine j_iconst (v := (-1 : Int32)) C dX5_run_48 rfl ?_
        refine j_callV_iw (st := []) C dX5_run_49 (ct_X1_passMinutes (kγ κ) E r36.1 r36.2 6 x2 (-1 : Int32) (XAt.P_law h0) (XAt.P_thought h0)) mi_X1_passMinutes tw_625 FC1 (LAt.S (XAt.P_law h0)) rfl rfl (Nat.le_of_ble_eq_true rfl) ⟨⟨rfl, rfl⟩, ⟨Nat.le_of_ble_eq_true rfl, Nat.le_of_ble_eq_true rfl⟩, ⟨Nat.zero_le _, Nat.zero_le _⟩⟩ (fun r49 => ?_)
        refine j_pop C dX5_run_52 rfl ?_
        refine j_iload_n C dX5_run_53 rfl rfl ?_
        refine j_if_ne (tgt := 67) C dX5_run_54 (by decide) ?_ ?_
        · refine j_iload_n C dX5_run_67 rfl rfl ?_
          refine j_iconst (v := (1 : Int32)) C dX5_run_68 rfl ?_
          refine j_icmp_ne (tgt := 82) C dX5_run_69 (by decide) ?_ ?_
          · refine j_iload_n C dX5_run_82 rfl rfl ?_
            refine j_iconst (v := (2 : Int32)) C dX5_run_83 rfl ?_
            refine j_icmp_ne (tgt := 98) C dX5_run_84 (by decide) ?_ ?_
            · refine j_aload_n C dX5_run_98 rfl rfl ?_
              refine j_getR (j := 1) C dX5_run_99 FC5 (XAt.S h0) (by decide) rfl (XAt.R_thought h0) tw_427 ?_
              refine j_iconst (v := (1 : Int32)) C dX5_run_102 rfl ?_
              refine j_callV_i (st := []) C dX5_run_103 (ct_X0_howManyFound (kγ κ) E r49.2.1 r49.2.2 6 (1 : Int32) (XAt.P_thought h0)) mi_X0_howManyFound tw_648 FC0 (FAt.S (XAt.P_thought h0)) rfl rfl (Nat.le_of_ble_eq_true rfl) ⟨⟨rfl, rfl⟩, ⟨Nat.le_of_ble_eq_true rfl, Nat.le_of_ble_eq_true rfl⟩, ⟨Nat.zero_le _, Nat.zero_le _⟩⟩ (fun v103 => ?_)
              exact j_iretw C dX5_run_106
            · refine j_aload_n C dX5_run_87 rfl rfl ?_
              refine j_getR (j := 1) C dX5_run_88 FC5 (XAt.S h0) (by decide) rfl (XAt.R_thought h0) tw_427 ?_
              refine j_iload_n C dX5_run_91 rfl rfl ?_
              refine j_callV_i (st := []) C dX5_run_92 (ct_X0_foundOf (kγ κ) E r49.2.1 r49.2.2 6 x1 (XAt.P_thought h0)) mi_X0_foundOf tw_552 FC0 (FAt.S (XAt.P_thought h0)) rfl rfl (Nat.le_of_ble_eq_true rfl) ⟨⟨rfl, rfl⟩, ⟨Nat.le_of_ble_eq_true rfl, Nat.le_of_ble_eq_true rfl⟩, ⟨Nat.zero_le _, Nat.zero_le _⟩⟩ (fun v92 => ?_)
              refine j_goto (tgt := 106) C dX5_run_95 (by decide) ?_
              exact j_iretw C dX5_run_106
          · refine j_aload_n C dX5_run_72 rfl rfl ?_
            refine j_getR (j := 1) C dX5_run_73 FC5 (XAt.S h0) (by decide) rfl (XAt.R_thought h0) tw_427 ?_
            refine j_getR (j := 8) C dX5_run_76 FC0 (FAt.S (XAt.P_thought h0)) (by decide) rfl (FAt.R_weary (XAt.P_thought h0)) tw_151 ?_
            refine j_iload_n C dX5_run_79 rfl rfl ?_
            refine j_iald C dX5_run_80 (FAt.P_weary (XAt.P_thought h0)) ?_
            exact j_iretw C dX5_run_81
        · refine j_aload_n C dX5_run_57 rfl rfl ?_
          refine j_getR (j := 1) C dX5_run_58 FC5 (XAt.S h0) (by decide) rfl (XAt.R_thought h0) tw_427 ?_
          refine j_getR (j := 7) C dX5_run_61 FC0 (FAt.S (XAt.P_thought h0)) (by decide) rfl (FAt.R_on (XAt.P_thought h0)) tw_148 ?_
          refine j_iload_n C dX5_run_64 rfl rfl ?_
          refine j_iald C dX5_run_65 (FAt.P_on (XAt.P_thought h0)) ?_
          exact j_iretw C dX5_run_66
      · refine j_bipush (v := (-2 : Int32)) C dX5_run_25 (by decide) ?_
        exact j_iretw C dX5_run_27
set_option maxRecDepth 100000 in
set_option maxHeartbeats 4000000 in
theorem ct_X5_call (γ : Gm) (E : Ev) (M : Mi) (L : Ml)  (x1 : Int32) (x2 : Int32) (x3 : Int32) (h0 : XAt E) : Ct γ yX5_call cX5_call 8 (some .int) ⟨6, 0, 0, 143⟩ [.ref (E.2.1 0), .int x1, .int x2, .int x3] E M L (Q_iw γ E) 0 0 (F_X5_call E M L x1 x2 x3) := by
  refine ct_of (own := RX5) (lv := [some (.ref (E.2.1 0)), some (.int x1), some (.int x2), some (.int x3), none, none, none, none]) (by decide +kernel) rfl rfl (Nat.le_of_ble_eq_true rfl) (fun κ C hγ hN => ?_)
  subst hγ
  have hn : ∀ i, i < 8 → i < knL κ := fun i h => by rw [hN]; exact h
  have k100 : ∀ (kf55 : Mi → Ml → Int32 → Int32 → Int32 → Int32 → Int32 → Int32 → Option (Int32 × Mi × Ml)), (∀ (M : Mi) (L : Ml) (x1 : Int32) (x2 : Int32) (x3 : Int32) (x4 : Int32) (x5 : Int32) (x6 : Int32), JF κ (PQ κ (Q_iw (kγ κ) E) 0 0) 55 [some (.ref (E.2.1 0)), some (.int x1), some (.int x2), some (.int x3), some (.int x4), some (.int x5), some (.int x6), none] [] E M L 0 0 (kf55 M L x1 x2 x3 x4 x5 x6)) → ∀ (M : Mi) (L : Ml) (x1 : Int32) (x2 : Int32) (x3 : Int32) (x4 : Int32) (x5 : Int32) (x6 : Int32), JF κ (PQ κ (Q_iw (kγ κ) E) 0 0) 100 [some (.ref (E.2.1 0)), some (.int x1), some (.int x2), some (.int x3), some (.int x4), some (.int x5), some (.int x6), none] [] E M L 0 0 (F_X5_call_k100 E kf55 M L x1 x2 x3 x4 x5 x6) := by
    intro kf55 hkf55 M L x1 x2 x3 x4 x5 x6
    unfold F_X5_call_k100
    refine j_iinc (i := 6) (v := (x6 + (1 : Int32))) (lv' := [some (.ref (E.2.1 0)), some (.int x1), some (.int x2), some (.int x3), some (.int x4), some (.int x5), some (.int (x6 + (1 : Int32))), none]) C dX5_call_100 rfl rfl (hn 6 (by decide)) rfl ?_
    refine j_goto (tgt := 55) C dX5_call_103 (by decide) ?_
    exact hkf55 M L x1 x2 x3 x4 x5 ((x6 + (1 : Int32)))
  have k55 : ∀ (n : Nat) (M : Mi) (L : Ml) (x1 : Int32) (x2 : Int32) (x3 : Int32) (x4 : Int32) (x5 : Int32) (x6 : Int32), JF κ (PQ κ (Q_iw (kγ κ) E) 0 0) 55 [some (.ref (E.2.1 0)), some (.int x1), some (.int x2), some (.int x3), some (.int x4), some (.int x5), some (.int x6), none] [] E M L 0 0 (F_X5_call_k55 E n M L x1 x2 x3 x4 x5 x6) := by
    intro n
    induction n with
    | zero => intros; exact jf_none
    | succ n ih =>
      intro M L x1 x2 x3 x4 x5 x6
      unfold F_X5_call_k55
      refine j_iload C dX5_call_55 rfl ?_
      refine j_iload_n C dX5_call_57 rfl rfl ?_
      refine j_icmp_gt (tgt := 106) C dX5_call_58 (by decide) ?_ ?_
      · refine j_iload_n C dX5_call_106 rfl rfl ?_
        refine j_if_ne (tgt := 115) C dX5_call_107 (by decide) ?_ ?_
        · refine j_iload C dX5_call_115 rfl ?_
          exact j_iretw C dX5_call_117
        · refine j_iload C dX5_call_110 rfl ?_
          refine j_goto (tgt := 117) C dX5_call_112 (by decide) ?_
          exact j_iretw C dX5_call_117
      · refine j_aload_n C dX5_call_61 rfl rfl ?_
        refine j_getR (j := 4) C dX5_call_62 FC5 (XAt.S h0) (by decide) rfl (XAt.R_law h0) tw_430 ?_
        refine j_aload_n C dX5_call_65 rfl rfl ?_
        refine j_getR (j := 1) C dX5_call_66 FC5 (XAt.S h0) (by decide) rfl (XAt.R_thought h0) tw_427 ?_
        refine j_iconst (v := (1 : Int32)) C dX5_call_69 rfl ?_
        refine j_iconst (v := (-1 : Int32)) C dX5_call_70 rfl ?_
        refine j_callV_iw (st := []) C dX5_call_71 (ct_X1_passMinutes (kγ κ) E M L 6 (1 : Int32) (-1 : Int32) (XAt.P_law h0) (XAt.P_thought h0)) mi_X1_passMinutes tw_625 FC1 (LAt.S (XAt.P_law h0)) rfl rfl (Nat.le_of_ble_eq_true rfl) ⟨⟨rfl, rfl⟩, ⟨Nat.le_of_ble_eq_true rfl, Nat.le_of_ble_eq_true rfl⟩, ⟨Nat.zero_le _, Nat.zero_le _⟩⟩ (fun r71 => ?_)
        refine j_pc (pc2 := 74) rfl ?_
        refine j_pop C dX5_call_74 rfl ?_
        refine j_aload_n C dX5_call_75 rfl rfl ?_
        refine j_getR (j := 1) C dX5_call_76 FC5 (XAt.S h0) (by decide) rfl (XAt.R_thought h0) tw_427 ?_
        refine j_iload_n C dX5_call_79 rfl rfl ?_
        refine j_callV_i (st := []) C dX5_call_80 (ct_X0_howManyFound (kγ κ) E r71.2.1 r71.2.2 6 x1 (XAt.P_thought h0)) mi_X0_howManyFound tw_648 FC0 (FAt.S (XAt.P_thought h0)) rfl rfl (Nat.le_of_ble_eq_true rfl) ⟨⟨rfl, rfl⟩, ⟨Nat.le_of_ble_eq_true rfl, Nat.le_of_ble_eq_true rfl⟩, ⟨Nat.zero_le _, Nat.zero_le _⟩⟩ (fun v80 => ?_)
        refine j_istore (i := 7) (lv' := [some (.ref (E.2.1 0)), some (.int x1), some (.int x2), some (.int x3), some (.int x4), some (.int x5), some (.int x6), some (.int v80)]) C dX5_call_83 (hn 7 (by decide)) rfl ?_
        refine j_iload C dX5_call_85 rfl ?_
        refine j_iload C dX5_call_87 rfl ?_
        refine j_pc (pc2 := 89) rfl ?_
        refine j_icmp_le (tgt := 100) C dX5_call_89 (by decide) ?_ ?_
        · refine j_mask [true, true, true, true, true, true, true, false] (lv' := [some (.ref (E.2.1 0)), some (.int x1), some (.int x2), some (.int x3), some (.int x4), some (.int x5), some (.int x6), none]) rfl ?_
          exact k100 (F_X5_call_k55 E n) ih r71.2.1 r71.2.2 x1 x2 x3 x4 x5 x6
        · refine j_iload C dX5_call_92 rfl ?_
          refine j_istore (i := 5) (lv' := [some (.ref (E.2.1 0)), some (.int x1), some (.int x2), some (.int x3), some (.int x4), some (.int v80), some (.int x6), some (.int v80)]) C dX5_call_94 (hn 5 (by decide)) rfl ?_
          refine j_iload C dX5_call_96 rfl ?_
          refine j_istore (i := 4) (lv' := [some (.ref (E.2.1 0)), some (.int x1), some (.int x2), some (.int x3), some (.int x6), some (.int v80), some (.int x6), some (.int v80)]) C dX5_call_98 (hn 4 (by decide)) rfl ?_
          refine j_mask [true, true, true, true, true, true, true, false] (lv' := [some (.ref (E.2.1 0)), some (.int x1), some (.int x2), some (.int x3), some (.int x6), some (.int v80), some (.int x6), none]) rfl ?_
          exact k100 (F_X5_call_k55 E n) ih r71.2.1 r71.2.2 x1 x2 x3 x6 v80 x6
  unfold F_X5_call
  refine j_iload_n C dX5_call_0 rfl rfl ?_
  refine j_iconst (v := (2 : Int32)) C dX5_call_1 rfl ?_
  refine j_callS_i (st := []) C dX5_call_2 (ct_X5_isWithin (kγ κ) E M L x1 (2 : Int32)) mi_X5_isWithin tw_459 rfl rfl (Nat.le_of_ble_eq_true rfl) ⟨⟨rfl, rfl⟩, ⟨Nat.le_of_ble_eq_true rfl, Nat.le_of_ble_eq_true rfl⟩, ⟨Nat.zero_le _, Nat.zero_le _⟩⟩ (fun v2 => ?_)
  refine j_if_eq (tgt := 25) C dX5_call_5 (by decide) ?_ ?_
  · refine j_bipush (v := (-2 : Int32)) C dX5_call_25 (by decide) ?_
    exact j_iretw C dX5_call_27
  · refine j_iload_n C dX5_call_8 rfl rfl ?_
    refine j_bipush (v := (40 : Int32)) C dX5_call_9 (by decide) ?_
    refine j_callS_i (st := []) C dX5_call_11 (ct_X5_isWithin (kγ κ) E M L x2 (40 : Int32)) mi_X5_isWithin tw_459 rfl rfl (Nat.le_of_ble_eq_true rfl) ⟨⟨rfl, rfl⟩, ⟨Nat.le_of_ble_eq_true rfl, Nat.le_of_ble_eq_true rfl⟩, ⟨Nat.zero_le _, Nat.zero_le _⟩⟩ (fun v11 => ?_)
    refine j_if_eq (tgt := 25) C dX5_call_14 (by decide) ?_ ?_
    · refine j_bipush (v := (-2 : Int32)) C dX5_call_25 (by decide) ?_
      exact j_iretw C dX5_call_27
    · refine j_iload_n C dX5_call_17 rfl rfl ?_
      refine j_iconst (v := (1 : Int32)) C dX5_call_18 rfl ?_
      refine j_callS_i (st := []) C dX5_call_19 (ct_X5_isWithin (kγ κ) E M L x3 (1 : Int32)) mi_X5_isWithin tw_459 rfl rfl (Nat.le_of_ble_eq_true rfl) ⟨⟨rfl, rfl⟩, ⟨Nat.le_of_ble_eq_true rfl, Nat.le_of_ble_eq_true rfl⟩, ⟨Nat.zero_le _, Nat.zero_le _⟩⟩ (fun v19 => ?_)
      refine j_if_ne (tgt := 28) C dX5_call_22 (by decide) ?_ ?_
      · refine j_aload_n C dX5_call_28 rfl rfl ?_
        refine j_getR (j := 1) C dX5_call_29 FC5 (XAt.S h0) (by decide) rfl (XAt.R_thought h0) tw_427 ?_
        refine j_aload_n C dX5_call_32 rfl rfl ?_
        refine j_getR (j := 0) C dX5_call_33 FC5 (XAt.S h0) (by decide) rfl (XAt.R_now h0) tw_426 ?_
        refine j_callV_vw (st := []) C dX5_call_36 (ct_X0_become (kγ κ) E M L 6 1 (XAt.P_thought h0) (XAt.P_now h0)) mi_X0_become tw_643 FC0 (FAt.S (XAt.P_thought h0)) rfl rfl (Nat.le_of_ble_eq_true rfl) ⟨⟨rfl, rfl⟩, ⟨Nat.le_of_ble_eq_true rfl, Nat.le_of_ble_eq_true rfl⟩, ⟨Nat.zero_le _, Nat.zero_le _⟩⟩ (fun r36 => ?_)
        refine j_iconst (v := (0 : Int32)) C dX5_call_39 rfl ?_
        refine j_istore (i := 4) (lv' := [some (.ref (E.2.1 0)), some (.int x1), some (.int x2), some (.int x3), some (.int (0 : Int32)), none, none, none]) C dX5_call_40 (hn 4 (by decide)) rfl ?_
        refine j_pc (pc2 := 42) rfl ?_
        refine j_aload_n C dX5_call_42 rfl rfl ?_
        refine j_getR (j := 1) C dX5_call_43 FC5 (XAt.S h0) (by decide) rfl (XAt.R_thought h0) tw_427 ?_
        refine j_iload_n C dX5_call_46 rfl rfl ?_
        refine j_callV_i (st := []) C dX5_call_47 (ct_X0_howManyFound (kγ κ) E r36.1 r36.2 6 x1 (XAt.P_thought h0)) mi_X0_howManyFound tw_648 FC0 (FAt.S (XAt.P_thought h0)) rfl rfl (Nat.le_of_ble_eq_true rfl) ⟨⟨rfl, rfl⟩, ⟨Nat.le_of_ble_eq_true rfl, Nat.le_of_ble_eq_true rfl⟩, ⟨Nat.zero_le _, Nat.zero_le _⟩⟩ (fun v47 => ?_)
        refine j_istore (i := 5) (lv' := [some (.ref (E.2.1 0)), some (.int x1), some (.int x2), some (.int x3), some (.int (0 : Int32)), some (.int v47), none, none]) C dX5_call_50 (hn 5 (by decide)) rfl ?_
        refine j_iconst (v := (1 : Int32)) C dX5_call_52 rfl ?_
        refine j_istore (i := 6) (lv' := [some (.ref (E.2.1 0)), some (.int x1), some (.int x2), some (.int x3), some (.int (0 : Int32)), some (.int v47), some (.int (1 : Int32)), none]) C dX5_call_53 (hn 6 (by decide)) rfl ?_
        exact k55 FU r36.1 r36.2 x1 x2 x3 ((0 : Int32)) v47 ((1 : Int32))
      · refine j_bipush (v := (-2 : Int32)) C dX5_call_25 (by decide) ?_
        exact j_iretw C dX5_call_27
