set_option maxRecDepth 100000 in
set_option maxHeartbeats 4000000 in
theorem ct_X2_takeIn (γ : Gm) (E : Ev) (M : Mi) (L : Ml)  (x1 : Int32) (h0 : RAt E) : Ct γ yX2_takeIn cX2_takeIn 2 (some .boolean) ⟨0, 0, 0, 0⟩ [.ref (E.2.1 24), .int x1] E M L (Q_iw γ E) 0 0 (F_X2_takeIn M L x1) := by
  refine ct_of (own := RX2) (lv := [some (.ref (E.2.1 24)), some (.int x1)]) (by decide +kernel) rfl rfl (Nat.le_of_ble_eq_true rfl) (fun κ C hγ hN => ?_)
  subst hγ
  have hn : ∀ i, i < 2 → i < knL κ := fun i h => by rw [hN]; exact h
  unfold F_X2_takeIn
  refine j_aload_n C dX2_takeIn_0 rfl rfl ?_
  refine j_getI (j := 2) C dX2_takeIn_1 FC2 (RAt.S h0) (by decide) rfl tw_200 ?_
  refine j_sipush (v := (160 : Int32)) C dX2_takeIn_4 (by decide) ?_
  refine j_icmp_lt (tgt := 12) C dX2_takeIn_7 (by decide) ?_ ?_
  · refine j_aload_n C dX2_takeIn_12 rfl rfl ?_
    refine j_getR (j := 0) C dX2_takeIn_13 FC2 (RAt.S h0) (by decide) rfl (RAt.R_tape h0) tw_198 ?_
    refine j_aload_n C dX2_takeIn_16 rfl rfl ?_
    refine j_getI (j := 2) C dX2_takeIn_17 FC2 (RAt.S h0) (by decide) rfl tw_200 ?_
    refine j_iload_n C dX2_takeIn_20 rfl rfl ?_
    refine j_iast C dX2_takeIn_21 (RAt.P_tape h0) ?_
    refine j_aload_n C dX2_takeIn_22 rfl rfl ?_
    refine j_pc (pc2 := 23) rfl ?_
    refine j_dup C dX2_takeIn_23 rfl ?_
    refine j_getI (j := 2) C dX2_takeIn_24 FC2 (RAt.S h0) (by decide) rfl tw_200 ?_
    refine j_iconst (v := (1 : Int32)) C dX2_takeIn_27 rfl ?_
    refine j_iadd C dX2_takeIn_28 ?_
    refine j_putI (j := 2) C dX2_takeIn_29 FC2 (RAt.S h0) (by decide) rfl rfl rfl rfl tw_200 ?_
    refine j_iconst (v := (1 : Int32)) C dX2_takeIn_32 rfl ?_
    exact j_zretw C dX2_takeIn_33
  · refine j_iconst (v := (0 : Int32)) C dX2_takeIn_10 rfl ?_
    exact j_zretw C dX2_takeIn_11
set_option maxRecDepth 100000 in
set_option maxHeartbeats 4000000 in
theorem ct_X2_clear (γ : Gm) (E : Ev) (M : Mi) (L : Ml)   (h0 : RAt E) : Ct γ yX2_clear cX2_clear 1 none ⟨0, 0, 0, 0⟩ [.ref (E.2.1 24)] E M L (Q_vw γ E) 0 0 (F_X2_clear M L) := by
  refine ct_of (own := RX2) (lv := [some (.ref (E.2.1 24))]) (by decide +kernel) rfl rfl (Nat.le_of_ble_eq_true rfl) (fun κ C hγ hN => ?_)
  subst hγ
  have hn : ∀ i, i < 1 → i < knL κ := fun i h => by rw [hN]; exact h
  unfold F_X2_clear
  refine j_aload_n C dX2_clear_0 rfl rfl ?_
  refine j_iconst (v := (0 : Int32)) C dX2_clear_1 rfl ?_
  refine j_putI (j := 2) C dX2_clear_2 FC2 (RAt.S h0) (by decide) rfl rfl rfl rfl tw_200 ?_
  exact j_vretw C dX2_clear_5
set_option maxRecDepth 100000 in
set_option maxHeartbeats 4000000 in
theorem ct_X2_isDigit (γ : Gm) (E : Ev) (M : Mi) (L : Ml)  (x0 : Int32)  : Ct γ yX2_isDigit cX2_isDigit 1 (some .boolean) ⟨0, 0, 0, 0⟩ [.int x0] E M L (Q_i γ E M L) 0 0 (F_X2_isDigit x0) := by
  refine ct_of (own := RX2) (lv := [some (.int x0)]) (by decide +kernel) rfl rfl (Nat.le_of_ble_eq_true rfl) (fun κ C hγ hN => ?_)
  subst hγ
  have hn : ∀ i, i < 1 → i < knL κ := fun i h => by rw [hN]; exact h
  unfold F_X2_isDigit
  refine j_iload_n C dX2_isDigit_0 rfl rfl ?_
  refine j_bipush (v := (48 : Int32)) C dX2_isDigit_1 (by decide) ?_
  refine j_icmp_lt (tgt := 16) C dX2_isDigit_3 (by decide) ?_ ?_
  · refine j_iconst (v := (0 : Int32)) C dX2_isDigit_16 rfl ?_
    exact j_zret C dX2_isDigit_17
  · refine j_iload_n C dX2_isDigit_6 rfl rfl ?_
    refine j_bipush (v := (57 : Int32)) C dX2_isDigit_7 (by decide) ?_
    refine j_icmp_gt (tgt := 16) C dX2_isDigit_9 (by decide) ?_ ?_
    · refine j_iconst (v := (0 : Int32)) C dX2_isDigit_16 rfl ?_
      exact j_zret C dX2_isDigit_17
    · refine j_iconst (v := (1 : Int32)) C dX2_isDigit_12 rfl ?_
      refine j_goto (tgt := 17) C dX2_isDigit_13 (by decide) ?_
      exact j_zret C dX2_isDigit_17
set_option maxRecDepth 100000 in
set_option maxHeartbeats 4000000 in
theorem ct_X2_isLetter (γ : Gm) (E : Ev) (M : Mi) (L : Ml)  (x0 : Int32)  : Ct γ yX2_isLetter cX2_isLetter 1 (some .boolean) ⟨0, 0, 0, 0⟩ [.int x0] E M L (Q_i γ E M L) 0 0 (F_X2_isLetter x0) := by
  refine ct_of (own := RX2) (lv := [some (.int x0)]) (by decide +kernel) rfl rfl (Nat.le_of_ble_eq_true rfl) (fun κ C hγ hN => ?_)
  subst hγ
  have hn : ∀ i, i < 1 → i < knL κ := fun i h => by rw [hN]; exact h
  unfold F_X2_isLetter
  refine j_iload_n C dX2_isLetter_0 rfl rfl ?_
  refine j_bipush (v := (97 : Int32)) C dX2_isLetter_1 (by decide) ?_
  refine j_icmp_lt (tgt := 16) C dX2_isLetter_3 (by decide) ?_ ?_
  · refine j_iconst (v := (0 : Int32)) C dX2_isLetter_16 rfl ?_
    exact j_zret C dX2_isLetter_17
  · refine j_iload_n C dX2_isLetter_6 rfl rfl ?_
    refine j_bipush (v := (122 : Int32)) C dX2_isLetter_7 (by decide) ?_
    refine j_icmp_gt (tgt := 16) C dX2_isLetter_9 (by decide) ?_ ?_
    · refine j_iconst (v := (0 : Int32)) C dX2_isLetter_16 rfl ?_
      exact j_zret C dX2_isLetter_17
    · refine j_iconst (v := (1 : Int32)) C dX2_isLetter_12 rfl ?_
      refine j_goto (tgt := 17) C dX2_isLetter_13 (by decide) ?_
      exact j_zret C dX2_isLetter_17
set_option maxRecDepth 100000 in
set_option maxHeartbeats 4000000 in
theorem ct_X2_isSign (γ : Gm) (E : Ev) (M : Mi) (L : Ml)  (x0 : Int32)  : Ct γ yX2_isSign cX2_isSign 1 (some .boolean) ⟨0, 0, 0, 0⟩ [.int x0] E M L (Q_i γ E M L) 0 0 (F_X2_isSign x0) := by
  refine ct_of (own := RX2) (lv := [some (.int x0)]) (by decide +kernel) rfl rfl (Nat.le_of_ble_eq_true rfl) (fun κ C hγ hN => ?_)
  subst hγ
  have hn : ∀ i, i < 1 → i < knL κ := fun i h => by rw [hN]; exact h
  have k48 : JF κ (PQ κ (Q_i (kγ κ) E M L) 0 0) 48 [none] [] E M L 0 0 (F_X2_isSign_k48 ) := by
    unfold F_X2_isSign_k48
    refine j_iconst (v := (1 : Int32)) C dX2_isSign_48 rfl ?_
    refine j_goto (tgt := 53) C dX2_isSign_49 (by decide) ?_
    exact j_zret C dX2_isSign_53
  unfold F_X2_isSign
  refine j_iload_n C dX2_isSign_0 rfl rfl ?_
  refine j_bipush (v := (40 : Int32)) C dX2_isSign_1 (by decide) ?_
  refine j_icmp_eq (tgt := 48) C dX2_isSign_3 (by decide) ?_ ?_
  · refine j_mask [false] (lv' := [none]) rfl ?_
    exact k48 
  · refine j_iload_n C dX2_isSign_6 rfl rfl ?_
    refine j_bipush (v := (41 : Int32)) C dX2_isSign_7 (by decide) ?_
    refine j_icmp_eq (tgt := 48) C dX2_isSign_9 (by decide) ?_ ?_
    · refine j_mask [false] (lv' := [none]) rfl ?_
      exact k48 
    · refine j_iload_n C dX2_isSign_12 rfl rfl ?_
      refine j_bipush (v := (59 : Int32)) C dX2_isSign_13 (by decide) ?_
      refine j_icmp_eq (tgt := 48) C dX2_isSign_15 (by decide) ?_ ?_
      · refine j_mask [false] (lv' := [none]) rfl ?_
        exact k48 
      · refine j_iload_n C dX2_isSign_18 rfl rfl ?_
        refine j_bipush (v := (43 : Int32)) C dX2_isSign_19 (by decide) ?_
        refine j_icmp_eq (tgt := 48) C dX2_isSign_21 (by decide) ?_ ?_
        · refine j_mask [false] (lv' := [none]) rfl ?_
          exact k48 
        · refine j_iload_n C dX2_isSign_24 rfl rfl ?_
          refine j_bipush (v := (45 : Int32)) C dX2_isSign_25 (by decide) ?_
          refine j_icmp_eq (tgt := 48) C dX2_isSign_27 (by decide) ?_ ?_
          · refine j_mask [false] (lv' := [none]) rfl ?_
            exact k48 
          · refine j_iload_n C dX2_isSign_30 rfl rfl ?_
            refine j_bipush (v := (42 : Int32)) C dX2_isSign_31 (by decide) ?_
            refine j_icmp_eq (tgt := 48) C dX2_isSign_33 (by decide) ?_ ?_
            · refine j_mask [false] (lv' := [none]) rfl ?_
              exact k48 
            · refine j_iload_n C dX2_isSign_36 rfl rfl ?_
              refine j_bipush (v := (60 : Int32)) C dX2_isSign_37 (by decide) ?_
              refine j_icmp_eq (tgt := 48) C dX2_isSign_39 (by decide) ?_ ?_
              · refine j_mask [false] (lv' := [none]) rfl ?_
                exact k48 
              · refine j_iload_n C dX2_isSign_42 rfl rfl ?_
                refine j_bipush (v := (61 : Int32)) C dX2_isSign_43 (by decide) ?_
                refine j_icmp_ne (tgt := 52) C dX2_isSign_45 (by decide) ?_ ?_
                · refine j_iconst (v := (0 : Int32)) C dX2_isSign_52 rfl ?_
                  exact j_zret C dX2_isSign_53
                · refine j_mask [false] (lv' := [none]) rfl ?_
                  exact k48 
set_option maxRecDepth 100000 in
set_option maxHeartbeats 4000000 in
theorem ct_X2_readDigits (γ : Gm) (E : Ev) (M : Mi) (L : Ml)   (h0 : RAt E) : Ct γ yX2_readDigits cX2_readDigits 1 none ⟨1, 0, 0, 20⟩ [.ref (E.2.1 24)] E M L (Q_vw γ E) 0 0 (F_X2_readDigits M L) := by
  refine ct_of (own := RX2) (lv := [some (.ref (E.2.1 24))]) (by decide +kernel) rfl rfl (Nat.le_of_ble_eq_true rfl) (fun κ C hγ hN => ?_)
  subst hγ
  have hn : ∀ i, i < 1 → i < knL κ := fun i h => by rw [hN]; exact h
  have k68 : ∀ (M : Mi) (L : Ml), JF κ (PQ κ (Q_vw (kγ κ) E) 0 0) 68 [some (.ref (E.2.1 24))] [] E M L 0 0 (F_X2_readDigits_k68  M L) := by
    intro M L
    unfold F_X2_readDigits_k68
    refine j_aload_n C dX2_readDigits_68 rfl rfl ?_
    refine j_aload_n C dX2_readDigits_69 rfl rfl ?_
    refine j_getI (j := 6) C dX2_readDigits_70 FC2 (RAt.S h0) (by decide) rfl tw_206 ?_
    refine j_aload_n C dX2_readDigits_73 rfl rfl ?_
    refine j_getI (j := 5) C dX2_readDigits_74 FC2 (RAt.S h0) (by decide) rfl tw_205 ?_
    refine j_isub C dX2_readDigits_77 ?_
    refine j_iconst (v := (4 : Int32)) C dX2_readDigits_78 rfl ?_
    refine j_pc (pc2 := 79) rfl ?_
    refine j_icmp_gt (tgt := 88) C dX2_readDigits_79 (by decide) ?_ ?_
    · refine j_sipush (v := (258 : Int32)) C dX2_readDigits_88 (by decide) ?_
      refine j_putI (j := 4) C dX2_readDigits_91 FC2 (RAt.S h0) (by decide) rfl rfl rfl rfl tw_204 ?_
      exact j_vretw C dX2_readDigits_94
    · refine j_sipush (v := (257 : Int32)) C dX2_readDigits_82 (by decide) ?_
      refine j_goto (tgt := 91) C dX2_readDigits_85 (by decide) ?_
      refine j_putI (j := 4) C dX2_readDigits_91 FC2 (RAt.S h0) (by decide) rfl rfl rfl rfl tw_204 ?_
      exact j_vretw C dX2_readDigits_94
  have k5 : ∀ (n : Nat) (M : Mi) (L : Ml), JF κ (PQ κ (Q_vw (kγ κ) E) 0 0) 5 [some (.ref (E.2.1 24))] [] E M L 0 0 (F_X2_readDigits_k5  n M L) := by
    intro n
    induction n with
    | zero => intros; exact jf_none
    | succ n ih =>
      intro M L
      unfold F_X2_readDigits_k5
      refine j_aload_n C dX2_readDigits_5 rfl rfl ?_
      refine j_getI (j := 6) C dX2_readDigits_6 FC2 (RAt.S h0) (by decide) rfl tw_206 ?_
      refine j_aload_n C dX2_readDigits_9 rfl rfl ?_
      refine j_getI (j := 2) C dX2_readDigits_10 FC2 (RAt.S h0) (by decide) rfl tw_200 ?_
      refine j_icmp_ge (tgt := 68) C dX2_readDigits_13 (by decide) ?_ ?_
      · exact k68 M L
      · refine j_aload_n C dX2_readDigits_16 rfl rfl ?_
        refine j_getR (j := 0) C dX2_readDigits_17 FC2 (RAt.S h0) (by decide) rfl (RAt.R_tape h0) tw_198 ?_
        refine j_aload_n C dX2_readDigits_20 rfl rfl ?_
        refine j_getI (j := 6) C dX2_readDigits_21 FC2 (RAt.S h0) (by decide) rfl tw_206 ?_
        refine j_iald C dX2_readDigits_24 (RAt.P_tape h0) ?_
        refine j_callS_i (st := []) C dX2_readDigits_25 (ct_X2_isDigit (kγ κ) E M L (M 25 (Int32.toNatClampNeg (M 24 6)))) mi_X2_isDigit tw_334 rfl rfl (Nat.le_of_ble_eq_true rfl) ⟨⟨rfl, rfl⟩, ⟨Nat.le_of_ble_eq_true rfl, Nat.le_of_ble_eq_true rfl⟩, ⟨Nat.zero_le _, Nat.zero_le _⟩⟩ (fun v25 => ?_)
        refine j_if_eq (tgt := 68) C dX2_readDigits_28 (by decide) ?_ ?_
        · exact k68 M L
        · refine j_aload_n C dX2_readDigits_31 rfl rfl ?_
          refine j_bipush (v := (10 : Int32)) C dX2_readDigits_32 (by decide) ?_
          refine j_aload_n C dX2_readDigits_34 rfl rfl ?_
          refine j_getI (j := 7) C dX2_readDigits_35 FC2 (RAt.S h0) (by decide) rfl tw_207 ?_
          refine j_imul C dX2_readDigits_38 ?_
          refine j_aload_n C dX2_readDigits_39 rfl rfl ?_
          refine j_getR (j := 0) C dX2_readDigits_40 FC2 (RAt.S h0) (by decide) rfl (RAt.R_tape h0) tw_198 ?_
          refine j_pc (pc2 := 43) rfl ?_
          refine j_aload_n C dX2_readDigits_43 rfl rfl ?_
          refine j_getI (j := 6) C dX2_readDigits_44 FC2 (RAt.S h0) (by decide) rfl tw_206 ?_
          refine j_iald C dX2_readDigits_47 (RAt.P_tape h0) ?_
          refine j_iadd C dX2_readDigits_48 ?_
          refine j_bipush (v := (48 : Int32)) C dX2_readDigits_49 (by decide) ?_
          refine j_isub C dX2_readDigits_51 ?_
          refine j_putI (j := 7) C dX2_readDigits_52 FC2 (RAt.S h0) (by decide) rfl rfl rfl rfl tw_207 ?_
          refine j_aload_n C dX2_readDigits_55 rfl rfl ?_
          refine j_pc (pc2 := 56) rfl ?_
          refine j_dup C dX2_readDigits_56 rfl ?_
          refine j_getI (j := 6) C dX2_readDigits_57 FC2 (RAt.S h0) (by decide) rfl tw_206 ?_
          refine j_iconst (v := (1 : Int32)) C dX2_readDigits_60 rfl ?_
          refine j_iadd C dX2_readDigits_61 ?_
          refine j_putI (j := 6) C dX2_readDigits_62 FC2 (RAt.S h0) (by decide) rfl rfl rfl rfl tw_206 ?_
          refine j_goto (tgt := 5) C dX2_readDigits_65 (by decide) ?_
          exact ih ((up2 (up2 M 24 7 ((((10 : Int32) * (M 24 7)) + (M 25 (Int32.toNatClampNeg (M 24 6)))) - (48 : Int32))) 24 6 (((up2 M 24 7 ((((10 : Int32) * (M 24 7)) + (M 25 (Int32.toNatClampNeg (M 24 6)))) - (48 : Int32))) 24 6) + (1 : Int32)))) L
  unfold F_X2_readDigits
  refine j_aload_n C dX2_readDigits_0 rfl rfl ?_
  refine j_iconst (v := (0 : Int32)) C dX2_readDigits_1 rfl ?_
  refine j_putI (j := 7) C dX2_readDigits_2 FC2 (RAt.S h0) (by decide) rfl rfl rfl rfl tw_207 ?_
  exact k5 FU ((up2 M 24 7 (0 : Int32))) L
set_option maxRecDepth 100000 in
set_option maxHeartbeats 4000000 in
theorem ct_X2_spells (γ : Gm) (E : Ev) (M : Mi) (L : Ml) (w1 : Nat)  (h0 : RAt E) (hw1 : w1 < 13) : Ct γ yX2_spells cX2_spells 3 (some .boolean) ⟨6, 0, 0, 260⟩ [.ref (E.2.1 24), .ref (gK γ w1)] E M L (Q_i γ E M L) 0 0 (F_X2_spells w1 M L) := by
  refine ct_of (own := RX2) (lv := [some (.ref (E.2.1 24)), some (.ref (gK γ w1)), none]) (by decide +kernel) rfl rfl (Nat.le_of_ble_eq_true rfl) (fun κ C hγ hN => ?_)
  subst hγ
  have hn : ∀ i, i < 3 → i < knL κ := fun i h => by rw [hN]; exact h
  have k20 : ∀ (n : Nat) (x2 : Int32), JF κ (PQ κ (Q_i (kγ κ) E M L) 0 0) 20 [some (.ref (E.2.1 24)), some (.ref (gK (kγ κ) w1)), some (.int x2)] [] E M L 0 0 (F_X2_spells_k20 w1 M L n x2) := by
    intro n
    induction n with
    | zero => intros; exact jf_none
    | succ n ih =>
      intro x2
      unfold F_X2_spells_k20
      refine j_iload_n C dX2_spells_20 rfl rfl ?_
      refine j_aload_n C dX2_spells_21 rfl rfl ?_
      refine j_strLen C dX2_spells_22 hw1 mi_J0_length tw_321 (lv_room0 (Nat.le_of_ble_eq_true rfl)) (Nat.le_of_ble_eq_true rfl) (Nat.le_of_ble_eq_true rfl) ⟨Nat.zero_le _, Nat.zero_le _⟩ ?_
      refine j_icmp_ge (tgt := 55) C dX2_spells_25 (by decide) ?_ ?_
      · refine j_iconst (v := (1 : Int32)) C dX2_spells_55 rfl ?_
        exact j_zret C dX2_spells_56
      · refine j_aload_n C dX2_spells_28 rfl rfl ?_
        refine j_getR (j := 0) C dX2_spells_29 FC2 (RAt.S h0) (by decide) rfl (RAt.R_tape h0) tw_198 ?_
        refine j_aload_n C dX2_spells_32 rfl rfl ?_
        refine j_getI (j := 5) C dX2_spells_33 FC2 (RAt.S h0) (by decide) rfl tw_205 ?_
        refine j_iload_n C dX2_spells_36 rfl rfl ?_
        refine j_iadd C dX2_spells_37 ?_
        refine j_iald C dX2_spells_38 (RAt.P_tape h0) ?_
        refine j_pc (pc2 := 39) rfl ?_
        refine j_aload_n C dX2_spells_39 rfl rfl ?_
        refine j_iload_n C dX2_spells_40 rfl rfl ?_
        refine j_strAt C dX2_spells_41 hw1 mi_J0_charAt tw_322 (lv_room0 (Nat.le_of_ble_eq_true rfl)) (Nat.le_of_ble_eq_true rfl) (Nat.le_of_ble_eq_true rfl) ⟨Nat.zero_le _, Nat.zero_le _⟩ ?_
        refine j_icmp_eq (tgt := 49) C dX2_spells_44 (by decide) ?_ ?_
        · refine j_iinc (i := 2) (v := (x2 + (1 : Int32))) (lv' := [some (.ref (E.2.1 24)), some (.ref (gK (kγ κ) w1)), some (.int (x2 + (1 : Int32)))]) C dX2_spells_49 rfl rfl (hn 2 (by decide)) rfl ?_
          refine j_goto (tgt := 20) C dX2_spells_52 (by decide) ?_
          exact ih ((x2 + (1 : Int32)))
        · refine j_iconst (v := (0 : Int32)) C dX2_spells_47 rfl ?_
          exact j_zret C dX2_spells_48
  unfold F_X2_spells
  refine j_aload_n C dX2_spells_0 rfl rfl ?_
  refine j_getI (j := 6) C dX2_spells_1 FC2 (RAt.S h0) (by decide) rfl tw_206 ?_
  refine j_aload_n C dX2_spells_4 rfl rfl ?_
  refine j_getI (j := 5) C dX2_spells_5 FC2 (RAt.S h0) (by decide) rfl tw_205 ?_
  refine j_isub C dX2_spells_8 ?_
  refine j_aload_n C dX2_spells_9 rfl rfl ?_
  refine j_strLen C dX2_spells_10 hw1 mi_J0_length tw_321 (lv_room0 (Nat.le_of_ble_eq_true rfl)) (Nat.le_of_ble_eq_true rfl) (Nat.le_of_ble_eq_true rfl) ⟨Nat.zero_le _, Nat.zero_le _⟩ ?_
  refine j_pc (pc2 := 13) rfl ?_
  refine j_icmp_eq (tgt := 18) C dX2_spells_13 (by decide) ?_ ?_
  · refine j_iconst (v := (0 : Int32)) C dX2_spells_18 rfl ?_
    refine j_istore_n (i := 2) (lv' := [some (.ref (E.2.1 24)), some (.ref (gK (kγ κ) w1)), some (.int (0 : Int32))]) C dX2_spells_19 rfl (hn 2 (by decide)) rfl ?_
    exact k20 FU ((0 : Int32))
  · refine j_iconst (v := (0 : Int32)) C dX2_spells_16 rfl ?_
    exact j_zret C dX2_spells_17
set_option maxRecDepth 100000 in
set_option maxHeartbeats 4000000 in
theorem ct_X2_wordRead (γ : Gm) (E : Ev) (M : Mi) (L : Ml)   (h0 : RAt E) : Ct γ yX2_wordRead cX2_wordRead 1 (some .int) ⟨7, 0, 0, 282⟩ [.ref (E.2.1 24)] E M L (Q_i γ E M L) 0 0 (F_X2_wordRead M L) := by
  refine ct_of (own := RX2) (lv := [some (.ref (E.2.1 24))]) (by decide +kernel) rfl rfl (Nat.le_of_ble_eq_true rfl) (fun κ C hγ hN => ?_)
  subst hγ
  have hn : ∀ i, i < 1 → i < knL κ := fun i h => by rw [hN]; exact h
  unfold F_X2_wordRead
  refine j_aload_n C dX2_wordRead_0 rfl rfl ?_
  refine j_ldcS (i := 1) C dX2_wordRead_1 (by decide) rfl ?_
  refine j_callV_i (st := []) C dX2_wordRead_3 (ct_X2_spells (kγ κ) E M L 1 h0 (by decide)) mi_X2_spells tw_317 FC2 (RAt.S h0) rfl rfl (Nat.le_of_ble_eq_true rfl) ⟨⟨rfl, rfl⟩, ⟨Nat.le_of_ble_eq_true rfl, Nat.le_of_ble_eq_true rfl⟩, ⟨Nat.zero_le _, Nat.zero_le _⟩⟩ (fun v3 => ?_)
  refine j_if_eq (tgt := 13) C dX2_wordRead_6 (by decide) ?_ ?_
  · refine j_aload_n C dX2_wordRead_13 rfl rfl ?_
    refine j_ldcS (i := 2) C dX2_wordRead_14 (by decide) rfl ?_
    refine j_callV_i (st := []) C dX2_wordRead_16 (ct_X2_spells (kγ κ) E M L 2 h0 (by decide)) mi_X2_spells tw_317 FC2 (RAt.S h0) rfl rfl (Nat.le_of_ble_eq_true rfl) ⟨⟨rfl, rfl⟩, ⟨Nat.le_of_ble_eq_true rfl, Nat.le_of_ble_eq_true rfl⟩, ⟨Nat.zero_le _, Nat.zero_le _⟩⟩ (fun v16 => ?_)
    refine j_if_eq (tgt := 27) C dX2_wordRead_19 (by decide) ?_ ?_
    · refine j_aload_n C dX2_wordRead_27 rfl rfl ?_
      refine j_ldcS (i := 3) C dX2_wordRead_28 (by decide) rfl ?_
      refine j_callV_i (st := []) C dX2_wordRead_30 (ct_X2_spells (kγ κ) E M L 3 h0 (by decide)) mi_X2_spells tw_317 FC2 (RAt.S h0) rfl rfl (Nat.le_of_ble_eq_true rfl) ⟨⟨rfl, rfl⟩, ⟨Nat.le_of_ble_eq_true rfl, Nat.le_of_ble_eq_true rfl⟩, ⟨Nat.zero_le _, Nat.zero_le _⟩⟩ (fun v30 => ?_)
      refine j_if_eq (tgt := 41) C dX2_wordRead_33 (by decide) ?_ ?_
      · refine j_aload_n C dX2_wordRead_41 rfl rfl ?_
        refine j_ldcS (i := 4) C dX2_wordRead_42 (by decide) rfl ?_
        refine j_callV_i (st := []) C dX2_wordRead_44 (ct_X2_spells (kγ κ) E M L 4 h0 (by decide)) mi_X2_spells tw_317 FC2 (RAt.S h0) rfl rfl (Nat.le_of_ble_eq_true rfl) ⟨⟨rfl, rfl⟩, ⟨Nat.le_of_ble_eq_true rfl, Nat.le_of_ble_eq_true rfl⟩, ⟨Nat.zero_le _, Nat.zero_le _⟩⟩ (fun v44 => ?_)
        refine j_if_eq (tgt := 55) C dX2_wordRead_47 (by decide) ?_ ?_
        · refine j_aload_n C dX2_wordRead_55 rfl rfl ?_
          refine j_ldcS (i := 5) C dX2_wordRead_56 (by decide) rfl ?_
          refine j_callV_i (st := []) C dX2_wordRead_58 (ct_X2_spells (kγ κ) E M L 5 h0 (by decide)) mi_X2_spells tw_317 FC2 (RAt.S h0) rfl rfl (Nat.le_of_ble_eq_true rfl) ⟨⟨rfl, rfl⟩, ⟨Nat.le_of_ble_eq_true rfl, Nat.le_of_ble_eq_true rfl⟩, ⟨Nat.zero_le _, Nat.zero_le _⟩⟩ (fun v58 => ?_)
          refine j_if_eq (tgt := 69) C dX2_wordRead_61 (by decide) ?_ ?_
          · refine j_aload_n C dX2_wordRead_69 rfl rfl ?_
            refine j_ldcS (i := 6) C dX2_wordRead_70 (by decide) rfl ?_
            refine j_callV_i (st := []) C dX2_wordRead_72 (ct_X2_spells (kγ κ) E M L 6 h0 (by decide)) mi_X2_spells tw_317 FC2 (RAt.S h0) rfl rfl (Nat.le_of_ble_eq_true rfl) ⟨⟨rfl, rfl⟩, ⟨Nat.le_of_ble_eq_true rfl, Nat.le_of_ble_eq_true rfl⟩, ⟨Nat.zero_le _, Nat.zero_le _⟩⟩ (fun v72 => ?_)
            refine j_if_eq (tgt := 83) C dX2_wordRead_75 (by decide) ?_ ?_
            · refine j_aload_n C dX2_wordRead_83 rfl rfl ?_
              refine j_ldcS (i := 7) C dX2_wordRead_84 (by decide) rfl ?_
              refine j_callV_i (st := []) C dX2_wordRead_86 (ct_X2_spells (kγ κ) E M L 7 h0 (by decide)) mi_X2_spells tw_317 FC2 (RAt.S h0) rfl rfl (Nat.le_of_ble_eq_true rfl) ⟨⟨rfl, rfl⟩, ⟨Nat.le_of_ble_eq_true rfl, Nat.le_of_ble_eq_true rfl⟩, ⟨Nat.zero_le _, Nat.zero_le _⟩⟩ (fun v86 => ?_)
              refine j_if_eq (tgt := 98) C dX2_wordRead_89 (by decide) ?_ ?_
              · refine j_aload_n C dX2_wordRead_98 rfl rfl ?_
                refine j_ldcS (i := 8) C dX2_wordRead_99 (by decide) rfl ?_
                refine j_callV_i (st := []) C dX2_wordRead_101 (ct_X2_spells (kγ κ) E M L 8 h0 (by decide)) mi_X2_spells tw_317 FC2 (RAt.S h0) rfl rfl (Nat.le_of_ble_eq_true rfl) ⟨⟨rfl, rfl⟩, ⟨Nat.le_of_ble_eq_true rfl, Nat.le_of_ble_eq_true rfl⟩, ⟨Nat.zero_le _, Nat.zero_le _⟩⟩ (fun v101 => ?_)
                refine j_if_eq (tgt := 113) C dX2_wordRead_104 (by decide) ?_ ?_
                · refine j_aload_n C dX2_wordRead_113 rfl rfl ?_
                  refine j_ldcS (i := 9) C dX2_wordRead_114 (by decide) rfl ?_
                  refine j_callV_i (st := []) C dX2_wordRead_116 (ct_X2_spells (kγ κ) E M L 9 h0 (by decide)) mi_X2_spells tw_317 FC2 (RAt.S h0) rfl rfl (Nat.le_of_ble_eq_true rfl) ⟨⟨rfl, rfl⟩, ⟨Nat.le_of_ble_eq_true rfl, Nat.le_of_ble_eq_true rfl⟩, ⟨Nat.zero_le _, Nat.zero_le _⟩⟩ (fun v116 => ?_)
                  refine j_if_eq (tgt := 128) C dX2_wordRead_119 (by decide) ?_ ?_
                  · refine j_aload_n C dX2_wordRead_128 rfl rfl ?_
                    refine j_ldcS (i := 10) C dX2_wordRead_129 (by decide) rfl ?_
                    refine j_callV_i (st := []) C dX2_wordRead_131 (ct_X2_spells (kγ κ) E M L 10 h0 (by decide)) mi_X2_spells tw_317 FC2 (RAt.S h0) rfl rfl (Nat.le_of_ble_eq_true rfl) ⟨⟨rfl, rfl⟩, ⟨Nat.le_of_ble_eq_true rfl, Nat.le_of_ble_eq_true rfl⟩, ⟨Nat.zero_le _, Nat.zero_le _⟩⟩ (fun v131 => ?_)
                    refine j_if_eq (tgt := 143) C dX2_wordRead_134 (by decide) ?_ ?_
                    · refine j_aload_n C dX2_wordRead_143 rfl rfl ?_
                      refine j_ldcS (i := 11) C dX2_wordRead_144 (by decide) rfl ?_
                      refine j_callV_i (st := []) C dX2_wordRead_146 (ct_X2_spells (kγ κ) E M L 11 h0 (by decide)) mi_X2_spells tw_317 FC2 (RAt.S h0) rfl rfl (Nat.le_of_ble_eq_true rfl) ⟨⟨rfl, rfl⟩, ⟨Nat.le_of_ble_eq_true rfl, Nat.le_of_ble_eq_true rfl⟩, ⟨Nat.zero_le _, Nat.zero_le _⟩⟩ (fun v146 => ?_)
                      refine j_if_eq (tgt := 158) C dX2_wordRead_149 (by decide) ?_ ?_
                      · refine j_aload_n C dX2_wordRead_158 rfl rfl ?_
                        refine j_ldcS (i := 12) C dX2_wordRead_159 (by decide) rfl ?_
                        refine j_callV_i (st := []) C dX2_wordRead_161 (ct_X2_spells (kγ κ) E M L 12 h0 (by decide)) mi_X2_spells tw_317 FC2 (RAt.S h0) rfl rfl (Nat.le_of_ble_eq_true rfl) ⟨⟨rfl, rfl⟩, ⟨Nat.le_of_ble_eq_true rfl, Nat.le_of_ble_eq_true rfl⟩, ⟨Nat.zero_le _, Nat.zero_le _⟩⟩ (fun v161 => ?_)
                        refine j_if_eq (tgt := 173) C dX2_wordRead_164 (by decide) ?_ ?_
                        · refine j_sipush (v := (258 : Int32)) C dX2_wordRead_173 (by decide) ?_
                          exact j_iret C dX2_wordRead_176
                        · refine j_sipush (v := (264 : Int32)) C dX2_wordRead_167 (by decide) ?_
                          refine j_goto (tgt := 176) C dX2_wordRead_170 (by decide) ?_
                          exact j_iret C dX2_wordRead_176
                      · refine j_sipush (v := (263 : Int32)) C dX2_wordRead_152 (by decide) ?_
                        refine j_goto (tgt := 176) C dX2_wordRead_155 (by decide) ?_
                        exact j_iret C dX2_wordRead_176
                    · refine j_sipush (v := (262 : Int32)) C dX2_wordRead_137 (by decide) ?_
                      refine j_goto (tgt := 176) C dX2_wordRead_140 (by decide) ?_
                      exact j_iret C dX2_wordRead_176
                  · refine j_sipush (v := (261 : Int32)) C dX2_wordRead_122 (by decide) ?_
                    refine j_goto (tgt := 176) C dX2_wordRead_125 (by decide) ?_
                    exact j_iret C dX2_wordRead_176
                · refine j_sipush (v := (260 : Int32)) C dX2_wordRead_107 (by decide) ?_
                  refine j_goto (tgt := 176) C dX2_wordRead_110 (by decide) ?_
                  exact j_iret C dX2_wordRead_176
              · refine j_sipush (v := (259 : Int32)) C dX2_wordRead_92 (by decide) ?_
                refine j_goto (tgt := 176) C dX2_wordRead_95 (by decide) ?_
                exact j_iret C dX2_wordRead_176
            · refine j_bipush (v := (-6 : Int32)) C dX2_wordRead_78 (by decide) ?_
              refine j_goto (tgt := 176) C dX2_wordRead_80 (by decide) ?_
              exact j_iret C dX2_wordRead_176
          · refine j_bipush (v := (-5 : Int32)) C dX2_wordRead_64 (by decide) ?_
            refine j_goto (tgt := 176) C dX2_wordRead_66 (by decide) ?_
            exact j_iret C dX2_wordRead_176
        · refine j_bipush (v := (-4 : Int32)) C dX2_wordRead_50 (by decide) ?_
          refine j_goto (tgt := 176) C dX2_wordRead_52 (by decide) ?_
          exact j_iret C dX2_wordRead_176
      · refine j_bipush (v := (-3 : Int32)) C dX2_wordRead_36 (by decide) ?_
        refine j_goto (tgt := 176) C dX2_wordRead_38 (by decide) ?_
        exact j_iret C dX2_wordRead_176
    · refine j_bipush (v := (-2 : Int32)) C dX2_wordRead_22 (by decide) ?_
      refine j_goto (tgt := 176) C dX2_wordRead_24 (by decide) ?_
      exact j_iret C dX2_wordRead_176
  · refine j_iconst (v := (-1 : Int32)) C dX2_wordRead_9 rfl ?_
    refine j_goto (tgt := 176) C dX2_wordRead_10 (by decide) ?_
    exact j_iret C dX2_wordRead_176
set_option maxRecDepth 100000 in
set_option maxHeartbeats 4000000 in
theorem ct_X2_advance (γ : Gm) (E : Ev) (M : Mi) (L : Ml)   (h0 : RAt E) : Ct γ yX2_advance cX2_advance 1 none ⟨8, 0, 0, 302⟩ [.ref (E.2.1 24)] E M L (Q_vw γ E) 0 0 (F_X2_advance M L) := by
  refine ct_of (own := RX2) (lv := [some (.ref (E.2.1 24))]) (by decide +kernel) rfl rfl (Nat.le_of_ble_eq_true rfl) (fun κ C hγ hN => ?_)
  subst hγ
  have hn : ∀ i, i < 1 → i < knL κ := fun i h => by rw [hN]; exact h
  have k199 : ∀ (M : Mi) (L : Ml) (s1 : Int32), JF κ (PQ κ (Q_vw (kγ κ) E) 0 0) 199 [some (.ref (E.2.1 24))] [.int s1, .ref (E.2.1 24)] E M L 0 0 (F_X2_advance_k199  M L s1) := by
    intro M L s1
    unfold F_X2_advance_k199
    refine j_putI (j := 4) C dX2_advance_199 FC2 (RAt.S h0) (by decide) rfl rfl rfl rfl tw_204 ?_
    refine j_aload_n C dX2_advance_202 rfl rfl ?_
    refine j_dup C dX2_advance_203 rfl ?_
    refine j_getI (j := 6) C dX2_advance_204 FC2 (RAt.S h0) (by decide) rfl tw_206 ?_
    refine j_iconst (v := (1 : Int32)) C dX2_advance_207 rfl ?_
    refine j_iadd C dX2_advance_208 ?_
    refine j_putI (j := 6) C dX2_advance_209 FC2 (RAt.S h0) (by decide) rfl rfl rfl rfl tw_206 ?_
    refine j_pc (pc2 := 212) rfl ?_
    exact j_vretw C dX2_advance_212
  have k135 : ∀ (M : Mi) (L : Ml), JF κ (PQ κ (Q_vw (kγ κ) E) 0 0) 135 [some (.ref (E.2.1 24))] [] E M L 0 0 (F_X2_advance_k135  M L) := by
    intro M L
    unfold F_X2_advance_k135
    refine j_aload_n C dX2_advance_135 rfl rfl ?_
    refine j_aload_n C dX2_advance_136 rfl rfl ?_
    refine j_callV_i (st := [.ref (E.2.1 24)]) C dX2_advance_137 (ct_X2_wordRead (kγ κ) E M L h0) mi_X2_wordRead tw_312 FC2 (RAt.S h0) rfl rfl (Nat.le_of_ble_eq_true rfl) ⟨⟨rfl, rfl⟩, ⟨Nat.le_of_ble_eq_true rfl, Nat.le_of_ble_eq_true rfl⟩, ⟨Nat.zero_le _, Nat.zero_le _⟩⟩ (fun v137 => ?_)
    refine j_putI (j := 4) C dX2_advance_140 FC2 (RAt.S h0) (by decide) rfl rfl rfl rfl tw_204 ?_
    refine j_goto (tgt := 212) C dX2_advance_143 (by decide) ?_
    exact j_vretw C dX2_advance_212
  have k96 : ∀ (n : Nat) (M : Mi) (L : Ml), JF κ (PQ κ (Q_vw (kγ κ) E) 0 0) 96 [some (.ref (E.2.1 24))] [] E M L 0 0 (F_X2_advance_k96  n M L) := by
    intro n
    induction n with
    | zero => intros; exact jf_none
    | succ n ih =>
      intro M L
      unfold F_X2_advance_k96
      refine j_aload_n C dX2_advance_96 rfl rfl ?_
      refine j_getI (j := 6) C dX2_advance_97 FC2 (RAt.S h0) (by decide) rfl tw_206 ?_
      refine j_aload_n C dX2_advance_100 rfl rfl ?_
      refine j_getI (j := 2) C dX2_advance_101 FC2 (RAt.S h0) (by decide) rfl tw_200 ?_
      refine j_icmp_ge (tgt := 135) C dX2_advance_104 (by decide) ?_ ?_
      · exact k135 M L
      · refine j_aload_n C dX2_advance_107 rfl rfl ?_
        refine j_getR (j := 0) C dX2_advance_108 FC2 (RAt.S h0) (by decide) rfl (RAt.R_tape h0) tw_198 ?_
        refine j_aload_n C dX2_advance_111 rfl rfl ?_
        refine j_getI (j := 6) C dX2_advance_112 FC2 (RAt.S h0) (by decide) rfl tw_206 ?_
        refine j_iald C dX2_advance_115 (RAt.P_tape h0) ?_
        refine j_callS_i (st := []) C dX2_advance_116 (ct_X2_isLetter (kγ κ) E M L (M 25 (Int32.toNatClampNeg (M 24 6)))) mi_X2_isLetter tw_309 rfl rfl (Nat.le_of_ble_eq_true rfl) ⟨⟨rfl, rfl⟩, ⟨Nat.le_of_ble_eq_true rfl, Nat.le_of_ble_eq_true rfl⟩, ⟨Nat.zero_le _, Nat.zero_le _⟩⟩ (fun v116 => ?_)
        refine j_if_eq (tgt := 135) C dX2_advance_119 (by decide) ?_ ?_
        · exact k135 M L
        · refine j_aload_n C dX2_advance_122 rfl rfl ?_
          refine j_dup C dX2_advance_123 rfl ?_
          refine j_getI (j := 6) C dX2_advance_124 FC2 (RAt.S h0) (by decide) rfl tw_206 ?_
          refine j_iconst (v := (1 : Int32)) C dX2_advance_127 rfl ?_
          refine j_iadd C dX2_advance_128 ?_
          refine j_putI (j := 6) C dX2_advance_129 FC2 (RAt.S h0) (by decide) rfl rfl rfl rfl tw_206 ?_
          refine j_goto (tgt := 96) C dX2_advance_132 (by decide) ?_
          exact ih ((up2 M 24 6 ((M 24 6) + (1 : Int32)))) L
  have k52 : ∀ (M : Mi) (L : Ml), JF κ (PQ κ (Q_vw (kγ κ) E) 0 0) 52 [some (.ref (E.2.1 24))] [] E M L 0 0 (F_X2_advance_k52  M L) := by
    intro M L
    unfold F_X2_advance_k52
    refine j_aload_n C dX2_advance_52 rfl rfl ?_
    refine j_aload_n C dX2_advance_53 rfl rfl ?_
    refine j_getI (j := 6) C dX2_advance_54 FC2 (RAt.S h0) (by decide) rfl tw_206 ?_
    refine j_putI (j := 5) C dX2_advance_57 FC2 (RAt.S h0) (by decide) rfl rfl rfl rfl tw_205 ?_
    refine j_aload_n C dX2_advance_60 rfl rfl ?_
    refine j_getI (j := 6) C dX2_advance_61 FC2 (RAt.S h0) (by decide) rfl tw_206 ?_
    refine j_aload_n C dX2_advance_64 rfl rfl ?_
    refine j_pc (pc2 := 65) rfl ?_
    refine j_getI (j := 2) C dX2_advance_65 FC2 (RAt.S h0) (by decide) rfl tw_200 ?_
    refine j_icmp_lt (tgt := 81) C dX2_advance_68 (by decide) ?_ ?_
    · refine j_aload_n C dX2_advance_81 rfl rfl ?_
      refine j_getR (j := 0) C dX2_advance_82 FC2 (RAt.S h0) (by decide) rfl (RAt.R_tape h0) tw_198 ?_
      refine j_aload_n C dX2_advance_85 rfl rfl ?_
      refine j_getI (j := 6) C dX2_advance_86 FC2 (RAt.S h0) (by decide) rfl tw_206 ?_
      refine j_iald C dX2_advance_89 (RAt.P_tape h0) ?_
      refine j_callS_i (st := []) C dX2_advance_90 (ct_X2_isLetter (kγ κ) E (up2 M 24 5 (M 24 6)) L ((up2 M 24 5 (M 24 6)) 25 (Int32.toNatClampNeg ((up2 M 24 5 (M 24 6)) 24 6)))) mi_X2_isLetter tw_309 rfl rfl (Nat.le_of_ble_eq_true rfl) ⟨⟨rfl, rfl⟩, ⟨Nat.le_of_ble_eq_true rfl, Nat.le_of_ble_eq_true rfl⟩, ⟨Nat.zero_le _, Nat.zero_le _⟩⟩ (fun v90 => ?_)
      refine j_if_eq (tgt := 146) C dX2_advance_93 (by decide) ?_ ?_
      · refine j_aload_n C dX2_advance_146 rfl rfl ?_
        refine j_getR (j := 0) C dX2_advance_147 FC2 (RAt.S h0) (by decide) rfl (RAt.R_tape h0) tw_198 ?_
        refine j_aload_n C dX2_advance_150 rfl rfl ?_
        refine j_getI (j := 6) C dX2_advance_151 FC2 (RAt.S h0) (by decide) rfl tw_206 ?_
        refine j_iald C dX2_advance_154 (RAt.P_tape h0) ?_
        refine j_callS_i (st := []) C dX2_advance_155 (ct_X2_isDigit (kγ κ) E (up2 M 24 5 (M 24 6)) L ((up2 M 24 5 (M 24 6)) 25 (Int32.toNatClampNeg ((up2 M 24 5 (M 24 6)) 24 6)))) mi_X2_isDigit tw_334 rfl rfl (Nat.le_of_ble_eq_true rfl) ⟨⟨rfl, rfl⟩, ⟨Nat.le_of_ble_eq_true rfl, Nat.le_of_ble_eq_true rfl⟩, ⟨Nat.zero_le _, Nat.zero_le _⟩⟩ (fun v155 => ?_)
        refine j_if_eq (tgt := 168) C dX2_advance_158 (by decide) ?_ ?_
        · refine j_aload_n C dX2_advance_168 rfl rfl ?_
          refine j_aload_n C dX2_advance_169 rfl rfl ?_
          refine j_getR (j := 0) C dX2_advance_170 FC2 (RAt.S h0) (by decide) rfl (RAt.R_tape h0) tw_198 ?_
          refine j_aload_n C dX2_advance_173 rfl rfl ?_
          refine j_getI (j := 6) C dX2_advance_174 FC2 (RAt.S h0) (by decide) rfl tw_206 ?_
          refine j_iald C dX2_advance_177 (RAt.P_tape h0) ?_
          refine j_callS_i (st := [.ref (E.2.1 24)]) C dX2_advance_178 (ct_X2_isSign (kγ κ) E (up2 M 24 5 (M 24 6)) L ((up2 M 24 5 (M 24 6)) 25 (Int32.toNatClampNeg ((up2 M 24 5 (M 24 6)) 24 6)))) mi_X2_isSign tw_341 rfl rfl (Nat.le_of_ble_eq_true rfl) ⟨⟨rfl, rfl⟩, ⟨Nat.le_of_ble_eq_true rfl, Nat.le_of_ble_eq_true rfl⟩, ⟨Nat.zero_le _, Nat.zero_le _⟩⟩ (fun v178 => ?_)
          refine j_pc (pc2 := 181) rfl ?_
          refine j_if_eq (tgt := 196) C dX2_advance_181 (by decide) ?_ ?_
          · refine j_sipush (v := (258 : Int32)) C dX2_advance_196 (by decide) ?_
            exact k199 ((up2 M 24 5 (M 24 6))) L ((258 : Int32))
          · refine j_aload_n C dX2_advance_184 rfl rfl ?_
            refine j_getR (j := 0) C dX2_advance_185 FC2 (RAt.S h0) (by decide) rfl (RAt.R_tape h0) tw_198 ?_
            refine j_aload_n C dX2_advance_188 rfl rfl ?_
            refine j_getI (j := 6) C dX2_advance_189 FC2 (RAt.S h0) (by decide) rfl tw_206 ?_
            refine j_iald C dX2_advance_192 (RAt.P_tape h0) ?_
            refine j_goto (tgt := 199) C dX2_advance_193 (by decide) ?_
            exact k199 ((up2 M 24 5 (M 24 6))) L (((up2 M 24 5 (M 24 6)) 25 (Int32.toNatClampNeg ((up2 M 24 5 (M 24 6)) 24 6))))
        · refine j_aload_n C dX2_advance_161 rfl rfl ?_
          refine j_callV_vw (st := []) C dX2_advance_162 (ct_X2_readDigits (kγ κ) E (up2 M 24 5 (M 24 6)) L h0) mi_X2_readDigits tw_337 FC2 (RAt.S h0) rfl rfl (Nat.le_of_ble_eq_true rfl) ⟨⟨rfl, rfl⟩, ⟨Nat.le_of_ble_eq_true rfl, Nat.le_of_ble_eq_true rfl⟩, ⟨Nat.zero_le _, Nat.zero_le _⟩⟩ (fun r162 => ?_)
          refine j_goto (tgt := 212) C dX2_advance_165 (by decide) ?_
          exact j_vretw C dX2_advance_212
      · exact k96 FU ((up2 M 24 5 (M 24 6))) L
    · refine j_aload_n C dX2_advance_71 rfl rfl ?_
      refine j_sipush (v := (256 : Int32)) C dX2_advance_72 (by decide) ?_
      refine j_putI (j := 4) C dX2_advance_75 FC2 (RAt.S h0) (by decide) rfl rfl rfl rfl tw_204 ?_
      refine j_goto (tgt := 212) C dX2_advance_78 (by decide) ?_
      exact j_vretw C dX2_advance_212
  have k39 : ∀ (kf0 : Mi → Ml → Option (Mi × Ml)), (∀ (M : Mi) (L : Ml), JF κ (PQ κ (Q_vw (kγ κ) E) 0 0) 0 [some (.ref (E.2.1 24))] [] E M L 0 0 (kf0 M L)) → ∀ (M : Mi) (L : Ml), JF κ (PQ κ (Q_vw (kγ κ) E) 0 0) 39 [some (.ref (E.2.1 24))] [] E M L 0 0 (F_X2_advance_k39 kf0 M L) := by
    intro kf0 hkf0 M L
    unfold F_X2_advance_k39
    refine j_aload_n C dX2_advance_39 rfl rfl ?_
    refine j_dup C dX2_advance_40 rfl ?_
    refine j_getI (j := 6) C dX2_advance_41 FC2 (RAt.S h0) (by decide) rfl tw_206 ?_
    refine j_iconst (v := (1 : Int32)) C dX2_advance_44 rfl ?_
    refine j_iadd C dX2_advance_45 ?_
    refine j_putI (j := 6) C dX2_advance_46 FC2 (RAt.S h0) (by decide) rfl rfl rfl rfl tw_206 ?_
    refine j_goto (tgt := 0) C dX2_advance_49 (by decide) ?_
    exact hkf0 ((up2 M 24 6 ((M 24 6) + (1 : Int32)))) L
  have k0 : ∀ (n : Nat) (M : Mi) (L : Ml), JF κ (PQ κ (Q_vw (kγ κ) E) 0 0) 0 [some (.ref (E.2.1 24))] [] E M L 0 0 (F_X2_advance_k0  n M L) := by
    intro n
    induction n with
    | zero => intros; exact jf_none
    | succ n ih =>
      intro M L
      unfold F_X2_advance_k0
      refine j_aload_n C dX2_advance_0 rfl rfl ?_
      refine j_getI (j := 6) C dX2_advance_1 FC2 (RAt.S h0) (by decide) rfl tw_206 ?_
      refine j_aload_n C dX2_advance_4 rfl rfl ?_
      refine j_getI (j := 2) C dX2_advance_5 FC2 (RAt.S h0) (by decide) rfl tw_200 ?_
      refine j_icmp_ge (tgt := 52) C dX2_advance_8 (by decide) ?_ ?_
      · exact k52 M L
      · refine j_aload_n C dX2_advance_11 rfl rfl ?_
        refine j_getR (j := 0) C dX2_advance_12 FC2 (RAt.S h0) (by decide) rfl (RAt.R_tape h0) tw_198 ?_
        refine j_aload_n C dX2_advance_15 rfl rfl ?_
        refine j_getI (j := 6) C dX2_advance_16 FC2 (RAt.S h0) (by decide) rfl tw_206 ?_
        refine j_iald C dX2_advance_19 (RAt.P_tape h0) ?_
        refine j_bipush (v := (32 : Int32)) C dX2_advance_20 (by decide) ?_
        refine j_icmp_eq (tgt := 39) C dX2_advance_22 (by decide) ?_ ?_
        · exact k39 (F_X2_advance_k0  n) ih M L
        · refine j_aload_n C dX2_advance_25 rfl rfl ?_
          refine j_getR (j := 0) C dX2_advance_26 FC2 (RAt.S h0) (by decide) rfl (RAt.R_tape h0) tw_198 ?_
          refine j_aload_n C dX2_advance_29 rfl rfl ?_
          refine j_getI (j := 6) C dX2_advance_30 FC2 (RAt.S h0) (by decide) rfl tw_206 ?_
          refine j_iald C dX2_advance_33 (RAt.P_tape h0) ?_
          refine j_bipush (v := (10 : Int32)) C dX2_advance_34 (by decide) ?_
          refine j_icmp_ne (tgt := 52) C dX2_advance_36 (by decide) ?_ ?_
          · exact k52 M L
          · exact k39 (F_X2_advance_k0  n) ih M L
  unfold F_X2_advance
  exact k0 FU M L
set_option maxRecDepth 100000 in
set_option maxHeartbeats 4000000 in
theorem ct_X2_refuse (γ : Gm) (E : Ev) (M : Mi) (L : Ml)   (h0 : RAt E) : Ct γ yX2_refuse cX2_refuse 1 none ⟨0, 0, 0, 0⟩ [.ref (E.2.1 24)] E M L (Q_vw γ E) 0 0 (F_X2_refuse M L) := by
  refine ct_of (own := RX2) (lv := [some (.ref (E.2.1 24))]) (by decide +kernel) rfl rfl (Nat.le_of_ble_eq_true rfl) (fun κ C hγ hN => ?_)
  subst hγ
  have hn : ∀ i, i < 1 → i < knL κ := fun i h => by rw [hN]; exact h
  unfold F_X2_refuse
  refine j_aload_n C dX2_refuse_0 rfl rfl ?_
  refine j_getI (j := 3) C dX2_refuse_1 FC2 (RAt.S h0) (by decide) rfl tw_202 ?_
  refine j_iconst (v := (-1 : Int32)) C dX2_refuse_4 rfl ?_
  refine j_icmp_ne (tgt := 16) C dX2_refuse_5 (by decide) ?_ ?_
  · refine j_aload_n C dX2_refuse_16 rfl rfl ?_
    refine j_sipush (v := (258 : Int32)) C dX2_refuse_17 (by decide) ?_
    refine j_putI (j := 4) C dX2_refuse_20 FC2 (RAt.S h0) (by decide) rfl rfl rfl rfl tw_204 ?_
    exact j_vretw C dX2_refuse_23
  · refine j_aload_n C dX2_refuse_8 rfl rfl ?_
    refine j_aload_n C dX2_refuse_9 rfl rfl ?_
    refine j_getI (j := 5) C dX2_refuse_10 FC2 (RAt.S h0) (by decide) rfl tw_205 ?_
    refine j_putI (j := 3) C dX2_refuse_13 FC2 (RAt.S h0) (by decide) rfl rfl rfl rfl tw_202 ?_
    refine j_aload_n C dX2_refuse_16 rfl rfl ?_
    refine j_sipush (v := (258 : Int32)) C dX2_refuse_17 (by decide) ?_
    refine j_putI (j := 4) C dX2_refuse_20 FC2 (RAt.S h0) (by decide) rfl rfl rfl rfl tw_204 ?_
    refine j_pc (pc2 := 23) rfl ?_
    exact j_vretw C dX2_refuse_23
set_option maxRecDepth 100000 in
set_option maxHeartbeats 4000000 in
theorem ct_X2_need (γ : Gm) (E : Ev) (M : Mi) (L : Ml)  (x1 : Int32) (h0 : RAt E) : Ct γ yX2_need cX2_need 2 none ⟨9, 0, 0, 322⟩ [.ref (E.2.1 24), .int x1] E M L (Q_vw γ E) 0 0 (F_X2_need M L x1) := by
  refine ct_of (own := RX2) (lv := [some (.ref (E.2.1 24)), some (.int x1)]) (by decide +kernel) rfl rfl (Nat.le_of_ble_eq_true rfl) (fun κ C hγ hN => ?_)
  subst hγ
  have hn : ∀ i, i < 2 → i < knL κ := fun i h => by rw [hN]; exact h
  unfold F_X2_need
  refine j_aload_n C dX2_need_0 rfl rfl ?_
  refine j_getI (j := 4) C dX2_need_1 FC2 (RAt.S h0) (by decide) rfl tw_204 ?_
  refine j_iload_n C dX2_need_4 rfl rfl ?_
  refine j_icmp_ne (tgt := 15) C dX2_need_5 (by decide) ?_ ?_
  · refine j_aload_n C dX2_need_15 rfl rfl ?_
    refine j_callV_vw (st := []) C dX2_need_16 (ct_X2_refuse (kγ κ) E M L h0) mi_X2_refuse tw_352 FC2 (RAt.S h0) rfl rfl (Nat.le_of_ble_eq_true rfl) ⟨⟨rfl, rfl⟩, ⟨Nat.le_of_ble_eq_true rfl, Nat.le_of_ble_eq_true rfl⟩, ⟨Nat.zero_le _, Nat.zero_le _⟩⟩ (fun r16 => ?_)
    exact j_vretw C dX2_need_19
  · refine j_aload_n C dX2_need_8 rfl rfl ?_
    refine j_callV_vw (st := []) C dX2_need_9 (ct_X2_advance (kγ κ) E M L h0) mi_X2_advance tw_305 FC2 (RAt.S h0) rfl rfl (Nat.le_of_ble_eq_true rfl) ⟨⟨rfl, rfl⟩, ⟨Nat.le_of_ble_eq_true rfl, Nat.le_of_ble_eq_true rfl⟩, ⟨Nat.zero_le _, Nat.zero_le _⟩⟩ (fun r9 => ?_)
    refine j_goto (tgt := 19) C dX2_need_12 (by decide) ?_
    exact j_vretw C dX2_need_19
set_option maxRecDepth 100000 in
set_option maxHeartbeats 4000000 in
theorem ct_X2_write (γ : Gm) (E : Ev) (M : Mi) (L : Ml)  (x1 : Int32) (h0 : RAt E) : Ct γ yX2_write cX2_write 2 none ⟨0, 0, 0, 0⟩ [.ref (E.2.1 24), .int x1] E M L (Q_vw γ E) 0 0 (F_X2_write M L x1) := by
  refine ct_of (own := RX2) (lv := [some (.ref (E.2.1 24)), some (.int x1)]) (by decide +kernel) rfl rfl (Nat.le_of_ble_eq_true rfl) (fun κ C hγ hN => ?_)
  subst hγ
  have hn : ∀ i, i < 2 → i < knL κ := fun i h => by rw [hN]; exact h
  unfold F_X2_write
  refine j_aload_n C dX2_write_0 rfl rfl ?_
  refine j_getI (j := 8) C dX2_write_1 FC2 (RAt.S h0) (by decide) rfl tw_208 ?_
  refine j_sipush (v := (160 : Int32)) C dX2_write_4 (by decide) ?_
  refine j_icmp_ge (tgt := 30) C dX2_write_7 (by decide) ?_ ?_
  · exact j_vretw C dX2_write_30
  · refine j_aload_n C dX2_write_10 rfl rfl ?_
    refine j_getR (j := 1) C dX2_write_11 FC2 (RAt.S h0) (by decide) rfl (RAt.R_code h0) tw_199 ?_
    refine j_aload_n C dX2_write_14 rfl rfl ?_
    refine j_getI (j := 8) C dX2_write_15 FC2 (RAt.S h0) (by decide) rfl tw_208 ?_
    refine j_iload_n C dX2_write_18 rfl rfl ?_
    refine j_iast C dX2_write_19 (RAt.P_code h0) ?_
    refine j_aload_n C dX2_write_20 rfl rfl ?_
    refine j_pc (pc2 := 21) rfl ?_
    refine j_dup C dX2_write_21 rfl ?_
    refine j_getI (j := 8) C dX2_write_22 FC2 (RAt.S h0) (by decide) rfl tw_208 ?_
    refine j_iconst (v := (1 : Int32)) C dX2_write_25 rfl ?_
    refine j_iadd C dX2_write_26 ?_
    refine j_putI (j := 8) C dX2_write_27 FC2 (RAt.S h0) (by decide) rfl rfl rfl rfl tw_208 ?_
    exact j_vretw C dX2_write_30
set_option maxRecDepth 100000 in
set_option maxHeartbeats 4000000 in
theorem ct_X2_readE (γ : Gm) (E : Ev) (M : Mi) (L : Ml) (rec : Nat → Mi → Ml → Int32 → Option (Mi × Ml)) (x1 : Int32) (h0 : RAt E) (d : Nat) (ih0 : ∀ M L x, Ct γ yX2_readE cX2_readE 3 none ⟨12 + d, 0, 0, 700 + 40 * d⟩ [.ref (E.2.1 24), .int x] E M L (Q_vw γ E) 0 0 (rec 0 M L x)) (ih1 : ∀ M L x, Ct γ yX2_readAnd cX2_readAnd 3 none ⟨12 + d, 0, 0, 700 + 40 * d⟩ [.ref (E.2.1 24), .int x] E M L (Q_vw γ E) 0 0 (rec 1 M L x)) (ih2 : ∀ M L x, Ct γ yX2_readNot cX2_readNot 3 none ⟨12 + d, 0, 0, 700 + 40 * d⟩ [.ref (E.2.1 24), .int x] E M L (Q_vw γ E) 0 0 (rec 2 M L x)) (ih3 : ∀ M L x, Ct γ yX2_readSum cX2_readSum 4 none ⟨12 + d, 0, 0, 700 + 40 * d⟩ [.ref (E.2.1 24), .int x] E M L (Q_vw γ E) 0 0 (rec 3 M L x)) (ih4 : ∀ M L x, Ct γ yX2_readTerm cX2_readTerm 3 none ⟨12 + d, 0, 0, 700 + 40 * d⟩ [.ref (E.2.1 24), .int x] E M L (Q_vw γ E) 0 0 (rec 4 M L x)) (ih5 : ∀ M L x, Ct γ yX2_readOne cX2_readOne 2 none ⟨12 + d, 0, 0, 700 + 40 * d⟩ [.ref (E.2.1 24), .int x] E M L (Q_vw γ E) 0 0 (rec 5 M L x)) : Ct γ yX2_readE cX2_readE 3 none ⟨12 + (d + 1), 0, 0, 700 + 40 * (d + 1)⟩ [.ref (E.2.1 24), .int x1] E M L (Q_vw γ E) 0 0 (F_X2_readE rec M L x1) := by
  refine ct_of (own := RX2) (lv := [some (.ref (E.2.1 24)), some (.int x1), none]) (by decide +kernel) rfl rfl (Nat.le_of_ble_eq_true rfl) (fun κ C hγ hN => ?_)
  subst hγ
  have hn : ∀ i, i < 3 → i < knL κ := fun i h => by rw [hN]; exact h
  have k7 : ∀ (n : Nat) (M : Mi) (L : Ml) (x1 : Int32) (x2 : Int32), JF κ (PQ κ (Q_vw (kγ κ) E) 0 0) 7 [some (.ref (E.2.1 24)), some (.int x1), some (.int x2)] [] E M L 0 0 (F_X2_readE_k7 rec n M L x1 x2) := by
    intro n
    induction n with
    | zero => intros; exact jf_none
    | succ n ih =>
      intro M L x1 x2
      unfold F_X2_readE_k7
      refine j_iload_n C dX2_readE_7 rfl rfl ?_
      refine j_sipush (v := (160 : Int32)) C dX2_readE_8 (by decide) ?_
      refine j_icmp_ge (tgt := 45) C dX2_readE_11 (by decide) ?_ ?_
      · exact j_vretw C dX2_readE_45
      · refine j_aload_n C dX2_readE_14 rfl rfl ?_
        refine j_getI (j := 4) C dX2_readE_15 FC2 (RAt.S h0) (by decide) rfl tw_204 ?_
        refine j_sipush (v := (262 : Int32)) C dX2_readE_18 (by decide) ?_
        refine j_icmp_ne (tgt := 45) C dX2_readE_21 (by decide) ?_ ?_
        · exact j_vretw C dX2_readE_45
        · refine j_aload_n C dX2_readE_24 rfl rfl ?_
          refine j_callV_vw (st := []) C dX2_readE_25 (ct_X2_advance (kγ κ) E M L h0) mi_X2_advance tw_305 FC2 (RAt.S h0) rfl rfl (Nat.le_of_ble_eq_true rfl) ⟨⟨rfl, rfl⟩, ⟨by dsimp only; omega, by dsimp only; omega⟩, ⟨Nat.zero_le _, Nat.zero_le _⟩⟩ (fun r25 => ?_)
          refine j_aload_n C dX2_readE_28 rfl rfl ?_
          refine j_iload_n C dX2_readE_29 rfl rfl ?_
          refine j_callV_vw (st := []) C dX2_readE_30 (ih1 r25.1 r25.2 x1) mi_X2_readAnd tw_360 FC2 (RAt.S h0) rfl rfl (Nat.le_of_ble_eq_true rfl) ⟨⟨rfl, rfl⟩, ⟨by dsimp only; omega, by dsimp only; omega⟩, ⟨Nat.zero_le _, Nat.zero_le _⟩⟩ (fun r30 => ?_)
          refine j_aload_n C dX2_readE_33 rfl rfl ?_
          refine j_bipush (v := (-9 : Int32)) C dX2_readE_34 (by decide) ?_
          refine j_pc (pc2 := 36) rfl ?_
          refine j_callV_vw (st := []) C dX2_readE_36 (ct_X2_write (kγ κ) E r30.1 r30.2 (-9 : Int32) h0) mi_X2_write tw_368 FC2 (RAt.S h0) rfl rfl (Nat.le_of_ble_eq_true rfl) ⟨⟨rfl, rfl⟩, ⟨by dsimp only; omega, by dsimp only; omega⟩, ⟨Nat.zero_le _, Nat.zero_le _⟩⟩ (fun r36 => ?_)
          refine j_iinc (i := 2) (v := (x2 + (1 : Int32))) (lv' := [some (.ref (E.2.1 24)), some (.int x1), some (.int (x2 + (1 : Int32)))]) C dX2_readE_39 rfl rfl (hn 2 (by decide)) rfl ?_
          refine j_goto (tgt := 7) C dX2_readE_42 (by decide) ?_
          exact ih r36.1 r36.2 x1 ((x2 + (1 : Int32)))
  unfold F_X2_readE
  refine j_aload_n C dX2_readE_0 rfl rfl ?_
  refine j_iload_n C dX2_readE_1 rfl rfl ?_
  refine j_callV_vw (st := []) C dX2_readE_2 (ih1 M L x1) mi_X2_readAnd tw_360 FC2 (RAt.S h0) rfl rfl (Nat.le_of_ble_eq_true rfl) ⟨⟨rfl, rfl⟩, ⟨by dsimp only; omega, by dsimp only; omega⟩, ⟨Nat.zero_le _, Nat.zero_le _⟩⟩ (fun r2 => ?_)
  refine j_iconst (v := (0 : Int32)) C dX2_readE_5 rfl ?_
  refine j_istore_n (i := 2) (lv' := [some (.ref (E.2.1 24)), some (.int x1), some (.int (0 : Int32))]) C dX2_readE_6 rfl (hn 2 (by decide)) rfl ?_
  exact k7 FU r2.1 r2.2 x1 ((0 : Int32))
set_option maxRecDepth 100000 in
set_option maxHeartbeats 4000000 in
theorem ct_X2_readAnd (γ : Gm) (E : Ev) (M : Mi) (L : Ml) (rec : Nat → Mi → Ml → Int32 → Option (Mi × Ml)) (x1 : Int32) (h0 : RAt E) (d : Nat) (ih0 : ∀ M L x, Ct γ yX2_readE cX2_readE 3 none ⟨12 + d, 0, 0, 700 + 40 * d⟩ [.ref (E.2.1 24), .int x] E M L (Q_vw γ E) 0 0 (rec 0 M L x)) (ih1 : ∀ M L x, Ct γ yX2_readAnd cX2_readAnd 3 none ⟨12 + d, 0, 0, 700 + 40 * d⟩ [.ref (E.2.1 24), .int x] E M L (Q_vw γ E) 0 0 (rec 1 M L x)) (ih2 : ∀ M L x, Ct γ yX2_readNot cX2_readNot 3 none ⟨12 + d, 0, 0, 700 + 40 * d⟩ [.ref (E.2.1 24), .int x] E M L (Q_vw γ E) 0 0 (rec 2 M L x)) (ih3 : ∀ M L x, Ct γ yX2_readSum cX2_readSum 4 none ⟨12 + d, 0, 0, 700 + 40 * d⟩ [.ref (E.2.1 24), .int x] E M L (Q_vw γ E) 0 0 (rec 3 M L x)) (ih4 : ∀ M L x, Ct γ yX2_readTerm cX2_readTerm 3 none ⟨12 + d, 0, 0, 700 + 40 * d⟩ [.ref (E.2.1 24), .int x] E M L (Q_vw γ E) 0 0 (rec 4 M L x)) (ih5 : ∀ M L x, Ct γ yX2_readOne cX2_readOne 2 none ⟨12 + d, 0, 0, 700 + 40 * d⟩ [.ref (E.2.1 24), .int x] E M L (Q_vw γ E) 0 0 (rec 5 M L x)) : Ct γ yX2_readAnd cX2_readAnd 3 none ⟨12 + (d + 1), 0, 0, 700 + 40 * (d + 1)⟩ [.ref (E.2.1 24), .int x1] E M L (Q_vw γ E) 0 0 (F_X2_readAnd rec M L x1) := by
  refine ct_of (own := RX2) (lv := [some (.ref (E.2.1 24)), some (.int x1), none]) (by decide +kernel) rfl rfl (Nat.le_of_ble_eq_true rfl) (fun κ C hγ hN => ?_)
  subst hγ
  have hn : ∀ i, i < 3 → i < knL κ := fun i h => by rw [hN]; exact h
  have k7 : ∀ (n : Nat) (M : Mi) (L : Ml) (x1 : Int32) (x2 : Int32), JF κ (PQ κ (Q_vw (kγ κ) E) 0 0) 7 [some (.ref (E.2.1 24)), some (.int x1), some (.int x2)] [] E M L 0 0 (F_X2_readAnd_k7 rec n M L x1 x2) := by
    intro n
    induction n with
    | zero => intros; exact jf_none
    | succ n ih =>
      intro M L x1 x2
      unfold F_X2_readAnd_k7
      refine j_iload_n C dX2_readAnd_7 rfl rfl ?_
      refine j_sipush (v := (160 : Int32)) C dX2_readAnd_8 (by decide) ?_
      refine j_icmp_ge (tgt := 45) C dX2_readAnd_11 (by decide) ?_ ?_
      · exact j_vretw C dX2_readAnd_45
      · refine j_aload_n C dX2_readAnd_14 rfl rfl ?_
        refine j_getI (j := 4) C dX2_readAnd_15 FC2 (RAt.S h0) (by decide) rfl tw_204 ?_
        refine j_sipush (v := (263 : Int32)) C dX2_readAnd_18 (by decide) ?_
        refine j_icmp_ne (tgt := 45) C dX2_readAnd_21 (by decide) ?_ ?_
        · exact j_vretw C dX2_readAnd_45
        · refine j_aload_n C dX2_readAnd_24 rfl rfl ?_
          refine j_callV_vw (st := []) C dX2_readAnd_25 (ct_X2_advance (kγ κ) E M L h0) mi_X2_advance tw_305 FC2 (RAt.S h0) rfl rfl (Nat.le_of_ble_eq_true rfl) ⟨⟨rfl, rfl⟩, ⟨by dsimp only; omega, by dsimp only; omega⟩, ⟨Nat.zero_le _, Nat.zero_le _⟩⟩ (fun r25 => ?_)
          refine j_aload_n C dX2_readAnd_28 rfl rfl ?_
          refine j_iload_n C dX2_readAnd_29 rfl rfl ?_
          refine j_callV_vw (st := []) C dX2_readAnd_30 (ih2 r25.1 r25.2 x1) mi_X2_readNot tw_364 FC2 (RAt.S h0) rfl rfl (Nat.le_of_ble_eq_true rfl) ⟨⟨rfl, rfl⟩, ⟨by dsimp only; omega, by dsimp only; omega⟩, ⟨Nat.zero_le _, Nat.zero_le _⟩⟩ (fun r30 => ?_)
          refine j_aload_n C dX2_readAnd_33 rfl rfl ?_
          refine j_bipush (v := (-10 : Int32)) C dX2_readAnd_34 (by decide) ?_
          refine j_pc (pc2 := 36) rfl ?_
          refine j_callV_vw (st := []) C dX2_readAnd_36 (ct_X2_write (kγ κ) E r30.1 r30.2 (-10 : Int32) h0) mi_X2_write tw_368 FC2 (RAt.S h0) rfl rfl (Nat.le_of_ble_eq_true rfl) ⟨⟨rfl, rfl⟩, ⟨by dsimp only; omega, by dsimp only; omega⟩, ⟨Nat.zero_le _, Nat.zero_le _⟩⟩ (fun r36 => ?_)
          refine j_iinc (i := 2) (v := (x2 + (1 : Int32))) (lv' := [some (.ref (E.2.1 24)), some (.int x1), some (.int (x2 + (1 : Int32)))]) C dX2_readAnd_39 rfl rfl (hn 2 (by decide)) rfl ?_
          refine j_goto (tgt := 7) C dX2_readAnd_42 (by decide) ?_
          exact ih r36.1 r36.2 x1 ((x2 + (1 : Int32)))
  unfold F_X2_readAnd
  refine j_aload_n C dX2_readAnd_0 rfl rfl ?_
  refine j_iload_n C dX2_readAnd_1 rfl rfl ?_
  refine j_callV_vw (st := []) C dX2_readAnd_2 (ih2 M L x1) mi_X2_readNot tw_364 FC2 (RAt.S h0) rfl rfl (Nat.le_of_ble_eq_true rfl) ⟨⟨rfl, rfl⟩, ⟨by dsimp only; omega, by dsimp only; omega⟩, ⟨Nat.zero_le _, Nat.zero_le _⟩⟩ (fun r2 => ?_)
  refine j_iconst (v := (0 : Int32)) C dX2_readAnd_5 rfl ?_
  refine j_istore_n (i := 2) (lv' := [some (.ref (E.2.1 24)), some (.int x1), some (.int (0 : Int32))]) C dX2_readAnd_6 rfl (hn 2 (by decide)) rfl ?_
  exact k7 FU r2.1 r2.2 x1 ((0 : Int32))
set_option maxRecDepth 100000 in
set_option maxHeartbeats 4000000 in
theorem ct_X2_readNot (γ : Gm) (E : Ev) (M : Mi) (L : Ml) (rec : Nat → Mi → Ml → Int32 → Option (Mi × Ml)) (x1 : Int32) (h0 : RAt E) (d : Nat) (ih0 : ∀ M L x, Ct γ yX2_readE cX2_readE 3 none ⟨12 + d, 0, 0, 700 + 40 * d⟩ [.ref (E.2.1 24), .int x] E M L (Q_vw γ E) 0 0 (rec 0 M L x)) (ih1 : ∀ M L x, Ct γ yX2_readAnd cX2_readAnd 3 none ⟨12 + d, 0, 0, 700 + 40 * d⟩ [.ref (E.2.1 24), .int x] E M L (Q_vw γ E) 0 0 (rec 1 M L x)) (ih2 : ∀ M L x, Ct γ yX2_readNot cX2_readNot 3 none ⟨12 + d, 0, 0, 700 + 40 * d⟩ [.ref (E.2.1 24), .int x] E M L (Q_vw γ E) 0 0 (rec 2 M L x)) (ih3 : ∀ M L x, Ct γ yX2_readSum cX2_readSum 4 none ⟨12 + d, 0, 0, 700 + 40 * d⟩ [.ref (E.2.1 24), .int x] E M L (Q_vw γ E) 0 0 (rec 3 M L x)) (ih4 : ∀ M L x, Ct γ yX2_readTerm cX2_readTerm 3 none ⟨12 + d, 0, 0, 700 + 40 * d⟩ [.ref (E.2.1 24), .int x] E M L (Q_vw γ E) 0 0 (rec 4 M L x)) (ih5 : ∀ M L x, Ct γ yX2_readOne cX2_readOne 2 none ⟨12 + d, 0, 0, 700 + 40 * d⟩ [.ref (E.2.1 24), .int x] E M L (Q_vw γ E) 0 0 (rec 5 M L x)) : Ct γ yX2_readNot cX2_readNot 3 none ⟨12 + (d + 1), 0, 0, 700 + 40 * (d + 1)⟩ [.ref (E.2.1 24), .int x1] E M L (Q_vw γ E) 0 0 (F_X2_readNot rec M L x1) := by
  refine ct_of (own := RX2) (lv := [some (.ref (E.2.1 24)), some (.int x1), none]) (by decide +kernel) rfl rfl (Nat.le_of_ble_eq_true rfl) (fun κ C hγ hN => ?_)
  subst hγ
  have hn : ∀ i, i < 3 → i < knL κ := fun i h => by rw [hN]; exact h
  have k72 : ∀ (M : Mi) (L : Ml) (x1 : Int32) (s0 : Int32), JF κ (PQ κ (Q_vw (kγ κ) E) 0 0) 72 [some (.ref (E.2.1 24)), some (.int x1), none] [.int s0] E M L 0 0 (F_X2_readNot_k72 rec M L x1 s0) := by
    intro M L x1 s0
    unfold F_X2_readNot_k72
    refine j_istore_n (i := 2) (lv' := [some (.ref (E.2.1 24)), some (.int x1), some (.int s0)]) C dX2_readNot_72 rfl (hn 2 (by decide)) rfl ?_
    refine j_aload_n C dX2_readNot_73 rfl rfl ?_
    refine j_callV_vw (st := []) C dX2_readNot_74 (ct_X2_advance (kγ κ) E M L h0) mi_X2_advance tw_305 FC2 (RAt.S h0) rfl rfl (Nat.le_of_ble_eq_true rfl) ⟨⟨rfl, rfl⟩, ⟨by dsimp only; omega, by dsimp only; omega⟩, ⟨Nat.zero_le _, Nat.zero_le _⟩⟩ (fun r74 => ?_)
    refine j_aload_n C dX2_readNot_77 rfl rfl ?_
    refine j_iload_n C dX2_readNot_78 rfl rfl ?_
    refine j_callV_vw (st := []) C dX2_readNot_79 (ih3 r74.1 r74.2 x1) mi_X2_readSum tw_372 FC2 (RAt.S h0) rfl rfl (Nat.le_of_ble_eq_true rfl) ⟨⟨rfl, rfl⟩, ⟨by dsimp only; omega, by dsimp only; omega⟩, ⟨Nat.zero_le _, Nat.zero_le _⟩⟩ (fun r79 => ?_)
    refine j_aload_n C dX2_readNot_82 rfl rfl ?_
    refine j_pc (pc2 := 83) rfl ?_
    refine j_iload_n C dX2_readNot_83 rfl rfl ?_
    refine j_callV_vw (st := []) C dX2_readNot_84 (ct_X2_write (kγ κ) E r79.1 r79.2 s0 h0) mi_X2_write tw_368 FC2 (RAt.S h0) rfl rfl (Nat.le_of_ble_eq_true rfl) ⟨⟨rfl, rfl⟩, ⟨by dsimp only; omega, by dsimp only; omega⟩, ⟨Nat.zero_le _, Nat.zero_le _⟩⟩ (fun r84 => ?_)
    exact j_vretw C dX2_readNot_87
  have k56 : ∀ (M : Mi) (L : Ml) (x1 : Int32), JF κ (PQ κ (Q_vw (kγ κ) E) 0 0) 56 [some (.ref (E.2.1 24)), some (.int x1), none] [] E M L 0 0 (F_X2_readNot_k56 rec M L x1) := by
    intro M L x1
    unfold F_X2_readNot_k56
    refine j_aload_n C dX2_readNot_56 rfl rfl ?_
    refine j_getI (j := 4) C dX2_readNot_57 FC2 (RAt.S h0) (by decide) rfl tw_204 ?_
    refine j_bipush (v := (60 : Int32)) C dX2_readNot_60 (by decide) ?_
    refine j_icmp_ne (tgt := 70) C dX2_readNot_62 (by decide) ?_ ?_
    · refine j_bipush (v := (-12 : Int32)) C dX2_readNot_70 (by decide) ?_
      exact k72 M L x1 ((-12 : Int32))
    · refine j_bipush (v := (-11 : Int32)) C dX2_readNot_65 (by decide) ?_
      refine j_goto (tgt := 72) C dX2_readNot_67 (by decide) ?_
      exact k72 M L x1 ((-11 : Int32))
  have k33 : ∀ (M : Mi) (L : Ml) (x1 : Int32), JF κ (PQ κ (Q_vw (kγ κ) E) 0 0) 33 [some (.ref (E.2.1 24)), some (.int x1), none] [] E M L 0 0 (F_X2_readNot_k33 rec M L x1) := by
    intro M L x1
    unfold F_X2_readNot_k33
    refine j_aload_n C dX2_readNot_33 rfl rfl ?_
    refine j_iload_n C dX2_readNot_34 rfl rfl ?_
    refine j_callV_vw (st := []) C dX2_readNot_35 (ih3 M L x1) mi_X2_readSum tw_372 FC2 (RAt.S h0) rfl rfl (Nat.le_of_ble_eq_true rfl) ⟨⟨rfl, rfl⟩, ⟨by dsimp only; omega, by dsimp only; omega⟩, ⟨Nat.zero_le _, Nat.zero_le _⟩⟩ (fun r35 => ?_)
    refine j_aload_n C dX2_readNot_38 rfl rfl ?_
    refine j_getI (j := 4) C dX2_readNot_39 FC2 (RAt.S h0) (by decide) rfl tw_204 ?_
    refine j_bipush (v := (60 : Int32)) C dX2_readNot_42 (by decide) ?_
    refine j_icmp_eq (tgt := 56) C dX2_readNot_44 (by decide) ?_ ?_
    · exact k56 r35.1 r35.2 x1
    · refine j_aload_n C dX2_readNot_47 rfl rfl ?_
      refine j_getI (j := 4) C dX2_readNot_48 FC2 (RAt.S h0) (by decide) rfl tw_204 ?_
      refine j_bipush (v := (61 : Int32)) C dX2_readNot_51 (by decide) ?_
      refine j_icmp_ne (tgt := 87) C dX2_readNot_53 (by decide) ?_ ?_
      · exact j_vretw C dX2_readNot_87
      · exact k56 r35.1 r35.2 x1
  unfold F_X2_readNot
  refine j_aload_n C dX2_readNot_0 rfl rfl ?_
  refine j_getI (j := 4) C dX2_readNot_1 FC2 (RAt.S h0) (by decide) rfl tw_204 ?_
  refine j_sipush (v := (264 : Int32)) C dX2_readNot_4 (by decide) ?_
  refine j_icmp_ne (tgt := 33) C dX2_readNot_7 (by decide) ?_ ?_
  · exact k33 M L x1
  · refine j_iload_n C dX2_readNot_10 rfl rfl ?_
    refine j_iconst (v := (5 : Int32)) C dX2_readNot_11 rfl ?_
    refine j_icmp_ge (tgt := 33) C dX2_readNot_12 (by decide) ?_ ?_
    · exact k33 M L x1
    · refine j_aload_n C dX2_readNot_15 rfl rfl ?_
      refine j_callV_vw (st := []) C dX2_readNot_16 (ct_X2_advance (kγ κ) E M L h0) mi_X2_advance tw_305 FC2 (RAt.S h0) rfl rfl (Nat.le_of_ble_eq_true rfl) ⟨⟨rfl, rfl⟩, ⟨by dsimp only; omega, by dsimp only; omega⟩, ⟨Nat.zero_le _, Nat.zero_le _⟩⟩ (fun r16 => ?_)
      refine j_aload_n C dX2_readNot_19 rfl rfl ?_
      refine j_iload_n C dX2_readNot_20 rfl rfl ?_
      refine j_iconst (v := (1 : Int32)) C dX2_readNot_21 rfl ?_
      refine j_iadd C dX2_readNot_22 ?_
      refine j_callV_vw (st := []) C dX2_readNot_23 (ih2 r16.1 r16.2 (x1 + (1 : Int32))) mi_X2_readNot tw_364 FC2 (RAt.S h0) rfl rfl (Nat.le_of_ble_eq_true rfl) ⟨⟨rfl, rfl⟩, ⟨by dsimp only; omega, by dsimp only; omega⟩, ⟨Nat.zero_le _, Nat.zero_le _⟩⟩ (fun r23 => ?_)
      refine j_pc (pc2 := 26) rfl ?_
      refine j_aload_n C dX2_readNot_26 rfl rfl ?_
      refine j_bipush (v := (-7 : Int32)) C dX2_readNot_27 (by decide) ?_
      refine j_callV_vw (st := []) C dX2_readNot_29 (ct_X2_write (kγ κ) E r23.1 r23.2 (-7 : Int32) h0) mi_X2_write tw_368 FC2 (RAt.S h0) rfl rfl (Nat.le_of_ble_eq_true rfl) ⟨⟨rfl, rfl⟩, ⟨by dsimp only; omega, by dsimp only; omega⟩, ⟨Nat.zero_le _, Nat.zero_le _⟩⟩ (fun r29 => ?_)
      exact j_vretw C dX2_readNot_32
set_option maxRecDepth 100000 in
set_option maxHeartbeats 4000000 in
theorem ct_X2_readSum (γ : Gm) (E : Ev) (M : Mi) (L : Ml) (rec : Nat → Mi → Ml → Int32 → Option (Mi × Ml)) (x1 : Int32) (h0 : RAt E) (d : Nat) (ih0 : ∀ M L x, Ct γ yX2_readE cX2_readE 3 none ⟨12 + d, 0, 0, 700 + 40 * d⟩ [.ref (E.2.1 24), .int x] E M L (Q_vw γ E) 0 0 (rec 0 M L x)) (ih1 : ∀ M L x, Ct γ yX2_readAnd cX2_readAnd 3 none ⟨12 + d, 0, 0, 700 + 40 * d⟩ [.ref (E.2.1 24), .int x] E M L (Q_vw γ E) 0 0 (rec 1 M L x)) (ih2 : ∀ M L x, Ct γ yX2_readNot cX2_readNot 3 none ⟨12 + d, 0, 0, 700 + 40 * d⟩ [.ref (E.2.1 24), .int x] E M L (Q_vw γ E) 0 0 (rec 2 M L x)) (ih3 : ∀ M L x, Ct γ yX2_readSum cX2_readSum 4 none ⟨12 + d, 0, 0, 700 + 40 * d⟩ [.ref (E.2.1 24), .int x] E M L (Q_vw γ E) 0 0 (rec 3 M L x)) (ih4 : ∀ M L x, Ct γ yX2_readTerm cX2_readTerm 3 none ⟨12 + d, 0, 0, 700 + 40 * d⟩ [.ref (E.2.1 24), .int x] E M L (Q_vw γ E) 0 0 (rec 4 M L x)) (ih5 : ∀ M L x, Ct γ yX2_readOne cX2_readOne 2 none ⟨12 + d, 0, 0, 700 + 40 * d⟩ [.ref (E.2.1 24), .int x] E M L (Q_vw γ E) 0 0 (rec 5 M L x)) : Ct γ yX2_readSum cX2_readSum 4 none ⟨12 + (d + 1), 0, 0, 700 + 40 * (d + 1)⟩ [.ref (E.2.1 24), .int x1] E M L (Q_vw γ E) 0 0 (F_X2_readSum rec M L x1) := by
  refine ct_of (own := RX2) (lv := [some (.ref (E.2.1 24)), some (.int x1), none, none]) (by decide +kernel) rfl rfl (Nat.le_of_ble_eq_true rfl) (fun κ C hγ hN => ?_)
  subst hγ
  have hn : ∀ i, i < 4 → i < knL κ := fun i h => by rw [hN]; exact h
  have k48 : ∀ (kf7 : Mi → Ml → Int32 → Int32 → Option (Mi × Ml)), (∀ (M : Mi) (L : Ml) (x1 : Int32) (x2 : Int32), JF κ (PQ κ (Q_vw (kγ κ) E) 0 0) 7 [some (.ref (E.2.1 24)), some (.int x1), some (.int x2), none] [] E M L 0 0 (kf7 M L x1 x2)) → ∀ (M : Mi) (L : Ml) (x1 : Int32) (x2 : Int32) (s0 : Int32), JF κ (PQ κ (Q_vw (kγ κ) E) 0 0) 48 [some (.ref (E.2.1 24)), some (.int x1), some (.int x2), none] [.int s0] E M L 0 0 (F_X2_readSum_k48 rec kf7 M L x1 x2 s0) := by
    intro kf7 hkf7 M L x1 x2 s0
    unfold F_X2_readSum_k48
    refine j_istore_n (i := 3) (lv' := [some (.ref (E.2.1 24)), some (.int x1), some (.int x2), some (.int s0)]) C dX2_readSum_48 rfl (hn 3 (by decide)) rfl ?_
    refine j_aload_n C dX2_readSum_49 rfl rfl ?_
    refine j_callV_vw (st := []) C dX2_readSum_50 (ct_X2_advance (kγ κ) E M L h0) mi_X2_advance tw_305 FC2 (RAt.S h0) rfl rfl (Nat.le_of_ble_eq_true rfl) ⟨⟨rfl, rfl⟩, ⟨by dsimp only; omega, by dsimp only; omega⟩, ⟨Nat.zero_le _, Nat.zero_le _⟩⟩ (fun r50 => ?_)
    refine j_aload_n C dX2_readSum_53 rfl rfl ?_
    refine j_iload_n C dX2_readSum_54 rfl rfl ?_
    refine j_callV_vw (st := []) C dX2_readSum_55 (ih4 r50.1 r50.2 x1) mi_X2_readTerm tw_376 FC2 (RAt.S h0) rfl rfl (Nat.le_of_ble_eq_true rfl) ⟨⟨rfl, rfl⟩, ⟨by dsimp only; omega, by dsimp only; omega⟩, ⟨Nat.zero_le _, Nat.zero_le _⟩⟩ (fun r55 => ?_)
    refine j_aload_n C dX2_readSum_58 rfl rfl ?_
    refine j_pc (pc2 := 59) rfl ?_
    refine j_iload_n C dX2_readSum_59 rfl rfl ?_
    refine j_callV_vw (st := []) C dX2_readSum_60 (ct_X2_write (kγ κ) E r55.1 r55.2 s0 h0) mi_X2_write tw_368 FC2 (RAt.S h0) rfl rfl (Nat.le_of_ble_eq_true rfl) ⟨⟨rfl, rfl⟩, ⟨by dsimp only; omega, by dsimp only; omega⟩, ⟨Nat.zero_le _, Nat.zero_le _⟩⟩ (fun r60 => ?_)
    refine j_iinc (i := 2) (v := (x2 + (1 : Int32))) (lv' := [some (.ref (E.2.1 24)), some (.int x1), some (.int (x2 + (1 : Int32))), some (.int s0)]) C dX2_readSum_63 rfl rfl (hn 2 (by decide)) rfl ?_
    refine j_goto (tgt := 7) C dX2_readSum_66 (by decide) ?_
    refine j_mask [true, true, true, false] (lv' := [some (.ref (E.2.1 24)), some (.int x1), some (.int (x2 + (1 : Int32))), none]) rfl ?_
    exact hkf7 r60.1 r60.2 x1 ((x2 + (1 : Int32)))
  have k32 : ∀ (kf7 : Mi → Ml → Int32 → Int32 → Option (Mi × Ml)), (∀ (M : Mi) (L : Ml) (x1 : Int32) (x2 : Int32), JF κ (PQ κ (Q_vw (kγ κ) E) 0 0) 7 [some (.ref (E.2.1 24)), some (.int x1), some (.int x2), none] [] E M L 0 0 (kf7 M L x1 x2)) → ∀ (M : Mi) (L : Ml) (x1 : Int32) (x2 : Int32), JF κ (PQ κ (Q_vw (kγ κ) E) 0 0) 32 [some (.ref (E.2.1 24)), some (.int x1), some (.int x2), none] [] E M L 0 0 (F_X2_readSum_k32 rec kf7 M L x1 x2) := by
    intro kf7 hkf7 M L x1 x2
    unfold F_X2_readSum_k32
    refine j_aload_n C dX2_readSum_32 rfl rfl ?_
    refine j_getI (j := 4) C dX2_readSum_33 FC2 (RAt.S h0) (by decide) rfl tw_204 ?_
    refine j_bipush (v := (43 : Int32)) C dX2_readSum_36 (by decide) ?_
    refine j_icmp_ne (tgt := 46) C dX2_readSum_38 (by decide) ?_ ?_
    · refine j_bipush (v := (-14 : Int32)) C dX2_readSum_46 (by decide) ?_
      exact k48 kf7 hkf7 M L x1 x2 ((-14 : Int32))
    · refine j_bipush (v := (-13 : Int32)) C dX2_readSum_41 (by decide) ?_
      refine j_goto (tgt := 48) C dX2_readSum_43 (by decide) ?_
      exact k48 kf7 hkf7 M L x1 x2 ((-13 : Int32))
  have k7 : ∀ (n : Nat) (M : Mi) (L : Ml) (x1 : Int32) (x2 : Int32), JF κ (PQ κ (Q_vw (kγ κ) E) 0 0) 7 [some (.ref (E.2.1 24)), some (.int x1), some (.int x2), none] [] E M L 0 0 (F_X2_readSum_k7 rec n M L x1 x2) := by
    intro n
    induction n with
    | zero => intros; exact jf_none
    | succ n ih =>
      intro M L x1 x2
      unfold F_X2_readSum_k7
      refine j_iload_n C dX2_readSum_7 rfl rfl ?_
      refine j_sipush (v := (160 : Int32)) C dX2_readSum_8 (by decide) ?_
      refine j_icmp_ge (tgt := 69) C dX2_readSum_11 (by decide) ?_ ?_
      · exact j_vretw C dX2_readSum_69
      · refine j_aload_n C dX2_readSum_14 rfl rfl ?_
        refine j_getI (j := 4) C dX2_readSum_15 FC2 (RAt.S h0) (by decide) rfl tw_204 ?_
        refine j_bipush (v := (43 : Int32)) C dX2_readSum_18 (by decide) ?_
        refine j_icmp_eq (tgt := 32) C dX2_readSum_20 (by decide) ?_ ?_
        · exact k32 (F_X2_readSum_k7 rec n) ih M L x1 x2
        · refine j_aload_n C dX2_readSum_23 rfl rfl ?_
          refine j_getI (j := 4) C dX2_readSum_24 FC2 (RAt.S h0) (by decide) rfl tw_204 ?_
          refine j_bipush (v := (45 : Int32)) C dX2_readSum_27 (by decide) ?_
          refine j_icmp_ne (tgt := 69) C dX2_readSum_29 (by decide) ?_ ?_
          · exact j_vretw C dX2_readSum_69
          · exact k32 (F_X2_readSum_k7 rec n) ih M L x1 x2
  unfold F_X2_readSum
  refine j_aload_n C dX2_readSum_0 rfl rfl ?_
  refine j_iload_n C dX2_readSum_1 rfl rfl ?_
  refine j_callV_vw (st := []) C dX2_readSum_2 (ih4 M L x1) mi_X2_readTerm tw_376 FC2 (RAt.S h0) rfl rfl (Nat.le_of_ble_eq_true rfl) ⟨⟨rfl, rfl⟩, ⟨by dsimp only; omega, by dsimp only; omega⟩, ⟨Nat.zero_le _, Nat.zero_le _⟩⟩ (fun r2 => ?_)
  refine j_iconst (v := (0 : Int32)) C dX2_readSum_5 rfl ?_
  refine j_istore_n (i := 2) (lv' := [some (.ref (E.2.1 24)), some (.int x1), some (.int (0 : Int32)), none]) C dX2_readSum_6 rfl (hn 2 (by decide)) rfl ?_
  exact k7 FU r2.1 r2.2 x1 ((0 : Int32))
set_option maxRecDepth 100000 in
set_option maxHeartbeats 4000000 in
theorem ct_X2_readTerm (γ : Gm) (E : Ev) (M : Mi) (L : Ml) (rec : Nat → Mi → Ml → Int32 → Option (Mi × Ml)) (x1 : Int32) (h0 : RAt E) (d : Nat) (ih0 : ∀ M L x, Ct γ yX2_readE cX2_readE 3 none ⟨12 + d, 0, 0, 700 + 40 * d⟩ [.ref (E.2.1 24), .int x] E M L (Q_vw γ E) 0 0 (rec 0 M L x)) (ih1 : ∀ M L x, Ct γ yX2_readAnd cX2_readAnd 3 none ⟨12 + d, 0, 0, 700 + 40 * d⟩ [.ref (E.2.1 24), .int x] E M L (Q_vw γ E) 0 0 (rec 1 M L x)) (ih2 : ∀ M L x, Ct γ yX2_readNot cX2_readNot 3 none ⟨12 + d, 0, 0, 700 + 40 * d⟩ [.ref (E.2.1 24), .int x] E M L (Q_vw γ E) 0 0 (rec 2 M L x)) (ih3 : ∀ M L x, Ct γ yX2_readSum cX2_readSum 4 none ⟨12 + d, 0, 0, 700 + 40 * d⟩ [.ref (E.2.1 24), .int x] E M L (Q_vw γ E) 0 0 (rec 3 M L x)) (ih4 : ∀ M L x, Ct γ yX2_readTerm cX2_readTerm 3 none ⟨12 + d, 0, 0, 700 + 40 * d⟩ [.ref (E.2.1 24), .int x] E M L (Q_vw γ E) 0 0 (rec 4 M L x)) (ih5 : ∀ M L x, Ct γ yX2_readOne cX2_readOne 2 none ⟨12 + d, 0, 0, 700 + 40 * d⟩ [.ref (E.2.1 24), .int x] E M L (Q_vw γ E) 0 0 (rec 5 M L x)) : Ct γ yX2_readTerm cX2_readTerm 3 none ⟨12 + (d + 1), 0, 0, 700 + 40 * (d + 1)⟩ [.ref (E.2.1 24), .int x1] E M L (Q_vw γ E) 0 0 (F_X2_readTerm rec M L x1) := by
  refine ct_of (own := RX2) (lv := [some (.ref (E.2.1 24)), some (.int x1), none]) (by decide +kernel) rfl rfl (Nat.le_of_ble_eq_true rfl) (fun κ C hγ hN => ?_)
  subst hγ
  have hn : ∀ i, i < 3 → i < knL κ := fun i h => by rw [hN]; exact h
  have k7 : ∀ (n : Nat) (M : Mi) (L : Ml) (x1 : Int32) (x2 : Int32), JF κ (PQ κ (Q_vw (kγ κ) E) 0 0) 7 [some (.ref (E.2.1 24)), some (.int x1), some (.int x2)] [] E M L 0 0 (F_X2_readTerm_k7 rec n M L x1 x2) := by
    intro n
    induction n with
    | zero => intros; exact jf_none
    | succ n ih =>
      intro M L x1 x2
      unfold F_X2_readTerm_k7
      refine j_iload_n C dX2_readTerm_7 rfl rfl ?_
      refine j_sipush (v := (160 : Int32)) C dX2_readTerm_8 (by decide) ?_
      refine j_icmp_ge (tgt := 44) C dX2_readTerm_11 (by decide) ?_ ?_
      · exact j_vretw C dX2_readTerm_44
      · refine j_aload_n C dX2_readTerm_14 rfl rfl ?_
        refine j_getI (j := 4) C dX2_readTerm_15 FC2 (RAt.S h0) (by decide) rfl tw_204 ?_
        refine j_bipush (v := (42 : Int32)) C dX2_readTerm_18 (by decide) ?_
        refine j_icmp_ne (tgt := 44) C dX2_readTerm_20 (by decide) ?_ ?_
        · exact j_vretw C dX2_readTerm_44
        · refine j_aload_n C dX2_readTerm_23 rfl rfl ?_
          refine j_callV_vw (st := []) C dX2_readTerm_24 (ct_X2_advance (kγ κ) E M L h0) mi_X2_advance tw_305 FC2 (RAt.S h0) rfl rfl (Nat.le_of_ble_eq_true rfl) ⟨⟨rfl, rfl⟩, ⟨by dsimp only; omega, by dsimp only; omega⟩, ⟨Nat.zero_le _, Nat.zero_le _⟩⟩ (fun r24 => ?_)
          refine j_aload_n C dX2_readTerm_27 rfl rfl ?_
          refine j_iload_n C dX2_readTerm_28 rfl rfl ?_
          refine j_callV_vw (st := []) C dX2_readTerm_29 (ih5 r24.1 r24.2 x1) mi_X2_readOne tw_380 FC2 (RAt.S h0) rfl rfl (Nat.le_of_ble_eq_true rfl) ⟨⟨rfl, rfl⟩, ⟨by dsimp only; omega, by dsimp only; omega⟩, ⟨Nat.zero_le _, Nat.zero_le _⟩⟩ (fun r29 => ?_)
          refine j_aload_n C dX2_readTerm_32 rfl rfl ?_
          refine j_bipush (v := (-15 : Int32)) C dX2_readTerm_33 (by decide) ?_
          refine j_pc (pc2 := 35) rfl ?_
          refine j_callV_vw (st := []) C dX2_readTerm_35 (ct_X2_write (kγ κ) E r29.1 r29.2 (-15 : Int32) h0) mi_X2_write tw_368 FC2 (RAt.S h0) rfl rfl (Nat.le_of_ble_eq_true rfl) ⟨⟨rfl, rfl⟩, ⟨by dsimp only; omega, by dsimp only; omega⟩, ⟨Nat.zero_le _, Nat.zero_le _⟩⟩ (fun r35 => ?_)
          refine j_iinc (i := 2) (v := (x2 + (1 : Int32))) (lv' := [some (.ref (E.2.1 24)), some (.int x1), some (.int (x2 + (1 : Int32)))]) C dX2_readTerm_38 rfl rfl (hn 2 (by decide)) rfl ?_
          refine j_goto (tgt := 7) C dX2_readTerm_41 (by decide) ?_
          exact ih r35.1 r35.2 x1 ((x2 + (1 : Int32)))
  unfold F_X2_readTerm
  refine j_aload_n C dX2_readTerm_0 rfl rfl ?_
  refine j_iload_n C dX2_readTerm_1 rfl rfl ?_
  refine j_callV_vw (st := []) C dX2_readTerm_2 (ih5 M L x1) mi_X2_readOne tw_380 FC2 (RAt.S h0) rfl rfl (Nat.le_of_ble_eq_true rfl) ⟨⟨rfl, rfl⟩, ⟨by dsimp only; omega, by dsimp only; omega⟩, ⟨Nat.zero_le _, Nat.zero_le _⟩⟩ (fun r2 => ?_)
  refine j_iconst (v := (0 : Int32)) C dX2_readTerm_5 rfl ?_
  refine j_istore_n (i := 2) (lv' := [some (.ref (E.2.1 24)), some (.int x1), some (.int (0 : Int32))]) C dX2_readTerm_6 rfl (hn 2 (by decide)) rfl ?_
  exact k7 FU r2.1 r2.2 x1 ((0 : Int32))
set_option maxRecDepth 100000 in
set_option maxHeartbeats 4000000 in
theorem ct_X2_readOne (γ : Gm) (E : Ev) (M : Mi) (L : Ml) (rec : Nat → Mi → Ml → Int32 → Option (Mi × Ml)) (x1 : Int32) (h0 : RAt E) (d : Nat) (ih0 : ∀ M L x, Ct γ yX2_readE cX2_readE 3 none ⟨12 + d, 0, 0, 700 + 40 * d⟩ [.ref (E.2.1 24), .int x] E M L (Q_vw γ E) 0 0 (rec 0 M L x)) (ih1 : ∀ M L x, Ct γ yX2_readAnd cX2_readAnd 3 none ⟨12 + d, 0, 0, 700 + 40 * d⟩ [.ref (E.2.1 24), .int x] E M L (Q_vw γ E) 0 0 (rec 1 M L x)) (ih2 : ∀ M L x, Ct γ yX2_readNot cX2_readNot 3 none ⟨12 + d, 0, 0, 700 + 40 * d⟩ [.ref (E.2.1 24), .int x] E M L (Q_vw γ E) 0 0 (rec 2 M L x)) (ih3 : ∀ M L x, Ct γ yX2_readSum cX2_readSum 4 none ⟨12 + d, 0, 0, 700 + 40 * d⟩ [.ref (E.2.1 24), .int x] E M L (Q_vw γ E) 0 0 (rec 3 M L x)) (ih4 : ∀ M L x, Ct γ yX2_readTerm cX2_readTerm 3 none ⟨12 + d, 0, 0, 700 + 40 * d⟩ [.ref (E.2.1 24), .int x] E M L (Q_vw γ E) 0 0 (rec 4 M L x)) (ih5 : ∀ M L x, Ct γ yX2_readOne cX2_readOne 2 none ⟨12 + d, 0, 0, 700 + 40 * d⟩ [.ref (E.2.1 24), .int x] E M L (Q_vw γ E) 0 0 (rec 5 M L x)) : Ct γ yX2_readOne cX2_readOne 2 none ⟨12 + (d + 1), 0, 0, 700 + 40 * (d + 1)⟩ [.ref (E.2.1 24), .int x1] E M L (Q_vw γ E) 0 0 (F_X2_readOne rec M L x1) := by
  refine ct_of (own := RX2) (lv := [some (.ref (E.2.1 24)), some (.int x1)]) (by decide +kernel) rfl rfl (Nat.le_of_ble_eq_true rfl) (fun κ C hγ hN => ?_)
  subst hγ
  have hn : ∀ i, i < 2 → i < knL κ := fun i h => by rw [hN]; exact h
  have k129 : ∀ (M : Mi) (L : Ml), JF κ (PQ κ (Q_vw (kγ κ) E) 0 0) 129 [some (.ref (E.2.1 24)), none] [] E M L 0 0 (F_X2_readOne_k129 rec M L) := by
    intro M L
    unfold F_X2_readOne_k129
    refine j_aload_n C dX2_readOne_129 rfl rfl ?_
    refine j_callV_vw (st := []) C dX2_readOne_130 (ct_X2_refuse (kγ κ) E M L h0) mi_X2_refuse tw_352 FC2 (RAt.S h0) rfl rfl (Nat.le_of_ble_eq_true rfl) ⟨⟨rfl, rfl⟩, ⟨by dsimp only; omega, by dsimp only; omega⟩, ⟨Nat.zero_le _, Nat.zero_le _⟩⟩ (fun r130 => ?_)
    exact j_vretw C dX2_readOne_133
  have k81 : ∀ (M : Mi) (L : Ml) (x1 : Int32), JF κ (PQ κ (Q_vw (kγ κ) E) 0 0) 81 [some (.ref (E.2.1 24)), some (.int x1)] [] E M L 0 0 (F_X2_readOne_k81 rec M L x1) := by
    intro M L x1
    unfold F_X2_readOne_k81
    refine j_aload_n C dX2_readOne_81 rfl rfl ?_
    refine j_getI (j := 4) C dX2_readOne_82 FC2 (RAt.S h0) (by decide) rfl tw_204 ?_
    refine j_bipush (v := (40 : Int32)) C dX2_readOne_85 (by decide) ?_
    refine j_icmp_ne (tgt := 129) C dX2_readOne_87 (by decide) ?_ ?_
    · refine j_mask [true, false] (lv' := [some (.ref (E.2.1 24)), none]) rfl ?_
      exact k129 M L
    · refine j_iload_n C dX2_readOne_90 rfl rfl ?_
      refine j_iconst (v := (5 : Int32)) C dX2_readOne_91 rfl ?_
      refine j_icmp_ge (tgt := 129) C dX2_readOne_92 (by decide) ?_ ?_
      · refine j_mask [true, false] (lv' := [some (.ref (E.2.1 24)), none]) rfl ?_
        exact k129 M L
      · refine j_aload_n C dX2_readOne_95 rfl rfl ?_
        refine j_callV_vw (st := []) C dX2_readOne_96 (ct_X2_advance (kγ κ) E M L h0) mi_X2_advance tw_305 FC2 (RAt.S h0) rfl rfl (Nat.le_of_ble_eq_true rfl) ⟨⟨rfl, rfl⟩, ⟨by dsimp only; omega, by dsimp only; omega⟩, ⟨Nat.zero_le _, Nat.zero_le _⟩⟩ (fun r96 => ?_)
        refine j_aload_n C dX2_readOne_99 rfl rfl ?_
        refine j_iload_n C dX2_readOne_100 rfl rfl ?_
        refine j_iconst (v := (1 : Int32)) C dX2_readOne_101 rfl ?_
        refine j_iadd C dX2_readOne_102 ?_
        refine j_callV_vw (st := []) C dX2_readOne_103 (ih0 r96.1 r96.2 (x1 + (1 : Int32))) mi_X2_readE tw_356 FC2 (RAt.S h0) rfl rfl (Nat.le_of_ble_eq_true rfl) ⟨⟨rfl, rfl⟩, ⟨by dsimp only; omega, by dsimp only; omega⟩, ⟨Nat.zero_le _, Nat.zero_le _⟩⟩ (fun r103 => ?_)
        refine j_pc (pc2 := 106) rfl ?_
        refine j_aload_n C dX2_readOne_106 rfl rfl ?_
        refine j_getI (j := 4) C dX2_readOne_107 FC2 (RAt.S h0) (by decide) rfl tw_204 ?_
        refine j_bipush (v := (41 : Int32)) C dX2_readOne_110 (by decide) ?_
        refine j_icmp_ne (tgt := 122) C dX2_readOne_112 (by decide) ?_ ?_
        · refine j_aload_n C dX2_readOne_122 rfl rfl ?_
          refine j_callV_vw (st := []) C dX2_readOne_123 (ct_X2_refuse (kγ κ) E r103.1 r103.2 h0) mi_X2_refuse tw_352 FC2 (RAt.S h0) rfl rfl (Nat.le_of_ble_eq_true rfl) ⟨⟨rfl, rfl⟩, ⟨by dsimp only; omega, by dsimp only; omega⟩, ⟨Nat.zero_le _, Nat.zero_le _⟩⟩ (fun r123 => ?_)
          refine j_goto (tgt := 133) C dX2_readOne_126 (by decide) ?_
          exact j_vretw C dX2_readOne_133
        · refine j_aload_n C dX2_readOne_115 rfl rfl ?_
          refine j_callV_vw (st := []) C dX2_readOne_116 (ct_X2_advance (kγ κ) E r103.1 r103.2 h0) mi_X2_advance tw_305 FC2 (RAt.S h0) rfl rfl (Nat.le_of_ble_eq_true rfl) ⟨⟨rfl, rfl⟩, ⟨by dsimp only; omega, by dsimp only; omega⟩, ⟨Nat.zero_le _, Nat.zero_le _⟩⟩ (fun r116 => ?_)
          refine j_goto (tgt := 133) C dX2_readOne_119 (by decide) ?_
          exact j_vretw C dX2_readOne_133
  unfold F_X2_readOne
  refine j_aload_n C dX2_readOne_0 rfl rfl ?_
  refine j_getI (j := 4) C dX2_readOne_1 FC2 (RAt.S h0) (by decide) rfl tw_204 ?_
  refine j_sipush (v := (257 : Int32)) C dX2_readOne_4 (by decide) ?_
  refine j_icmp_ne (tgt := 25) C dX2_readOne_7 (by decide) ?_ ?_
  · refine j_aload_n C dX2_readOne_25 rfl rfl ?_
    refine j_getI (j := 4) C dX2_readOne_26 FC2 (RAt.S h0) (by decide) rfl tw_204 ?_
    refine j_if_ge (tgt := 47) C dX2_readOne_29 (by decide) ?_ ?_
    · refine j_aload_n C dX2_readOne_47 rfl rfl ?_
      refine j_getI (j := 4) C dX2_readOne_48 FC2 (RAt.S h0) (by decide) rfl tw_204 ?_
      refine j_bipush (v := (45 : Int32)) C dX2_readOne_51 (by decide) ?_
      refine j_icmp_ne (tgt := 81) C dX2_readOne_53 (by decide) ?_ ?_
      · exact k81 M L x1
      · refine j_iload_n C dX2_readOne_56 rfl rfl ?_
        refine j_iconst (v := (5 : Int32)) C dX2_readOne_57 rfl ?_
        refine j_icmp_ge (tgt := 81) C dX2_readOne_58 (by decide) ?_ ?_
        · exact k81 M L x1
        · refine j_aload_n C dX2_readOne_61 rfl rfl ?_
          refine j_callV_vw (st := []) C dX2_readOne_62 (ct_X2_advance (kγ κ) E M L h0) mi_X2_advance tw_305 FC2 (RAt.S h0) rfl rfl (Nat.le_of_ble_eq_true rfl) ⟨⟨rfl, rfl⟩, ⟨by dsimp only; omega, by dsimp only; omega⟩, ⟨Nat.zero_le _, Nat.zero_le _⟩⟩ (fun r62 => ?_)
          refine j_aload_n C dX2_readOne_65 rfl rfl ?_
          refine j_iload_n C dX2_readOne_66 rfl rfl ?_
          refine j_iconst (v := (1 : Int32)) C dX2_readOne_67 rfl ?_
          refine j_iadd C dX2_readOne_68 ?_
          refine j_callV_vw (st := []) C dX2_readOne_69 (ih5 r62.1 r62.2 (x1 + (1 : Int32))) mi_X2_readOne tw_380 FC2 (RAt.S h0) rfl rfl (Nat.le_of_ble_eq_true rfl) ⟨⟨rfl, rfl⟩, ⟨by dsimp only; omega, by dsimp only; omega⟩, ⟨Nat.zero_le _, Nat.zero_le _⟩⟩ (fun r69 => ?_)
          refine j_pc (pc2 := 72) rfl ?_
          refine j_aload_n C dX2_readOne_72 rfl rfl ?_
          refine j_bipush (v := (-8 : Int32)) C dX2_readOne_73 (by decide) ?_
          refine j_callV_vw (st := []) C dX2_readOne_75 (ct_X2_write (kγ κ) E r69.1 r69.2 (-8 : Int32) h0) mi_X2_write tw_368 FC2 (RAt.S h0) rfl rfl (Nat.le_of_ble_eq_true rfl) ⟨⟨rfl, rfl⟩, ⟨by dsimp only; omega, by dsimp only; omega⟩, ⟨Nat.zero_le _, Nat.zero_le _⟩⟩ (fun r75 => ?_)
          refine j_goto (tgt := 133) C dX2_readOne_78 (by decide) ?_
          exact j_vretw C dX2_readOne_133
    · refine j_aload_n C dX2_readOne_32 rfl rfl ?_
      refine j_aload_n C dX2_readOne_33 rfl rfl ?_
      refine j_getI (j := 4) C dX2_readOne_34 FC2 (RAt.S h0) (by decide) rfl tw_204 ?_
      refine j_callV_vw (st := []) C dX2_readOne_37 (ct_X2_write (kγ κ) E M L (M 24 4) h0) mi_X2_write tw_368 FC2 (RAt.S h0) rfl rfl (Nat.le_of_ble_eq_true rfl) ⟨⟨rfl, rfl⟩, ⟨by dsimp only; omega, by dsimp only; omega⟩, ⟨Nat.zero_le _, Nat.zero_le _⟩⟩ (fun r37 => ?_)
      refine j_aload_n C dX2_readOne_40 rfl rfl ?_
      refine j_callV_vw (st := []) C dX2_readOne_41 (ct_X2_advance (kγ κ) E r37.1 r37.2 h0) mi_X2_advance tw_305 FC2 (RAt.S h0) rfl rfl (Nat.le_of_ble_eq_true rfl) ⟨⟨rfl, rfl⟩, ⟨by dsimp only; omega, by dsimp only; omega⟩, ⟨Nat.zero_le _, Nat.zero_le _⟩⟩ (fun r41 => ?_)
      refine j_goto (tgt := 133) C dX2_readOne_44 (by decide) ?_
      exact j_vretw C dX2_readOne_133
  · refine j_aload_n C dX2_readOne_10 rfl rfl ?_
    refine j_aload_n C dX2_readOne_11 rfl rfl ?_
    refine j_getI (j := 7) C dX2_readOne_12 FC2 (RAt.S h0) (by decide) rfl tw_207 ?_
    refine j_callV_vw (st := []) C dX2_readOne_15 (ct_X2_write (kγ κ) E M L (M 24 7) h0) mi_X2_write tw_368 FC2 (RAt.S h0) rfl rfl (Nat.le_of_ble_eq_true rfl) ⟨⟨rfl, rfl⟩, ⟨by dsimp only; omega, by dsimp only; omega⟩, ⟨Nat.zero_le _, Nat.zero_le _⟩⟩ (fun r15 => ?_)
    refine j_aload_n C dX2_readOne_18 rfl rfl ?_
    refine j_callV_vw (st := []) C dX2_readOne_19 (ct_X2_advance (kγ κ) E r15.1 r15.2 h0) mi_X2_advance tw_305 FC2 (RAt.S h0) rfl rfl (Nat.le_of_ble_eq_true rfl) ⟨⟨rfl, rfl⟩, ⟨by dsimp only; omega, by dsimp only; omega⟩, ⟨Nat.zero_le _, Nat.zero_le _⟩⟩ (fun r19 => ?_)
    refine j_goto (tgt := 133) C dX2_readOne_22 (by decide) ?_
    exact j_vretw C dX2_readOne_133
theorem ct_RD (γ : Gm) (E : Ev) (h0 : RAt E) : ∀ d, (∀ M L x, Ct γ yX2_readE cX2_readE 3 none ⟨12 + d, 0, 0, 700 + 40 * d⟩ [.ref (E.2.1 24), .int x] E M L (Q_vw γ E) 0 0 (F_RD d 0 M L x)) ∧ (∀ M L x, Ct γ yX2_readAnd cX2_readAnd 3 none ⟨12 + d, 0, 0, 700 + 40 * d⟩ [.ref (E.2.1 24), .int x] E M L (Q_vw γ E) 0 0 (F_RD d 1 M L x)) ∧ (∀ M L x, Ct γ yX2_readNot cX2_readNot 3 none ⟨12 + d, 0, 0, 700 + 40 * d⟩ [.ref (E.2.1 24), .int x] E M L (Q_vw γ E) 0 0 (F_RD d 2 M L x)) ∧ (∀ M L x, Ct γ yX2_readSum cX2_readSum 4 none ⟨12 + d, 0, 0, 700 + 40 * d⟩ [.ref (E.2.1 24), .int x] E M L (Q_vw γ E) 0 0 (F_RD d 3 M L x)) ∧ (∀ M L x, Ct γ yX2_readTerm cX2_readTerm 3 none ⟨12 + d, 0, 0, 700 + 40 * d⟩ [.ref (E.2.1 24), .int x] E M L (Q_vw γ E) 0 0 (F_RD d 4 M L x)) ∧ (∀ M L x, Ct γ yX2_readOne cX2_readOne 2 none ⟨12 + d, 0, 0, 700 + 40 * d⟩ [.ref (E.2.1 24), .int x] E M L (Q_vw γ E) 0 0 (F_RD d 5 M L x)) := by
  intro d
  induction d with
  | zero => exact ⟨(fun M L x l r h => nomatch h), (fun M L x l r h => nomatch h), (fun M L x l r h => nomatch h), (fun M L x l r h => nomatch h), (fun M L x l r h => nomatch h), (fun M L x l r h => nomatch h)⟩
  | succ d ih =>
    obtain ⟨i0, i1, i2, i3, i4, i5⟩ := ih
    exact ⟨fun M L x => ct_X2_readE γ E M L (F_RD d) x h0 d i0 i1 i2 i3 i4 i5, fun M L x => ct_X2_readAnd γ E M L (F_RD d) x h0 d i0 i1 i2 i3 i4 i5, fun M L x => ct_X2_readNot γ E M L (F_RD d) x h0 d i0 i1 i2 i3 i4 i5, fun M L x => ct_X2_readSum γ E M L (F_RD d) x h0 d i0 i1 i2 i3 i4 i5, fun M L x => ct_X2_readTerm γ E M L (F_RD d) x h0 d i0 i1 i2 i3 i4 i5, fun M L x => ct_X2_readOne γ E M L (F_RD d) x h0 d i0 i1 i2 i3 i4 i5⟩
theorem ct_X2_readE_all (γ : Gm) (E : Ev) (M : Mi) (L : Ml) (x : Int32) (h0 : RAt E) : Ct γ yX2_readE cX2_readE 3 none ⟨52, 0, 0, 2300⟩ [.ref (E.2.1 24), .int x] E M L (Q_vw γ E) 0 0 (F_RD FD 0 M L x) := (ct_RD γ E h0 40).1 M L x
set_option maxRecDepth 100000 in
set_option maxHeartbeats 4000000 in
theorem ct_X2_readPart (γ : Gm) (E : Ev) (M : Mi) (L : Ml)  (x1 : Int32) (h0 : RAt E) : Ct γ yX2_readPart cX2_readPart 2 (some .int) ⟨53, 0, 0, 2322⟩ [.ref (E.2.1 24), .int x1] E M L (Q_iw γ E) 0 0 (F_X2_readPart M L x1) := by
  refine ct_of (own := RX2) (lv := [some (.ref (E.2.1 24)), some (.int x1)]) (by decide +kernel) rfl rfl (Nat.le_of_ble_eq_true rfl) (fun κ C hγ hN => ?_)
  subst hγ
  have hn : ∀ i, i < 2 → i < knL κ := fun i h => by rw [hN]; exact h
  unfold F_X2_readPart
  refine j_aload_n C dX2_readPart_0 rfl rfl ?_
  refine j_iload_n C dX2_readPart_1 rfl rfl ?_
  refine j_callV_vw (st := []) C dX2_readPart_2 (ct_X2_need (kγ κ) E M L x1 h0) mi_X2_need tw_348 FC2 (RAt.S h0) rfl rfl (Nat.le_of_ble_eq_true rfl) ⟨⟨rfl, rfl⟩, ⟨Nat.le_of_ble_eq_true rfl, Nat.le_of_ble_eq_true rfl⟩, ⟨Nat.zero_le _, Nat.zero_le _⟩⟩ (fun r2 => ?_)
  refine j_aload_n C dX2_readPart_5 rfl rfl ?_
  refine j_iconst (v := (0 : Int32)) C dX2_readPart_6 rfl ?_
  refine j_callV_vw (st := []) C dX2_readPart_7 (ct_X2_readE_all (kγ κ) E r2.1 r2.2 (0 : Int32) h0) mi_X2_readE tw_356 FC2 (RAt.S h0) rfl rfl (Nat.le_of_ble_eq_true rfl) ⟨⟨rfl, rfl⟩, ⟨Nat.le_of_ble_eq_true rfl, Nat.le_of_ble_eq_true rfl⟩, ⟨Nat.zero_le _, Nat.zero_le _⟩⟩ (fun r7 => ?_)
  refine j_aload_n C dX2_readPart_10 rfl rfl ?_
  refine j_pc (pc2 := 11) rfl ?_
  refine j_bipush (v := (59 : Int32)) C dX2_readPart_11 (by decide) ?_
  refine j_callV_vw (st := []) C dX2_readPart_13 (ct_X2_need (kγ κ) E r7.1 r7.2 (59 : Int32) h0) mi_X2_need tw_348 FC2 (RAt.S h0) rfl rfl (Nat.le_of_ble_eq_true rfl) ⟨⟨rfl, rfl⟩, ⟨Nat.le_of_ble_eq_true rfl, Nat.le_of_ble_eq_true rfl⟩, ⟨Nat.zero_le _, Nat.zero_le _⟩⟩ (fun r13 => ?_)
  refine j_aload_n C dX2_readPart_16 rfl rfl ?_
  refine j_getI (j := 8) C dX2_readPart_17 FC2 (RAt.S h0) (by decide) rfl tw_208 ?_
  exact j_iretw C dX2_readPart_20
