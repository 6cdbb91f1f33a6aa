set_option maxRecDepth 100000 in
set_option maxHeartbeats 4000000 in
theorem ct_X1_joined (γ : Gm) (E : Ev) (M : Mi) (L : Ml)  (x0 : Int32) (x1 : Int32) (x2 : Int32)  : Ct γ yX1_joined cX1_joined 3 (some .int) ⟨0, 0, 0, 0⟩ [.int x0, .int x1, .int x2] E M L (Q_i γ E M L) 0 0 (F_X1_joined x0 x1 x2) := by
  refine ct_of (own := RX1) (lv := [some (.int x0), some (.int x1), some (.int x2)]) (by decide +kernel) rfl rfl (Nat.le_of_ble_eq_true rfl) (fun κ C hγ hN => ?_)
  subst hγ
  have hn : ∀ i, i < 3 → i < knL κ := fun i h => by rw [hN]; exact h
  have k48 : JF κ (PQ κ (Q_i (kγ κ) E M L) 0 0) 48 [none, none, none] [] E M L 0 0 (F_X1_joined_k48 ) := by
    unfold F_X1_joined_k48
    refine j_iconst (v := (1 : Int32)) C dX1_joined_48 rfl ?_
    refine j_goto (tgt := 53) C dX1_joined_49 (by decide) ?_
    exact j_iret C dX1_joined_53
  unfold F_X1_joined
  refine j_iload_n C dX1_joined_0 rfl rfl ?_
  refine j_ite (fun h1_0 => ?_) (fun h1_0 => ?_)
  · refine j_tswHit (c := (-14 : Int32)) (off := 93) (tgt := 94) C dX1_joined_1 h1_0 (by decide) (by decide) (by decide) (by decide) ?_
    refine j_iload_n C dX1_joined_94 rfl rfl ?_
    refine j_iload_n C dX1_joined_95 rfl rfl ?_
    refine j_isub C dX1_joined_96 ?_
    exact j_iret C dX1_joined_97
  · skip
    refine j_ite (fun h1_1 => ?_) (fun h1_1 => ?_)
    · refine j_tswHit (c := (-13 : Int32)) (off := 89) (tgt := 90) C dX1_joined_1 h1_1 (by decide) (by decide) (by decide) (by decide) ?_
      refine j_iload_n C dX1_joined_90 rfl rfl ?_
      refine j_iload_n C dX1_joined_91 rfl rfl ?_
      refine j_iadd C dX1_joined_92 ?_
      exact j_iret C dX1_joined_93
    · skip
      refine j_ite (fun h1_2 => ?_) (fun h1_2 => ?_)
      · refine j_tswHit (c := (-12 : Int32)) (off := 78) (tgt := 79) C dX1_joined_1 h1_2 (by decide) (by decide) (by decide) (by decide) ?_
        refine j_iload_n C dX1_joined_79 rfl rfl ?_
        refine j_iload_n C dX1_joined_80 rfl rfl ?_
        refine j_icmp_ne (tgt := 88) C dX1_joined_81 (by decide) ?_ ?_
        · refine j_iconst (v := (0 : Int32)) C dX1_joined_88 rfl ?_
          exact j_iret C dX1_joined_89
        · refine j_iconst (v := (1 : Int32)) C dX1_joined_84 rfl ?_
          refine j_goto (tgt := 89) C dX1_joined_85 (by decide) ?_
          exact j_iret C dX1_joined_89
      · skip
        refine j_ite (fun h1_3 => ?_) (fun h1_3 => ?_)
        · refine j_tswHit (c := (-11 : Int32)) (off := 67) (tgt := 68) C dX1_joined_1 h1_3 (by decide) (by decide) (by decide) (by decide) ?_
          refine j_iload_n C dX1_joined_68 rfl rfl ?_
          refine j_iload_n C dX1_joined_69 rfl rfl ?_
          refine j_icmp_ge (tgt := 77) C dX1_joined_70 (by decide) ?_ ?_
          · refine j_iconst (v := (0 : Int32)) C dX1_joined_77 rfl ?_
            exact j_iret C dX1_joined_78
          · refine j_iconst (v := (1 : Int32)) C dX1_joined_73 rfl ?_
            refine j_goto (tgt := 78) C dX1_joined_74 (by decide) ?_
            exact j_iret C dX1_joined_78
        · skip
          refine j_ite (fun h1_4 => ?_) (fun h1_4 => ?_)
          · refine j_tswHit (c := (-10 : Int32)) (off := 53) (tgt := 54) C dX1_joined_1 h1_4 (by decide) (by decide) (by decide) (by decide) ?_
            refine j_iload_n C dX1_joined_54 rfl rfl ?_
            refine j_if_eq (tgt := 66) C dX1_joined_55 (by decide) ?_ ?_
            · refine j_iconst (v := (0 : Int32)) C dX1_joined_66 rfl ?_
              exact j_iret C dX1_joined_67
            · refine j_iload_n C dX1_joined_58 rfl rfl ?_
              refine j_if_eq (tgt := 66) C dX1_joined_59 (by decide) ?_ ?_
              · refine j_iconst (v := (0 : Int32)) C dX1_joined_66 rfl ?_
                exact j_iret C dX1_joined_67
              · refine j_iconst (v := (1 : Int32)) C dX1_joined_62 rfl ?_
                refine j_goto (tgt := 67) C dX1_joined_63 (by decide) ?_
                exact j_iret C dX1_joined_67
          · skip
            refine j_ite (fun h1_5 => ?_) (fun h1_5 => ?_)
            · refine j_tswHit (c := (-9 : Int32)) (off := 39) (tgt := 40) C dX1_joined_1 h1_5 (by decide) (by decide) (by decide) (by decide) ?_
              refine j_iload_n C dX1_joined_40 rfl rfl ?_
              refine j_if_ne (tgt := 48) C dX1_joined_41 (by decide) ?_ ?_
              · refine j_mask [false, false, false] (lv' := [none, none, none]) rfl ?_
                exact k48 
              · refine j_iload_n C dX1_joined_44 rfl rfl ?_
                refine j_if_eq (tgt := 52) C dX1_joined_45 (by decide) ?_ ?_
                · refine j_iconst (v := (0 : Int32)) C dX1_joined_52 rfl ?_
                  exact j_iret C dX1_joined_53
                · refine j_mask [false, false, false] (lv' := [none, none, none]) rfl ?_
                  exact k48 
            · skip
              refine j_tswDef (tgt := 98) C dX1_joined_1 (by have q0 := i_neq (-14) (by decide) h1_0; have q1 := i_neq (-13) (by decide) h1_1; have q2 := i_neq (-12) (by decide) h1_2; have q3 := i_neq (-11) (by decide) h1_3; have q4 := i_neq (-10) (by decide) h1_4; have q5 := i_neq (-9) (by decide) h1_5; omega) (by decide) ?_
              refine j_iload_n C dX1_joined_98 rfl rfl ?_
              refine j_iload_n C dX1_joined_99 rfl rfl ?_
              refine j_imul C dX1_joined_100 ?_
              exact j_iret C dX1_joined_101
set_option maxRecDepth 100000 in
set_option maxHeartbeats 4000000 in
theorem ct_X4_end (γ : Gm) (E : Ev) (M : Mi) (L : Ml) (b : Nat) (x1 : Int32) (h0 : TAt E b) : Ct γ yX4_end cX4_end 2 (some .int) ⟨0, 0, 0, 0⟩ [.ref (E.2.1 b), .int x1] E M L (Q_i γ E M L) 0 0 (F_X4_end E b M L x1) := by
  refine ct_of (own := RX4) (lv := [some (.ref (E.2.1 b)), some (.int x1)]) (by decide +kernel) rfl rfl (Nat.le_of_ble_eq_true rfl) (fun κ C hγ hN => ?_)
  subst hγ
  have hn : ∀ i, i < 2 → i < knL κ := fun i h => by rw [hN]; exact h
  unfold F_X4_end
  refine j_iload_n C dX4_end_0 rfl rfl ?_
  refine j_if_ne (tgt := 11) C dX4_end_1 (by decide) ?_ ?_
  · refine j_iload_n C dX4_end_11 rfl rfl ?_
    refine j_iconst (v := (1 : Int32)) C dX4_end_12 rfl ?_
    refine j_icmp_ne (tgt := 23) C dX4_end_13 (by decide) ?_ ?_
    · refine j_aload_n C dX4_end_23 rfl rfl ?_
      refine j_getR (j := 0) C dX4_end_24 FC4 (TAt.S h0) (by decide) rfl (TAt.R_code h0) tw_406 ?_
      refine j_alen C dX4_end_27 (TAt.P_code h0) ?_
      exact j_iret C dX4_end_28
    · refine j_aload_n C dX4_end_16 rfl rfl ?_
      refine j_getI (j := 2) C dX4_end_17 FC4 (TAt.S h0) (by decide) rfl tw_409 ?_
      refine j_goto (tgt := 28) C dX4_end_20 (by decide) ?_
      exact j_iret C dX4_end_28
  · refine j_aload_n C dX4_end_4 rfl rfl ?_
    refine j_getI (j := 1) C dX4_end_5 FC4 (TAt.S h0) (by decide) rfl tw_408 ?_
    refine j_goto (tgt := 28) C dX4_end_8 (by decide) ?_
    exact j_iret C dX4_end_28
set_option maxRecDepth 100000 in
set_option maxHeartbeats 4000000 in
theorem ct_X4_start (γ : Gm) (E : Ev) (M : Mi) (L : Ml) (b : Nat) (x1 : Int32) (h0 : TAt E b) : Ct γ yX4_start cX4_start 2 (some .int) ⟨0, 0, 0, 0⟩ [.ref (E.2.1 b), .int x1] E M L (Q_i γ E M L) 0 0 (F_X4_start b M L x1) := by
  refine ct_of (own := RX4) (lv := [some (.ref (E.2.1 b)), some (.int x1)]) (by decide +kernel) rfl rfl (Nat.le_of_ble_eq_true rfl) (fun κ C hγ hN => ?_)
  subst hγ
  have hn : ∀ i, i < 2 → i < knL κ := fun i h => by rw [hN]; exact h
  unfold F_X4_start
  refine j_iload_n C dX4_start_0 rfl rfl ?_
  refine j_if_ne (tgt := 8) C dX4_start_1 (by decide) ?_ ?_
  · refine j_iload_n C dX4_start_8 rfl rfl ?_
    refine j_iconst (v := (1 : Int32)) C dX4_start_9 rfl ?_
    refine j_icmp_ne (tgt := 20) C dX4_start_10 (by decide) ?_ ?_
    · refine j_aload_n C dX4_start_20 rfl rfl ?_
      refine j_getI (j := 2) C dX4_start_21 FC4 (TAt.S h0) (by decide) rfl tw_409 ?_
      exact j_iret C dX4_start_24
    · refine j_aload_n C dX4_start_13 rfl rfl ?_
      refine j_getI (j := 1) C dX4_start_14 FC4 (TAt.S h0) (by decide) rfl tw_408 ?_
      refine j_goto (tgt := 24) C dX4_start_17 (by decide) ?_
      exact j_iret C dX4_start_24
  · refine j_iconst (v := (0 : Int32)) C dX4_start_4 rfl ?_
    refine j_goto (tgt := 24) C dX4_start_5 (by decide) ?_
    exact j_iret C dX4_start_24
set_option maxRecDepth 100000 in
set_option maxHeartbeats 4000000 in
theorem ct_X1_value (γ : Gm) (E : Ev) (M : Mi) (L : Ml) (c1 : Nat) (x2 : Int32) (x3 : Int32) (h0 : LAt E) (h1 : FAt E c1) : Ct γ yX1_value cX1_value 9 (some .int) ⟨2, 0, 0, 43⟩ [.ref (E.2.1 21), .ref (E.2.1 c1), .int x2, .int x3] E M L (Q_iw γ E) 0 0 (F_X1_value E c1 M L x2 x3) := by
  refine ct_of (own := RX1) (lv := [some (.ref (E.2.1 21)), some (.ref (E.2.1 c1)), some (.int x2), some (.int x3), none, none, none, none, none]) (by decide +kernel) rfl rfl (Nat.le_of_ble_eq_true rfl) (fun κ C hγ hN => ?_)
  subst hγ
  have hn : ∀ i, i < 9 → i < knL κ := fun i h => by rw [hN]; exact h
  have k219 : ∀ (kf57 : Mi → Ml → Int32 → Nat → Int32 → Int32 → Int32 → Option (Int32 × Mi × Ml)), (∀ (M : Mi) (L : Ml) (x2 : Int32) (y4 : Nat) (x5 : Int32) (x6 : Int32) (x7 : Int32) (hy4 : TAt E y4), JF κ (PQ κ (Q_iw (kγ κ) E) 0 0) 57 [some (.ref (E.2.1 21)), some (.ref (E.2.1 c1)), some (.int x2), none, some (.ref (E.2.1 y4)), some (.int x5), some (.int x6), some (.int x7), none] [] E M L 0 0 (kf57 M L x2 y4 x5 x6 x7)) → ∀ (M : Mi) (L : Ml) (x2 : Int32) (y4 : Nat) (x5 : Int32) (x6 : Int32) (x7 : Int32) (hy4 : TAt E y4), JF κ (PQ κ (Q_iw (kγ κ) E) 0 0) 219 [some (.ref (E.2.1 21)), some (.ref (E.2.1 c1)), some (.int x2), none, some (.ref (E.2.1 y4)), some (.int x5), some (.int x6), some (.int x7), none] [] E M L 0 0 (F_X1_value_k219 E c1 kf57 M L x2 y4 x5 x6 x7) := by
    intro kf57 hkf57 M L x2 y4 x5 x6 x7 hy4
    unfold F_X1_value_k219
    refine j_iinc (i := 7) (v := (x7 + (1 : Int32))) (lv' := [some (.ref (E.2.1 21)), some (.ref (E.2.1 c1)), some (.int x2), none, some (.ref (E.2.1 y4)), some (.int x5), some (.int x6), some (.int (x7 + (1 : Int32))), none]) C dX1_value_219 rfl rfl (hn 7 (by decide)) rfl ?_
    refine j_goto (tgt := 57) C dX1_value_222 (by decide) ?_
    exact hkf57 M L x2 y4 x5 x6 ((x7 + (1 : Int32))) hy4
  have k176 : ∀ (kf57 : Mi → Ml → Int32 → Nat → Int32 → Int32 → Int32 → Option (Int32 × Mi × Ml)), (∀ (M : Mi) (L : Ml) (x2 : Int32) (y4 : Nat) (x5 : Int32) (x6 : Int32) (x7 : Int32) (hy4 : TAt E y4), JF κ (PQ κ (Q_iw (kγ κ) E) 0 0) 57 [some (.ref (E.2.1 21)), some (.ref (E.2.1 c1)), some (.int x2), none, some (.ref (E.2.1 y4)), some (.int x5), some (.int x6), some (.int x7), none] [] E M L 0 0 (kf57 M L x2 y4 x5 x6 x7)) → ∀ (M : Mi) (L : Ml) (x2 : Int32) (y4 : Nat) (x5 : Int32) (x6 : Int32) (x7 : Int32) (s1 : Int32) (s2 : Int32) (hy4 : TAt E y4), JF κ (PQ κ (Q_iw (kγ κ) E) 0 0) 176 [some (.ref (E.2.1 21)), some (.ref (E.2.1 c1)), some (.int x2), none, some (.ref (E.2.1 y4)), some (.int x5), some (.int x6), some (.int x7), none] [.int s2, .int s1, .ref (E.2.1 23)] E M L 0 0 (F_X1_value_k176 E c1 kf57 M L x2 y4 x5 x6 x7 s1 s2) := by
    intro kf57 hkf57 M L x2 y4 x5 x6 x7 s1 s2 hy4
    unfold F_X1_value_k176
    refine j_iast C dX1_value_176 (LAt.P_stack h0) ?_
    refine j_goto (tgt := 219) C dX1_value_177 (by decide) ?_
    exact k219 kf57 hkf57 ((up2 M 23 (Int32.toNatClampNeg s1) s2)) L x2 y4 x5 x6 x7 hy4
  have k111 : ∀ (kf57 : Mi → Ml → Int32 → Nat → Int32 → Int32 → Int32 → Option (Int32 × Mi × Ml)), (∀ (M : Mi) (L : Ml) (x2 : Int32) (y4 : Nat) (x5 : Int32) (x6 : Int32) (x7 : Int32) (hy4 : TAt E y4), JF κ (PQ κ (Q_iw (kγ κ) E) 0 0) 57 [some (.ref (E.2.1 21)), some (.ref (E.2.1 c1)), some (.int x2), none, some (.ref (E.2.1 y4)), some (.int x5), some (.int x6), some (.int x7), none] [] E M L 0 0 (kf57 M L x2 y4 x5 x6 x7)) → ∀ (M : Mi) (L : Ml) (x2 : Int32) (y4 : Nat) (x5 : Int32) (x6 : Int32) (x7 : Int32) (s1 : Int32) (s2 : Int32) (hy4 : TAt E y4), JF κ (PQ κ (Q_iw (kγ κ) E) 0 0) 111 [some (.ref (E.2.1 21)), some (.ref (E.2.1 c1)), some (.int x2), none, some (.ref (E.2.1 y4)), some (.int x5), some (.int x6), some (.int x7), none] [.int s2, .int s1, .ref (E.2.1 23)] E M L 0 0 (F_X1_value_k111 E c1 kf57 M L x2 y4 x5 x6 x7 s1 s2) := by
    intro kf57 hkf57 M L x2 y4 x5 x6 x7 s1 s2 hy4
    unfold F_X1_value_k111
    refine j_iast C dX1_value_111 (LAt.P_stack h0) ?_
    refine j_iinc (i := 6) (v := (x6 + (1 : Int32))) (lv' := [some (.ref (E.2.1 21)), some (.ref (E.2.1 c1)), some (.int x2), none, some (.ref (E.2.1 y4)), some (.int x5), some (.int (x6 + (1 : Int32))), some (.int x7), none]) C dX1_value_112 rfl rfl (hn 6 (by decide)) rfl ?_
    refine j_goto (tgt := 219) C dX1_value_115 (by decide) ?_
    exact k219 kf57 hkf57 ((up2 M 23 (Int32.toNatClampNeg s1) s2)) L x2 y4 x5 ((x6 + (1 : Int32))) x7 hy4
  have k57 : ∀ (n : Nat) (M : Mi) (L : Ml) (x2 : Int32) (y4 : Nat) (x5 : Int32) (x6 : Int32) (x7 : Int32) (hy4 : TAt E y4), JF κ (PQ κ (Q_iw (kγ κ) E) 0 0) 57 [some (.ref (E.2.1 21)), some (.ref (E.2.1 c1)), some (.int x2), none, some (.ref (E.2.1 y4)), some (.int x5), some (.int x6), some (.int x7), none] [] E M L 0 0 (F_X1_value_k57 E c1 n M L x2 y4 x5 x6 x7) := by
    intro n
    induction n with
    | zero => intros; exact jf_none
    | succ n ih =>
      intro M L x2 y4 x5 x6 x7 hy4
      unfold F_X1_value_k57
      refine j_iload C dX1_value_57 rfl ?_
      refine j_iload C dX1_value_59 rfl ?_
      refine j_icmp_ge (tgt := 225) C dX1_value_61 (by decide) ?_ ?_
      · refine j_aload_n C dX1_value_225 rfl rfl ?_
        refine j_getR (j := 1) C dX1_value_226 FC1 (LAt.S h0) (by decide) rfl (LAt.R_stack h0) tw_182 ?_
        refine j_iconst (v := (0 : Int32)) C dX1_value_229 rfl ?_
        refine j_iald C dX1_value_230 (LAt.P_stack h0) ?_
        exact j_iretw C dX1_value_231
      · refine j_aload C dX1_value_64 rfl ?_
        refine j_getR (j := 0) C dX1_value_66 FC4 (TAt.S hy4) (by decide) rfl (TAt.R_code hy4) tw_407 ?_
        refine j_iload C dX1_value_69 rfl ?_
        refine j_iald C dX1_value_71 (TAt.P_code hy4) ?_
        refine j_istore (i := 8) (lv' := [some (.ref (E.2.1 21)), some (.ref (E.2.1 c1)), some (.int x2), none, some (.ref (E.2.1 y4)), some (.int x5), some (.int x6), some (.int x7), some (.int (M (y4 + 1) (Int32.toNatClampNeg x7)))]) C dX1_value_72 (hn 8 (by decide)) rfl ?_
        refine j_iload C dX1_value_74 rfl ?_
        refine j_bipush (v := (-6 : Int32)) C dX1_value_76 (by decide) ?_
        refine j_pc (pc2 := 78) rfl ?_
        refine j_icmp_lt (tgt := 118) C dX1_value_78 (by decide) ?_ ?_
        · refine j_iload C dX1_value_118 rfl ?_
          refine j_bipush (v := (-8 : Int32)) C dX1_value_120 (by decide) ?_
          refine j_icmp_lt (tgt := 180) C dX1_value_122 (by decide) ?_ ?_
          · refine j_iload C dX1_value_180 rfl ?_
            refine j_iconst (v := (2 : Int32)) C dX1_value_182 rfl ?_
            refine j_icmp_lt (tgt := 219) C dX1_value_183 (by decide) ?_ ?_
            · refine j_mask [true, true, true, false, true, true, true, true, false] (lv' := [some (.ref (E.2.1 21)), some (.ref (E.2.1 c1)), some (.int x2), none, some (.ref (E.2.1 y4)), some (.int x5), some (.int x6), some (.int x7), none]) rfl ?_
              exact k219 (F_X1_value_k57 E c1 n) ih M L x2 y4 x5 x6 x7 hy4
            · refine j_iinc (i := 6) (v := (x6 + (-1 : Int32))) (lv' := [some (.ref (E.2.1 21)), some (.ref (E.2.1 c1)), some (.int x2), none, some (.ref (E.2.1 y4)), some (.int x5), some (.int (x6 + (-1 : Int32))), some (.int x7), some (.int (M (y4 + 1) (Int32.toNatClampNeg x7)))]) C dX1_value_186 rfl rfl (hn 6 (by decide)) rfl ?_
              refine j_aload_n C dX1_value_189 rfl rfl ?_
              refine j_getR (j := 1) C dX1_value_190 FC1 (LAt.S h0) (by decide) rfl (LAt.R_stack h0) tw_182 ?_
              refine j_iload C dX1_value_193 rfl ?_
              refine j_iconst (v := (1 : Int32)) C dX1_value_195 rfl ?_
              refine j_isub C dX1_value_196 ?_
              refine j_iload C dX1_value_197 rfl ?_
              refine j_pc (pc2 := 199) rfl ?_
              refine j_aload_n C dX1_value_199 rfl rfl ?_
              refine j_getR (j := 1) C dX1_value_200 FC1 (LAt.S h0) (by decide) rfl (LAt.R_stack h0) tw_182 ?_
              refine j_iload C dX1_value_203 rfl ?_
              refine j_iconst (v := (1 : Int32)) C dX1_value_205 rfl ?_
              refine j_isub C dX1_value_206 ?_
              refine j_iald C dX1_value_207 (LAt.P_stack h0) ?_
              refine j_aload_n C dX1_value_208 rfl rfl ?_
              refine j_getR (j := 1) C dX1_value_209 FC1 (LAt.S h0) (by decide) rfl (LAt.R_stack h0) tw_182 ?_
              refine j_pc (pc2 := 212) rfl ?_
              refine j_iload C dX1_value_212 rfl ?_
              refine j_iald C dX1_value_214 (LAt.P_stack h0) ?_
              refine j_callS_i (st := [.int ((x6 + (-1 : Int32)) - (1 : Int32)), .ref (E.2.1 23)]) C dX1_value_215 (ct_X1_joined (kγ κ) E M L (M (y4 + 1) (Int32.toNatClampNeg x7)) (M 23 (Int32.toNatClampNeg ((x6 + (-1 : Int32)) - (1 : Int32)))) (M 23 (Int32.toNatClampNeg (x6 + (-1 : Int32))))) mi_X1_joined tw_523 rfl rfl (Nat.le_of_ble_eq_true rfl) ⟨⟨rfl, rfl⟩, ⟨Nat.le_of_ble_eq_true rfl, Nat.le_of_ble_eq_true rfl⟩, ⟨Nat.zero_le _, Nat.zero_le _⟩⟩ (fun v215 => ?_)
              refine j_iast C dX1_value_218 (LAt.P_stack h0) ?_
              refine j_mask [true, true, true, false, true, true, true, true, false] (lv' := [some (.ref (E.2.1 21)), some (.ref (E.2.1 c1)), some (.int x2), none, some (.ref (E.2.1 y4)), some (.int x5), some (.int (x6 + (-1 : Int32))), some (.int x7), none]) rfl ?_
              exact k219 (F_X1_value_k57 E c1 n) ih ((up2 M 23 (Int32.toNatClampNeg ((x6 + (-1 : Int32)) - (1 : Int32))) v215)) L x2 y4 x5 ((x6 + (-1 : Int32))) x7 hy4
          · refine j_iload C dX1_value_125 rfl ?_
            refine j_iconst (v := (1 : Int32)) C dX1_value_127 rfl ?_
            refine j_icmp_lt (tgt := 219) C dX1_value_128 (by decide) ?_ ?_
            · refine j_mask [true, true, true, false, true, true, true, true, false] (lv' := [some (.ref (E.2.1 21)), some (.ref (E.2.1 c1)), some (.int x2), none, some (.ref (E.2.1 y4)), some (.int x5), some (.int x6), some (.int x7), none]) rfl ?_
              exact k219 (F_X1_value_k57 E c1 n) ih M L x2 y4 x5 x6 x7 hy4
            · refine j_aload_n C dX1_value_131 rfl rfl ?_
              refine j_getR (j := 1) C dX1_value_132 FC1 (LAt.S h0) (by decide) rfl (LAt.R_stack h0) tw_182 ?_
              refine j_iload C dX1_value_135 rfl ?_
              refine j_iconst (v := (1 : Int32)) C dX1_value_137 rfl ?_
              refine j_isub C dX1_value_138 ?_
              refine j_iload C dX1_value_139 rfl ?_
              refine j_bipush (v := (-8 : Int32)) C dX1_value_141 (by decide) ?_
              refine j_pc (pc2 := 143) rfl ?_
              refine j_icmp_ne (tgt := 159) C dX1_value_143 (by decide) ?_ ?_
              · refine j_aload_n C dX1_value_159 rfl rfl ?_
                refine j_getR (j := 1) C dX1_value_160 FC1 (LAt.S h0) (by decide) rfl (LAt.R_stack h0) tw_182 ?_
                refine j_iload C dX1_value_163 rfl ?_
                refine j_iconst (v := (1 : Int32)) C dX1_value_165 rfl ?_
                refine j_isub C dX1_value_166 ?_
                refine j_iald C dX1_value_167 (LAt.P_stack h0) ?_
                refine j_if_ne (tgt := 175) C dX1_value_168 (by decide) ?_ ?_
                · refine j_iconst (v := (0 : Int32)) C dX1_value_175 rfl ?_
                  refine j_mask [true, true, true, false, true, true, true, true, false] (lv' := [some (.ref (E.2.1 21)), some (.ref (E.2.1 c1)), some (.int x2), none, some (.ref (E.2.1 y4)), some (.int x5), some (.int x6), some (.int x7), none]) rfl ?_
                  exact k176 (F_X1_value_k57 E c1 n) ih M L x2 y4 x5 x6 x7 ((x6 - (1 : Int32))) ((0 : Int32)) hy4
                · refine j_iconst (v := (1 : Int32)) C dX1_value_171 rfl ?_
                  refine j_goto (tgt := 176) C dX1_value_172 (by decide) ?_
                  refine j_mask [true, true, true, false, true, true, true, true, false] (lv' := [some (.ref (E.2.1 21)), some (.ref (E.2.1 c1)), some (.int x2), none, some (.ref (E.2.1 y4)), some (.int x5), some (.int x6), some (.int x7), none]) rfl ?_
                  exact k176 (F_X1_value_k57 E c1 n) ih M L x2 y4 x5 x6 x7 ((x6 - (1 : Int32))) ((1 : Int32)) hy4
              · refine j_aload_n C dX1_value_146 rfl rfl ?_
                refine j_getR (j := 1) C dX1_value_147 FC1 (LAt.S h0) (by decide) rfl (LAt.R_stack h0) tw_182 ?_
                refine j_iload C dX1_value_150 rfl ?_
                refine j_iconst (v := (1 : Int32)) C dX1_value_152 rfl ?_
                refine j_isub C dX1_value_153 ?_
                refine j_iald C dX1_value_154 (LAt.P_stack h0) ?_
                refine j_ineg C dX1_value_155 ?_
                refine j_pc (pc2 := 156) rfl ?_
                refine j_goto (tgt := 176) C dX1_value_156 (by decide) ?_
                refine j_mask [true, true, true, false, true, true, true, true, false] (lv' := [some (.ref (E.2.1 21)), some (.ref (E.2.1 c1)), some (.int x2), none, some (.ref (E.2.1 y4)), some (.int x5), some (.int x6), some (.int x7), none]) rfl ?_
                exact k176 (F_X1_value_k57 E c1 n) ih M L x2 y4 x5 x6 x7 ((x6 - (1 : Int32))) ((-(M 23 (Int32.toNatClampNeg (x6 - (1 : Int32)))))) hy4
        · refine j_iload C dX1_value_81 rfl ?_
          refine j_bipush (v := (40 : Int32)) C dX1_value_83 (by decide) ?_
          refine j_icmp_ge (tgt := 219) C dX1_value_85 (by decide) ?_ ?_
          · refine j_mask [true, true, true, false, true, true, true, true, false] (lv' := [some (.ref (E.2.1 21)), some (.ref (E.2.1 c1)), some (.int x2), none, some (.ref (E.2.1 y4)), some (.int x5), some (.int x6), some (.int x7), none]) rfl ?_
            exact k219 (F_X1_value_k57 E c1 n) ih M L x2 y4 x5 x6 x7 hy4
          · refine j_aload_n C dX1_value_88 rfl rfl ?_
            refine j_getR (j := 1) C dX1_value_89 FC1 (LAt.S h0) (by decide) rfl (LAt.R_stack h0) tw_182 ?_
            refine j_iload C dX1_value_92 rfl ?_
            refine j_iload C dX1_value_94 rfl ?_
            refine j_if_lt (tgt := 104) C dX1_value_96 (by decide) ?_ ?_
            · refine j_aload_n C dX1_value_104 rfl rfl ?_
              refine j_iload C dX1_value_105 rfl ?_
              refine j_iload_n C dX1_value_107 rfl rfl ?_
              refine j_callV_i (st := [.int x6, .ref (E.2.1 23)]) C dX1_value_108 (ct_X0_named (kγ κ) E M L c1 (M (y4 + 1) (Int32.toNatClampNeg x7)) x2 h1) mi_X0_named tw_513 FC0 (FAt.S h1) rfl rfl (Nat.le_of_ble_eq_true rfl) ⟨⟨rfl, rfl⟩, ⟨Nat.le_of_ble_eq_true rfl, Nat.le_of_ble_eq_true rfl⟩, ⟨Nat.zero_le _, Nat.zero_le _⟩⟩ (fun v108 => ?_)
              refine j_mask [true, true, true, false, true, true, true, true, false] (lv' := [some (.ref (E.2.1 21)), some (.ref (E.2.1 c1)), some (.int x2), none, some (.ref (E.2.1 y4)), some (.int x5), some (.int x6), some (.int x7), none]) rfl ?_
              exact k111 (F_X1_value_k57 E c1 n) ih M L x2 y4 x5 x6 x7 x6 v108 hy4
            · refine j_iload C dX1_value_99 rfl ?_
              refine j_goto (tgt := 111) C dX1_value_101 (by decide) ?_
              refine j_mask [true, true, true, false, true, true, true, true, false] (lv' := [some (.ref (E.2.1 21)), some (.ref (E.2.1 c1)), some (.int x2), none, some (.ref (E.2.1 y4)), some (.int x5), some (.int x6), some (.int x7), none]) rfl ?_
              exact k111 (F_X1_value_k57 E c1 n) ih M L x2 y4 x5 x6 x7 x6 ((M (y4 + 1) (Int32.toNatClampNeg x7))) hy4
  unfold F_X1_value
  refine j_aload_n C dX1_value_0 rfl rfl ?_
  refine j_getI (j := 4) C dX1_value_1 FC0 (FAt.S h1) (by decide) rfl tw_141 ?_
  refine j_aload_n C dX1_value_4 rfl rfl ?_
  refine j_getI (j := 2) C dX1_value_5 FC1 (LAt.S h0) (by decide) rfl tw_183 ?_
  refine j_iconst (v := (1 : Int32)) C dX1_value_8 rfl ?_
  refine j_isub C dX1_value_9 ?_
  refine j_callN_i (st := []) C dX1_value_10 (ct_X5_isWithin (kγ κ) E M L (M c1 4) ((M 21 2) - (1 : Int32))) mi_X5_isWithin (fun q => q.2.1) rfl rfl (Nat.le_of_ble_eq_true rfl) ⟨⟨rfl, rfl⟩, ⟨Nat.le_of_ble_eq_true rfl, Nat.le_of_ble_eq_true rfl⟩, ⟨Nat.zero_le _, Nat.zero_le _⟩⟩ (fun v10 => ?_)
  refine j_pc (pc2 := 13) rfl ?_
  refine j_if_eq (tgt := 28) C dX1_value_13 (by decide) ?_ ?_
  · refine j_null C dX1_value_28 ?_
    refine j_astoreN (i := 4) (lv' := [some (.ref (E.2.1 21)), some (.ref (E.2.1 c1)), some (.int x2), some (.int x3), some (.null), none, none, none, none]) C dX1_value_29 (hn 4 (by decide)) rfl ?_
    refine j_aloadN C dX1_value_31 rfl ?_
    refine j_ifnonnullN C dX1_value_33 ?_
    refine j_iconst (v := (0 : Int32)) C dX1_value_36 rfl ?_
    exact j_iretw C dX1_value_37
  · refine j_aload_n C dX1_value_16 rfl rfl ?_
    refine j_getR (j := 0) C dX1_value_17 FC1 (LAt.S h0) (by decide) rfl (LAt.R_texts h0) tw_181 ?_
    refine j_aload_n C dX1_value_20 rfl rfl ?_
    refine j_getI (j := 4) C dX1_value_21 FC0 (FAt.S h1) (by decide) rfl tw_141 ?_
    refine j_aaldO (t := 1) C dX1_value_24 (LAt.P_texts h0) (by decide) ?_ (fun t24 ht24 => ?_)
    · refine j_goto (tgt := 29) C dX1_value_25 (by decide) ?_
      refine j_astoreN (i := 4) (lv' := [some (.ref (E.2.1 21)), some (.ref (E.2.1 c1)), some (.int x2), some (.int x3), some (.null), none, none, none, none]) C dX1_value_29 (hn 4 (by decide)) rfl ?_
      refine j_aloadN C dX1_value_31 rfl ?_
      refine j_ifnonnullN C dX1_value_33 ?_
      refine j_iconst (v := (0 : Int32)) C dX1_value_36 rfl ?_
      exact j_iretw C dX1_value_37
    · refine j_goto (tgt := 29) C dX1_value_25 (by decide) ?_
      refine j_astore (i := 4) (lv' := [some (.ref (E.2.1 21)), some (.ref (E.2.1 c1)), some (.int x2), some (.int x3), some (.ref (E.2.1 t24)), none, none, none, none]) C dX1_value_29 (hn 4 (by decide)) rfl ?_
      refine j_aload C dX1_value_31 rfl ?_
      refine j_ifnonnull (tgt := 38) C dX1_value_33 (by decide) ?_
      refine j_aload C dX1_value_38 rfl ?_
      refine j_iload_n C dX1_value_40 rfl rfl ?_
      refine j_callV_i (st := []) C dX1_value_41 (ct_X4_end (kγ κ) E M L t24 x3 (LAt.TA h0 ht24)) mi_X4_end tw_505 FC4 (TAt.S (LAt.TA h0 ht24)) rfl rfl (Nat.le_of_ble_eq_true rfl) ⟨⟨rfl, rfl⟩, ⟨Nat.le_of_ble_eq_true rfl, Nat.le_of_ble_eq_true rfl⟩, ⟨Nat.zero_le _, Nat.zero_le _⟩⟩ (fun v41 => ?_)
      refine j_istore (i := 5) (lv' := [some (.ref (E.2.1 21)), some (.ref (E.2.1 c1)), some (.int x2), some (.int x3), some (.ref (E.2.1 t24)), some (.int v41), none, none, none]) C dX1_value_44 (hn 5 (by decide)) rfl ?_
      refine j_iconst (v := (0 : Int32)) C dX1_value_46 rfl ?_
      refine j_istore (i := 6) (lv' := [some (.ref (E.2.1 21)), some (.ref (E.2.1 c1)), some (.int x2), some (.int x3), some (.ref (E.2.1 t24)), some (.int v41), some (.int (0 : Int32)), none, none]) C dX1_value_47 (hn 6 (by decide)) rfl ?_
      refine j_aload C dX1_value_49 rfl ?_
      refine j_pc (pc2 := 51) rfl ?_
      refine j_iload_n C dX1_value_51 rfl rfl ?_
      refine j_callV_i (st := []) C dX1_value_52 (ct_X4_start (kγ κ) E M L t24 x3 (LAt.TA h0 ht24)) mi_X4_start tw_509 FC4 (TAt.S (LAt.TA h0 ht24)) rfl rfl (Nat.le_of_ble_eq_true rfl) ⟨⟨rfl, rfl⟩, ⟨Nat.le_of_ble_eq_true rfl, Nat.le_of_ble_eq_true rfl⟩, ⟨Nat.zero_le _, Nat.zero_le _⟩⟩ (fun v52 => ?_)
      refine j_istore (i := 7) (lv' := [some (.ref (E.2.1 21)), some (.ref (E.2.1 c1)), some (.int x2), some (.int x3), some (.ref (E.2.1 t24)), some (.int v41), some (.int (0 : Int32)), some (.int v52), none]) C dX1_value_55 (hn 7 (by decide)) rfl ?_
      refine j_mask [true, true, true, false, true, true, true, true, false] (lv' := [some (.ref (E.2.1 21)), some (.ref (E.2.1 c1)), some (.int x2), none, some (.ref (E.2.1 t24)), some (.int v41), some (.int (0 : Int32)), some (.int v52), none]) rfl ?_
      exact k57 FU M L x2 t24 v41 ((0 : Int32)) v52 (LAt.TA h0 ht24)
set_option maxRecDepth 100000 in
set_option maxHeartbeats 4000000 in
theorem ct_X1_restsOf (γ : Gm) (E : Ev) (M : Mi) (L : Ml) (c1 : Nat) (x2 : Int32) (h0 : LAt E) (h1 : FAt E c1) : Ct γ yX1_restsOf cX1_restsOf 3 (some .int) ⟨3, 0, 0, 71⟩ [.ref (E.2.1 21), .ref (E.2.1 c1), .int x2] E M L (Q_iw γ E) 0 0 (F_X1_restsOf E c1 M L x2) := by
  refine ct_of (own := RX1) (lv := [some (.ref (E.2.1 21)), some (.ref (E.2.1 c1)), some (.int x2)]) (by decide +kernel) rfl rfl (Nat.le_of_ble_eq_true rfl) (fun κ C hγ hN => ?_)
  subst hγ
  have hn : ∀ i, i < 3 → i < knL κ := fun i h => by rw [hN]; exact h
  unfold F_X1_restsOf
  refine j_aload_n C dX1_restsOf_0 rfl rfl ?_
  refine j_iload_n C dX1_restsOf_1 rfl rfl ?_
  refine j_aload_n C dX1_restsOf_2 rfl rfl ?_
  refine j_aload_n C dX1_restsOf_3 rfl rfl ?_
  refine j_iload_n C dX1_restsOf_4 rfl rfl ?_
  refine j_iconst (v := (2 : Int32)) C dX1_restsOf_5 rfl ?_
  refine j_callV_iw (st := [.int x2, .ref (E.2.1 c1)]) C dX1_restsOf_6 (ct_X1_value (kγ κ) E M L c1 x2 (2 : Int32) h0 h1) mi_X1_value tw_500 FC1 (LAt.S h0) rfl rfl (Nat.le_of_ble_eq_true rfl) ⟨⟨rfl, rfl⟩, ⟨Nat.le_of_ble_eq_true rfl, Nat.le_of_ble_eq_true rfl⟩, ⟨Nat.zero_le _, Nat.zero_le _⟩⟩ (fun r6 => ?_)
  refine j_pc (pc2 := 9) rfl ?_
  refine j_iconst (v := (0 : Int32)) C dX1_restsOf_9 rfl ?_
  refine j_bipush (v := (99 : Int32)) C dX1_restsOf_10 (by decide) ?_
  refine j_callN_i (st := [.int x2, .ref (E.2.1 c1)]) C dX1_restsOf_12 (ct_X5_bounded (kγ κ) E r6.2.1 r6.2.2 r6.1 (0 : Int32) (99 : Int32)) mi_X5_bounded (fun q => q.2.2.1) rfl rfl (Nat.le_of_ble_eq_true rfl) ⟨⟨rfl, rfl⟩, ⟨Nat.le_of_ble_eq_true rfl, Nat.le_of_ble_eq_true rfl⟩, ⟨Nat.zero_le _, Nat.zero_le _⟩⟩ (fun v12 => ?_)
  refine j_callV_i (st := []) C dX1_restsOf_15 (ct_X0_rests (kγ κ) E r6.2.1 r6.2.2 c1 x2 v12 h1) mi_X0_rests tw_548 FC0 (FAt.S h1) rfl rfl (Nat.le_of_ble_eq_true rfl) ⟨⟨rfl, rfl⟩, ⟨Nat.le_of_ble_eq_true rfl, Nat.le_of_ble_eq_true rfl⟩, ⟨Nat.zero_le _, Nat.zero_le _⟩⟩ (fun v15 => ?_)
  refine j_iconst (v := (0 : Int32)) C dX1_restsOf_18 rfl ?_
  refine j_bipush (v := (99 : Int32)) C dX1_restsOf_19 (by decide) ?_
  refine j_callN_i (st := []) C dX1_restsOf_21 (ct_X5_bounded (kγ κ) E r6.2.1 r6.2.2 v15 (0 : Int32) (99 : Int32)) mi_X5_bounded (fun q => q.2.2.1) rfl rfl (Nat.le_of_ble_eq_true rfl) ⟨⟨rfl, rfl⟩, ⟨Nat.le_of_ble_eq_true rfl, Nat.le_of_ble_eq_true rfl⟩, ⟨Nat.zero_le _, Nat.zero_le _⟩⟩ (fun v21 => ?_)
  exact j_iretw C dX1_restsOf_24
set_option maxRecDepth 100000 in
set_option maxHeartbeats 4000000 in
theorem ct_X1_tiresOf (γ : Gm) (E : Ev) (M : Mi) (L : Ml) (c1 : Nat) (x2 : Int32) (h0 : LAt E) (h1 : FAt E c1) : Ct γ yX1_tiresOf cX1_tiresOf 3 (some .int) ⟨3, 0, 0, 71⟩ [.ref (E.2.1 21), .ref (E.2.1 c1), .int x2] E M L (Q_iw γ E) 0 0 (F_X1_tiresOf E c1 M L x2) := by
  refine ct_of (own := RX1) (lv := [some (.ref (E.2.1 21)), some (.ref (E.2.1 c1)), some (.int x2)]) (by decide +kernel) rfl rfl (Nat.le_of_ble_eq_true rfl) (fun κ C hγ hN => ?_)
  subst hγ
  have hn : ∀ i, i < 3 → i < knL κ := fun i h => by rw [hN]; exact h
  unfold F_X1_tiresOf
  refine j_aload_n C dX1_tiresOf_0 rfl rfl ?_
  refine j_iload_n C dX1_tiresOf_1 rfl rfl ?_
  refine j_aload_n C dX1_tiresOf_2 rfl rfl ?_
  refine j_aload_n C dX1_tiresOf_3 rfl rfl ?_
  refine j_iload_n C dX1_tiresOf_4 rfl rfl ?_
  refine j_iconst (v := (1 : Int32)) C dX1_tiresOf_5 rfl ?_
  refine j_callV_iw (st := [.int x2, .ref (E.2.1 c1)]) C dX1_tiresOf_6 (ct_X1_value (kγ κ) E M L c1 x2 (1 : Int32) h0 h1) mi_X1_value tw_500 FC1 (LAt.S h0) rfl rfl (Nat.le_of_ble_eq_true rfl) ⟨⟨rfl, rfl⟩, ⟨Nat.le_of_ble_eq_true rfl, Nat.le_of_ble_eq_true rfl⟩, ⟨Nat.zero_le _, Nat.zero_le _⟩⟩ (fun r6 => ?_)
  refine j_pc (pc2 := 9) rfl ?_
  refine j_iconst (v := (0 : Int32)) C dX1_tiresOf_9 rfl ?_
  refine j_bipush (v := (99 : Int32)) C dX1_tiresOf_10 (by decide) ?_
  refine j_callN_i (st := [.int x2, .ref (E.2.1 c1)]) C dX1_tiresOf_12 (ct_X5_bounded (kγ κ) E r6.2.1 r6.2.2 r6.1 (0 : Int32) (99 : Int32)) mi_X5_bounded (fun q => q.2.2.1) rfl rfl (Nat.le_of_ble_eq_true rfl) ⟨⟨rfl, rfl⟩, ⟨Nat.le_of_ble_eq_true rfl, Nat.le_of_ble_eq_true rfl⟩, ⟨Nat.zero_le _, Nat.zero_le _⟩⟩ (fun v12 => ?_)
  refine j_callV_i (st := []) C dX1_tiresOf_15 (ct_X0_tires (kγ κ) E r6.2.1 r6.2.2 c1 x2 v12 h1) mi_X0_tires tw_540 FC0 (FAt.S h1) rfl rfl (Nat.le_of_ble_eq_true rfl) ⟨⟨rfl, rfl⟩, ⟨Nat.le_of_ble_eq_true rfl, Nat.le_of_ble_eq_true rfl⟩, ⟨Nat.zero_le _, Nat.zero_le _⟩⟩ (fun v15 => ?_)
  refine j_iconst (v := (0 : Int32)) C dX1_tiresOf_18 rfl ?_
  refine j_bipush (v := (99 : Int32)) C dX1_tiresOf_19 (by decide) ?_
  refine j_callN_i (st := []) C dX1_tiresOf_21 (ct_X5_bounded (kγ κ) E r6.2.1 r6.2.2 v15 (0 : Int32) (99 : Int32)) mi_X5_bounded (fun q => q.2.2.1) rfl rfl (Nat.le_of_ble_eq_true rfl) ⟨⟨rfl, rfl⟩, ⟨Nat.le_of_ble_eq_true rfl, Nat.le_of_ble_eq_true rfl⟩, ⟨Nat.zero_le _, Nat.zero_le _⟩⟩ (fun v21 => ?_)
  exact j_iretw C dX1_tiresOf_24
set_option maxRecDepth 100000 in
set_option maxHeartbeats 4000000 in
theorem ct_X1_wayOf (γ : Gm) (E : Ev) (M : Mi) (L : Ml) (c1 : Nat) (x2 : Int32) (h0 : LAt E) (h1 : FAt E c1) : Ct γ yX1_wayOf cX1_wayOf 3 (some .int) ⟨3, 0, 0, 71⟩ [.ref (E.2.1 21), .ref (E.2.1 c1), .int x2] E M L (Q_iw γ E) 0 0 (F_X1_wayOf E c1 M L x2) := by
  refine ct_of (own := RX1) (lv := [some (.ref (E.2.1 21)), some (.ref (E.2.1 c1)), some (.int x2)]) (by decide +kernel) rfl rfl (Nat.le_of_ble_eq_true rfl) (fun κ C hγ hN => ?_)
  subst hγ
  have hn : ∀ i, i < 3 → i < knL κ := fun i h => by rw [hN]; exact h
  unfold F_X1_wayOf
  refine j_aload_n C dX1_wayOf_0 rfl rfl ?_
  refine j_aload_n C dX1_wayOf_1 rfl rfl ?_
  refine j_iload_n C dX1_wayOf_2 rfl rfl ?_
  refine j_iconst (v := (0 : Int32)) C dX1_wayOf_3 rfl ?_
  refine j_callV_iw (st := []) C dX1_wayOf_4 (ct_X1_value (kγ κ) E M L c1 x2 (0 : Int32) h0 h1) mi_X1_value tw_500 FC1 (LAt.S h0) rfl rfl (Nat.le_of_ble_eq_true rfl) ⟨⟨rfl, rfl⟩, ⟨Nat.le_of_ble_eq_true rfl, Nat.le_of_ble_eq_true rfl⟩, ⟨Nat.zero_le _, Nat.zero_le _⟩⟩ (fun r4 => ?_)
  refine j_bipush (v := (-99 : Int32)) C dX1_wayOf_7 (by decide) ?_
  refine j_bipush (v := (99 : Int32)) C dX1_wayOf_9 (by decide) ?_
  refine j_pc (pc2 := 11) rfl ?_
  refine j_callN_i (st := []) C dX1_wayOf_11 (ct_X5_bounded (kγ κ) E r4.2.1 r4.2.2 r4.1 (-99 : Int32) (99 : Int32)) mi_X5_bounded (fun q => q.2.2.1) rfl rfl (Nat.le_of_ble_eq_true rfl) ⟨⟨rfl, rfl⟩, ⟨Nat.le_of_ble_eq_true rfl, Nat.le_of_ble_eq_true rfl⟩, ⟨Nat.zero_le _, Nat.zero_le _⟩⟩ (fun v11 => ?_)
  refine j_bipush (v := (8 : Int32)) C dX1_wayOf_14 (by decide) ?_
  refine j_callS_i (st := []) C dX1_wayOf_16 (ct_J9_floorMod_7cf53 (kγ κ) E r4.2.1 r4.2.2 v11 (8 : Int32)) mi_J9_floorMod_7cf53 tw_533 rfl rfl (Nat.le_of_ble_eq_true rfl) ⟨⟨rfl, rfl⟩, ⟨Nat.le_of_ble_eq_true rfl, Nat.le_of_ble_eq_true rfl⟩, ⟨Nat.zero_le _, Nat.zero_le _⟩⟩ (fun v16 => ?_)
  exact j_iretw C dX1_wayOf_19
set_option maxRecDepth 100000 in
set_option maxHeartbeats 4000000 in
theorem ct_X1_passOne (γ : Gm) (E : Ev) (M : Mi) (L : Ml) (c1 : Nat) (x2 : Int32) (x3 : Int32) (h0 : LAt E) (h1 : FAt E c1) : Ct γ yX1_passOne cX1_passOne 5 (some .boolean) ⟨4, 0, 0, 93⟩ [.ref (E.2.1 21), .ref (E.2.1 c1), .int x2, .int x3] E M L (Q_iw γ E) 0 0 (F_X1_passOne E c1 M L x2 x3) := by
  refine ct_of (own := RX1) (lv := [some (.ref (E.2.1 21)), some (.ref (E.2.1 c1)), some (.int x2), some (.int x3), none]) (by decide +kernel) rfl rfl (Nat.le_of_ble_eq_true rfl) (fun κ C hγ hN => ?_)
  subst hγ
  have hn : ∀ i, i < 5 → i < knL κ := fun i h => by rw [hN]; exact h
  have k25 : ∀ (M : Mi) (L : Ml) (x2 : Int32) (s0 : Int32), JF κ (PQ κ (Q_iw (kγ κ) E) 0 0) 25 [some (.ref (E.2.1 21)), some (.ref (E.2.1 c1)), some (.int x2), none, none] [.int s0] E M L 0 0 (F_X1_passOne_k25 E c1 M L x2 s0) := by
    intro M L x2 s0
    unfold F_X1_passOne_k25
    refine j_istore (i := 4) (lv' := [some (.ref (E.2.1 21)), some (.ref (E.2.1 c1)), some (.int x2), none, some (.int s0)]) C dX1_passOne_25 (hn 4 (by decide)) rfl ?_
    refine j_iload C dX1_passOne_27 rfl ?_
    refine j_iconst (v := (-1 : Int32)) C dX1_passOne_29 rfl ?_
    refine j_icmp_ne (tgt := 58) C dX1_passOne_30 (by decide) ?_ ?_
    · refine j_aload_n C dX1_passOne_58 rfl rfl ?_
      refine j_getR (j := 8) C dX1_passOne_59 FC0 (FAt.S h1) (by decide) rfl (FAt.R_weary h1) tw_152 ?_
      refine j_iload_n C dX1_passOne_62 rfl rfl ?_
      refine j_bipush (v := (99 : Int32)) C dX1_passOne_63 (by decide) ?_
      refine j_aload_n C dX1_passOne_65 rfl rfl ?_
      refine j_getR (j := 8) C dX1_passOne_66 FC0 (FAt.S h1) (by decide) rfl (FAt.R_weary h1) tw_152 ?_
      refine j_iload_n C dX1_passOne_69 rfl rfl ?_
      refine j_pc (pc2 := 70) rfl ?_
      refine j_iald C dX1_passOne_70 (FAt.P_weary h1) ?_
      refine j_aload_n C dX1_passOne_71 rfl rfl ?_
      refine j_aload_n C dX1_passOne_72 rfl rfl ?_
      refine j_iload_n C dX1_passOne_73 rfl rfl ?_
      refine j_callV_iw (st := [.int (M (c1 + 4) (Int32.toNatClampNeg x2)), .int (99 : Int32), .int x2, .ref (E.2.1 (c1 + 4))]) C dX1_passOne_74 (ct_X1_tiresOf (kγ κ) E M L c1 x2 h0 h1) mi_X1_tiresOf tw_637 FC1 (LAt.S h0) rfl rfl (Nat.le_of_ble_eq_true rfl) ⟨⟨rfl, rfl⟩, ⟨Nat.le_of_ble_eq_true rfl, Nat.le_of_ble_eq_true rfl⟩, ⟨Nat.zero_le _, Nat.zero_le _⟩⟩ (fun r74 => ?_)
      refine j_iadd C dX1_passOne_77 ?_
      refine j_min C dX1_passOne_78 tw_638 tw_397 tw_112 tw_398 (Nat.le_of_ble_eq_true rfl) (Nat.le_of_ble_eq_true rfl) ⟨Nat.zero_le _, Nat.zero_le _⟩ ?_
      refine j_iast C dX1_passOne_81 (FAt.P_weary h1) ?_
      refine j_pc (pc2 := 82) rfl ?_
      refine j_aload_n C dX1_passOne_82 rfl rfl ?_
      refine j_getR (j := 7) C dX1_passOne_83 FC0 (FAt.S h1) (by decide) rfl (FAt.R_on h1) tw_149 ?_
      refine j_iload_n C dX1_passOne_86 rfl rfl ?_
      refine j_iload C dX1_passOne_87 rfl ?_
      refine j_iast C dX1_passOne_89 (FAt.P_on h1) ?_
      refine j_iconst (v := (1 : Int32)) C dX1_passOne_90 rfl ?_
      exact j_zretw C dX1_passOne_91
    · refine j_aload_n C dX1_passOne_33 rfl rfl ?_
      refine j_getR (j := 8) C dX1_passOne_34 FC0 (FAt.S h1) (by decide) rfl (FAt.R_weary h1) tw_152 ?_
      refine j_iload_n C dX1_passOne_37 rfl rfl ?_
      refine j_iconst (v := (0 : Int32)) C dX1_passOne_38 rfl ?_
      refine j_aload_n C dX1_passOne_39 rfl rfl ?_
      refine j_getR (j := 8) C dX1_passOne_40 FC0 (FAt.S h1) (by decide) rfl (FAt.R_weary h1) tw_152 ?_
      refine j_iload_n C dX1_passOne_43 rfl rfl ?_
      refine j_pc (pc2 := 44) rfl ?_
      refine j_iald C dX1_passOne_44 (FAt.P_weary h1) ?_
      refine j_aload_n C dX1_passOne_45 rfl rfl ?_
      refine j_aload_n C dX1_passOne_46 rfl rfl ?_
      refine j_iload_n C dX1_passOne_47 rfl rfl ?_
      refine j_callV_iw (st := [.int (M (c1 + 4) (Int32.toNatClampNeg x2)), .int (0 : Int32), .int x2, .ref (E.2.1 (c1 + 4))]) C dX1_passOne_48 (ct_X1_restsOf (kγ κ) E M L c1 x2 h0 h1) mi_X1_restsOf tw_635 FC1 (LAt.S h0) rfl rfl (Nat.le_of_ble_eq_true rfl) ⟨⟨rfl, rfl⟩, ⟨Nat.le_of_ble_eq_true rfl, Nat.le_of_ble_eq_true rfl⟩, ⟨Nat.zero_le _, Nat.zero_le _⟩⟩ (fun r48 => ?_)
      refine j_isub C dX1_passOne_51 ?_
      refine j_max C dX1_passOne_52 tw_636 tw_531 tw_112 tw_532 (Nat.le_of_ble_eq_true rfl) (Nat.le_of_ble_eq_true rfl) ⟨Nat.zero_le _, Nat.zero_le _⟩ ?_
      refine j_iast C dX1_passOne_55 (FAt.P_weary h1) ?_
      refine j_pc (pc2 := 56) rfl ?_
      refine j_iconst (v := (0 : Int32)) C dX1_passOne_56 rfl ?_
      exact j_zretw C dX1_passOne_57
  unfold F_X1_passOne
  refine j_iload_n C dX1_passOne_0 rfl rfl ?_
  refine j_if_eq (tgt := 8) C dX1_passOne_1 (by decide) ?_ ?_
  · refine j_aload_n C dX1_passOne_8 rfl rfl ?_
    refine j_iload_n C dX1_passOne_9 rfl rfl ?_
    refine j_aload_n C dX1_passOne_10 rfl rfl ?_
    refine j_getR (j := 7) C dX1_passOne_11 FC0 (FAt.S h1) (by decide) rfl (FAt.R_on h1) tw_149 ?_
    refine j_iload_n C dX1_passOne_14 rfl rfl ?_
    refine j_iald C dX1_passOne_15 (FAt.P_on h1) ?_
    refine j_aload_n C dX1_passOne_16 rfl rfl ?_
    refine j_pc (pc2 := 17) rfl ?_
    refine j_aload_n C dX1_passOne_17 rfl rfl ?_
    refine j_iload_n C dX1_passOne_18 rfl rfl ?_
    refine j_callV_iw (st := [.int (M (c1 + 3) (Int32.toNatClampNeg x2)), .int x2, .ref (E.2.1 c1)]) C dX1_passOne_19 (ct_X1_wayOf (kγ κ) E M L c1 x2 h0 h1) mi_X1_wayOf tw_633 FC1 (LAt.S h0) rfl rfl (Nat.le_of_ble_eq_true rfl) ⟨⟨rfl, rfl⟩, ⟨Nat.le_of_ble_eq_true rfl, Nat.le_of_ble_eq_true rfl⟩, ⟨Nat.zero_le _, Nat.zero_le _⟩⟩ (fun r19 => ?_)
    refine j_callV_i (st := []) C dX1_passOne_22 (ct_X0_landing (kγ κ) E r19.2.1 r19.2.2 c1 x2 (M (c1 + 3) (Int32.toNatClampNeg x2)) r19.1 h1) mi_X0_landing tw_634 FC0 (FAt.S h1) rfl rfl (Nat.le_of_ble_eq_true rfl) ⟨⟨rfl, rfl⟩, ⟨Nat.le_of_ble_eq_true rfl, Nat.le_of_ble_eq_true rfl⟩, ⟨Nat.zero_le _, Nat.zero_le _⟩⟩ (fun v22 => ?_)
    refine j_mask [true, true, true, false, false] (lv' := [some (.ref (E.2.1 21)), some (.ref (E.2.1 c1)), some (.int x2), none, none]) rfl ?_
    exact k25 r19.2.1 r19.2.2 x2 v22
  · refine j_iconst (v := (-1 : Int32)) C dX1_passOne_4 rfl ?_
    refine j_goto (tgt := 25) C dX1_passOne_5 (by decide) ?_
    refine j_mask [true, true, true, false, false] (lv' := [some (.ref (E.2.1 21)), some (.ref (E.2.1 c1)), some (.int x2), none, none]) rfl ?_
    exact k25 M L x2 ((-1 : Int32))
set_option maxRecDepth 100000 in
set_option maxHeartbeats 4000000 in
theorem ct_X1_passMinutes (γ : Gm) (E : Ev) (M : Mi) (L : Ml) (c1 : Nat) (x2 : Int32) (x3 : Int32) (h0 : LAt E) (h1 : FAt E c1) : Ct γ yX1_passMinutes cX1_passMinutes 7 (some .int) ⟨5, 0, 0, 117⟩ [.ref (E.2.1 21), .ref (E.2.1 c1), .int x2, .int x3] E M L (Q_iw γ E) 0 0 (F_X1_passMinutes E c1 M L x2 x3) := by
  refine ct_of (own := RX1) (lv := [some (.ref (E.2.1 21)), some (.ref (E.2.1 c1)), some (.int x2), some (.int x3), none, none, none]) (by decide +kernel) rfl rfl (Nat.le_of_ble_eq_true rfl) (fun κ C hγ hN => ?_)
  subst hγ
  have hn : ∀ i, i < 7 → i < knL κ := fun i h => by rw [hN]; exact h
  have k55 : ∀ (kf15 : Mi → Ml → Int32 → Int32 → Int32 → Int32 → Int32 → Option (Int32 × Mi × Ml)), (∀ (M : Mi) (L : Ml) (x2 : Int32) (x3 : Int32) (x4 : Int32) (x5 : Int32) (x6 : Int32), JF κ (PQ κ (Q_iw (kγ κ) E) 0 0) 15 [some (.ref (E.2.1 21)), some (.ref (E.2.1 c1)), some (.int x2), some (.int x3), some (.int x4), some (.int x5), some (.int x6)] [] E M L 0 0 (kf15 M L x2 x3 x4 x5 x6)) → ∀ (M : Mi) (L : Ml) (x2 : Int32) (x3 : Int32) (x5 : Int32) (x6 : Int32) (s0 : Int32) (s1 : Int32), JF κ (PQ κ (Q_iw (kγ κ) E) 0 0) 55 [some (.ref (E.2.1 21)), some (.ref (E.2.1 c1)), some (.int x2), some (.int x3), none, some (.int x5), some (.int x6)] [.int s1, .int s0] E M L 0 0 (F_X1_passMinutes_k55 E c1 kf15 M L x2 x3 x5 x6 s0 s1) := by
    intro kf15 hkf15 M L x2 x3 x5 x6 s0 s1
    unfold F_X1_passMinutes_k55
    refine j_ior C dX1_passMinutes_55 ?_
    refine j_istore (i := 4) (lv' := [some (.ref (E.2.1 21)), some (.ref (E.2.1 c1)), some (.int x2), some (.int x3), some (.int (s0 ||| s1)), some (.int x5), some (.int x6)]) C dX1_passMinutes_56 (hn 4 (by decide)) rfl ?_
    refine j_iinc (i := 6) (v := (x6 + (1 : Int32))) (lv' := [some (.ref (E.2.1 21)), some (.ref (E.2.1 c1)), some (.int x2), some (.int x3), some (.int (s0 ||| s1)), some (.int x5), some (.int (x6 + (1 : Int32)))]) C dX1_passMinutes_58 rfl rfl (hn 6 (by decide)) rfl ?_
    refine j_goto (tgt := 15) C dX1_passMinutes_61 (by decide) ?_
    exact hkf15 M L x2 x3 ((s0 ||| s1)) x5 ((x6 + (1 : Int32)))
  have k41 : ∀ (kf15 : Mi → Ml → Int32 → Int32 → Int32 → Int32 → Int32 → Option (Int32 × Mi × Ml)), (∀ (M : Mi) (L : Ml) (x2 : Int32) (x3 : Int32) (x4 : Int32) (x5 : Int32) (x6 : Int32), JF κ (PQ κ (Q_iw (kγ κ) E) 0 0) 15 [some (.ref (E.2.1 21)), some (.ref (E.2.1 c1)), some (.int x2), some (.int x3), some (.int x4), some (.int x5), some (.int x6)] [] E M L 0 0 (kf15 M L x2 x3 x4 x5 x6)) → ∀ (M : Mi) (L : Ml) (x2 : Int32) (x3 : Int32) (x5 : Int32) (x6 : Int32) (s0 : Int32) (s3 : Int32) (s4 : Int32), JF κ (PQ κ (Q_iw (kγ κ) E) 0 0) 41 [some (.ref (E.2.1 21)), some (.ref (E.2.1 c1)), some (.int x2), some (.int x3), none, some (.int x5), some (.int x6)] [.int s4, .int s3, .ref (E.2.1 c1), .ref (E.2.1 21), .int s0] E M L 0 0 (F_X1_passMinutes_k41 E c1 kf15 M L x2 x3 x5 x6 s0 s3 s4) := by
    intro kf15 hkf15 M L x2 x3 x5 x6 s0 s3 s4
    unfold F_X1_passMinutes_k41
    refine j_callV_iw (st := [.int s0]) C dX1_passMinutes_41 (ct_X1_passOne (kγ κ) E M L c1 s3 s4 h0 h1) mi_X1_passOne tw_629 FC1 (LAt.S h0) rfl rfl (Nat.le_of_ble_eq_true rfl) ⟨⟨rfl, rfl⟩, ⟨Nat.le_of_ble_eq_true rfl, Nat.le_of_ble_eq_true rfl⟩, ⟨Nat.zero_le _, Nat.zero_le _⟩⟩ (fun r41 => ?_)
    refine j_if_eq (tgt := 54) C dX1_passMinutes_44 (by decide) ?_ ?_
    · refine j_iconst (v := (0 : Int32)) C dX1_passMinutes_54 rfl ?_
      exact k55 kf15 hkf15 r41.2.1 r41.2.2 x2 x3 x5 x6 s0 ((0 : Int32))
    · refine j_iconst (v := (1 : Int32)) C dX1_passMinutes_47 rfl ?_
      refine j_iload C dX1_passMinutes_48 rfl ?_
      refine j_ishl C dX1_passMinutes_50 ?_
      refine j_goto (tgt := 55) C dX1_passMinutes_51 (by decide) ?_
      exact k55 kf15 hkf15 r41.2.1 r41.2.2 x2 x3 x5 x6 s0 ((ishl (1 : Int32) x6))
  have k15 : ∀ (kf6 : Mi → Ml → Int32 → Int32 → Int32 → Int32 → Option (Int32 × Mi × Ml)), (∀ (M : Mi) (L : Ml) (x2 : Int32) (x3 : Int32) (x4 : Int32) (x5 : Int32), JF κ (PQ κ (Q_iw (kγ κ) E) 0 0) 6 [some (.ref (E.2.1 21)), some (.ref (E.2.1 c1)), some (.int x2), some (.int x3), some (.int x4), some (.int x5), none] [] E M L 0 0 (kf6 M L x2 x3 x4 x5)) → ∀ (n : Nat) (M : Mi) (L : Ml) (x2 : Int32) (x3 : Int32) (x4 : Int32) (x5 : Int32) (x6 : Int32), JF κ (PQ κ (Q_iw (kγ κ) E) 0 0) 15 [some (.ref (E.2.1 21)), some (.ref (E.2.1 c1)), some (.int x2), some (.int x3), some (.int x4), some (.int x5), some (.int x6)] [] E M L 0 0 (F_X1_passMinutes_k15 E c1 kf6 n M L x2 x3 x4 x5 x6) := by
    intro kf6 hkf6
    intro n
    induction n with
    | zero => intros; exact jf_none
    | succ n ih =>
      intro M L x2 x3 x4 x5 x6
      unfold F_X1_passMinutes_k15
      refine j_iload C dX1_passMinutes_15 rfl ?_
      refine j_aload_n C dX1_passMinutes_17 rfl rfl ?_
      refine j_getI (j := 3) C dX1_passMinutes_18 FC0 (FAt.S h1) (by decide) rfl tw_138 ?_
      refine j_icmp_ge (tgt := 64) C dX1_passMinutes_21 (by decide) ?_ ?_
      · refine j_aload_n C dX1_passMinutes_64 rfl rfl ?_
        refine j_dup C dX1_passMinutes_65 rfl ?_
        refine j_getI (j := 2) C dX1_passMinutes_66 FC0 (FAt.S h1) (by decide) rfl tw_136 ?_
        refine j_iconst (v := (1 : Int32)) C dX1_passMinutes_69 rfl ?_
        refine j_iadd C dX1_passMinutes_70 ?_
        refine j_putI (j := 2) C dX1_passMinutes_71 FC0 (FAt.S h1) (by decide) rfl rfl rfl rfl tw_136 ?_
        refine j_iinc (i := 5) (v := (x5 + (1 : Int32))) (lv' := [some (.ref (E.2.1 21)), some (.ref (E.2.1 c1)), some (.int x2), some (.int x3), some (.int x4), some (.int (x5 + (1 : Int32))), some (.int x6)]) C dX1_passMinutes_74 rfl rfl (hn 5 (by decide)) rfl ?_
        refine j_pc (pc2 := 77) rfl ?_
        refine j_goto (tgt := 6) C dX1_passMinutes_77 (by decide) ?_
        refine j_mask [true, true, true, true, true, true, false] (lv' := [some (.ref (E.2.1 21)), some (.ref (E.2.1 c1)), some (.int x2), some (.int x3), some (.int x4), some (.int (x5 + (1 : Int32))), none]) rfl ?_
        exact hkf6 ((up2 M c1 2 ((M c1 2) + (1 : Int32)))) L x2 x3 x4 ((x5 + (1 : Int32)))
      · refine j_iload C dX1_passMinutes_24 rfl ?_
        refine j_aload_n C dX1_passMinutes_26 rfl rfl ?_
        refine j_aload_n C dX1_passMinutes_27 rfl rfl ?_
        refine j_iload C dX1_passMinutes_28 rfl ?_
        refine j_iload C dX1_passMinutes_30 rfl ?_
        refine j_iload_n C dX1_passMinutes_32 rfl rfl ?_
        refine j_icmp_ne (tgt := 40) C dX1_passMinutes_33 (by decide) ?_ ?_
        · refine j_iconst (v := (0 : Int32)) C dX1_passMinutes_40 rfl ?_
          refine j_mask [true, true, true, true, false, true, true] (lv' := [some (.ref (E.2.1 21)), some (.ref (E.2.1 c1)), some (.int x2), some (.int x3), none, some (.int x5), some (.int x6)]) rfl ?_
          exact k41 (F_X1_passMinutes_k15 E c1 kf6 n) ih M L x2 x3 x5 x6 x4 x6 ((0 : Int32))
        · refine j_iconst (v := (1 : Int32)) C dX1_passMinutes_36 rfl ?_
          refine j_goto (tgt := 41) C dX1_passMinutes_37 (by decide) ?_
          refine j_mask [true, true, true, true, false, true, true] (lv' := [some (.ref (E.2.1 21)), some (.ref (E.2.1 c1)), some (.int x2), some (.int x3), none, some (.int x5), some (.int x6)]) rfl ?_
          exact k41 (F_X1_passMinutes_k15 E c1 kf6 n) ih M L x2 x3 x5 x6 x4 x6 ((1 : Int32))
  have k6 : ∀ (n : Nat) (M : Mi) (L : Ml) (x2 : Int32) (x3 : Int32) (x4 : Int32) (x5 : Int32), JF κ (PQ κ (Q_iw (kγ κ) E) 0 0) 6 [some (.ref (E.2.1 21)), some (.ref (E.2.1 c1)), some (.int x2), some (.int x3), some (.int x4), some (.int x5), none] [] E M L 0 0 (F_X1_passMinutes_k6 E c1 n M L x2 x3 x4 x5) := by
    intro n
    induction n with
    | zero => intros; exact jf_none
    | succ n ih =>
      intro M L x2 x3 x4 x5
      unfold F_X1_passMinutes_k6
      refine j_iload C dX1_passMinutes_6 rfl ?_
      refine j_iload_n C dX1_passMinutes_8 rfl rfl ?_
      refine j_icmp_ge (tgt := 80) C dX1_passMinutes_9 (by decide) ?_ ?_
      · refine j_iload C dX1_passMinutes_80 rfl ?_
        exact j_iretw C dX1_passMinutes_82
      · refine j_iconst (v := (0 : Int32)) C dX1_passMinutes_12 rfl ?_
        refine j_istore (i := 6) (lv' := [some (.ref (E.2.1 21)), some (.ref (E.2.1 c1)), some (.int x2), some (.int x3), some (.int x4), some (.int x5), some (.int (0 : Int32))]) C dX1_passMinutes_13 (hn 6 (by decide)) rfl ?_
        exact k15 (F_X1_passMinutes_k6 E c1 n) ih FU M L x2 x3 x4 x5 ((0 : Int32))
  unfold F_X1_passMinutes
  refine j_iconst (v := (0 : Int32)) C dX1_passMinutes_0 rfl ?_
  refine j_istore (i := 4) (lv' := [some (.ref (E.2.1 21)), some (.ref (E.2.1 c1)), some (.int x2), some (.int x3), some (.int (0 : Int32)), none, none]) C dX1_passMinutes_1 (hn 4 (by decide)) rfl ?_
  refine j_iconst (v := (0 : Int32)) C dX1_passMinutes_3 rfl ?_
  refine j_istore (i := 5) (lv' := [some (.ref (E.2.1 21)), some (.ref (E.2.1 c1)), some (.int x2), some (.int x3), some (.int (0 : Int32)), some (.int (0 : Int32)), none]) C dX1_passMinutes_4 (hn 5 (by decide)) rfl ?_
  exact k6 FU M L x2 x3 ((0 : Int32)) ((0 : Int32))
set_option maxRecDepth 100000 in
set_option maxHeartbeats 4000000 in
theorem ct_X3_become (γ : Gm) (E : Ev) (M : Mi) (L : Ml) (b : Nat) (x1 : Int32) (x2 : Int32) (h0 : SAt E b) : Ct γ yX3_become cX3_become 3 none ⟨1, 0, 0, 23⟩ [.ref (E.2.1 b), .int x1, .int x2] E M L (Q_vw γ E) 0 0 (F_X3_become b M L x1 x2) := by
  refine ct_of (own := RX3) (lv := [some (.ref (E.2.1 b)), some (.int x1), some (.int x2)]) (by decide +kernel) rfl rfl (Nat.le_of_ble_eq_true rfl) (fun κ C hγ hN => ?_)
  subst hγ
  have hn : ∀ i, i < 3 → i < knL κ := fun i h => by rw [hN]; exact h
  unfold F_X3_become
  refine j_aload_n C dX3_become_0 rfl rfl ?_
  refine j_iload_n C dX3_become_1 rfl rfl ?_
  refine j_putI (j := 1) C dX3_become_2 FC3 (SAt.S h0) (by decide) rfl rfl rfl rfl tw_237 ?_
  refine j_aload_n C dX3_become_5 rfl rfl ?_
  refine j_iload_n C dX3_become_6 rfl rfl ?_
  refine j_putI (j := 2) C dX3_become_7 FC3 (SAt.S h0) (by decide) rfl rfl rfl rfl tw_239 ?_
  refine j_aload_n C dX3_become_10 rfl rfl ?_
  refine j_pc (pc2 := 11) rfl ?_
  refine j_getR (j := 0) C dX3_become_11 FC3 (SAt.S h0) (by decide) rfl (SAt.R_items h0) tw_235 ?_
  refine j_iconst (v := (0 : Int32)) C dX3_become_14 rfl ?_
  refine j_callS_vw (st := []) C dX3_become_15 (ct_J7_fill_53178 (kγ κ) E (up2 (up2 M b 1 x1) b 2 x2) L (b + 1) 40 (0 : Int32) (SAt.P_items h0)) mi_J7_fill_53178 tw_731 rfl rfl (Nat.le_of_ble_eq_true rfl) ⟨⟨rfl, rfl⟩, ⟨Nat.le_of_ble_eq_true rfl, Nat.le_of_ble_eq_true rfl⟩, ⟨Nat.zero_le _, Nat.zero_le _⟩⟩ (fun r15 => ?_)
  exact j_vretw C dX3_become_18
set_option maxRecDepth 100000 in
set_option maxHeartbeats 4000000 in
theorem ct_X3_has (γ : Gm) (E : Ev) (M : Mi) (L : Ml) (b : Nat) (x1 : Int32) (x2 : Int32) (h0 : SAt E b) : Ct γ yX3_has cX3_has 3 (some .boolean) ⟨0, 0, 0, 0⟩ [.ref (E.2.1 b), .int x1, .int x2] E M L (Q_i γ E M L) 0 0 (F_X3_has b M L x1 x2) := by
  refine ct_of (own := RX3) (lv := [some (.ref (E.2.1 b)), some (.int x1), some (.int x2)]) (by decide +kernel) rfl rfl (Nat.le_of_ble_eq_true rfl) (fun κ C hγ hN => ?_)
  subst hγ
  have hn : ∀ i, i < 3 → i < knL κ := fun i h => by rw [hN]; exact h
  unfold F_X3_has
  refine j_iload_n C dX3_has_0 rfl rfl ?_
  refine j_if_lt (tgt := 22) C dX3_has_1 (by decide) ?_ ?_
  · refine j_iconst (v := (0 : Int32)) C dX3_has_22 rfl ?_
    exact j_zret C dX3_has_23
  · refine j_iload_n C dX3_has_4 rfl rfl ?_
    refine j_if_lt (tgt := 22) C dX3_has_5 (by decide) ?_ ?_
    · refine j_iconst (v := (0 : Int32)) C dX3_has_22 rfl ?_
      exact j_zret C dX3_has_23
    · refine j_iload_n C dX3_has_8 rfl rfl ?_
      refine j_aload_n C dX3_has_9 rfl rfl ?_
      refine j_getI (j := 2) C dX3_has_10 FC3 (SAt.S h0) (by decide) rfl tw_239 ?_
      refine j_iload_n C dX3_has_13 rfl rfl ?_
      refine j_isub C dX3_has_14 ?_
      refine j_icmp_gt (tgt := 22) C dX3_has_15 (by decide) ?_ ?_
      · refine j_iconst (v := (0 : Int32)) C dX3_has_22 rfl ?_
        exact j_zret C dX3_has_23
      · refine j_iconst (v := (1 : Int32)) C dX3_has_18 rfl ?_
        refine j_goto (tgt := 23) C dX3_has_19 (by decide) ?_
        exact j_zret C dX3_has_23
set_option maxRecDepth 100000 in
set_option maxHeartbeats 4000000 in
theorem ct_X3_put (γ : Gm) (E : Ev) (M : Mi) (L : Ml) (b : Nat) (x1 : Int32) (x2 : Int32) (h0 : SAt E b) : Ct γ yX3_put cX3_put 3 (some .boolean) ⟨1, 0, 0, 22⟩ [.ref (E.2.1 b), .int x1, .int x2] E M L (Q_iw γ E) 0 0 (F_X3_put b M L x1 x2) := by
  refine ct_of (own := RX3) (lv := [some (.ref (E.2.1 b)), some (.int x1), some (.int x2)]) (by decide +kernel) rfl rfl (Nat.le_of_ble_eq_true rfl) (fun κ C hγ hN => ?_)
  subst hγ
  have hn : ∀ i, i < 3 → i < knL κ := fun i h => by rw [hN]; exact h
  unfold F_X3_put
  refine j_aload_n C dX3_put_0 rfl rfl ?_
  refine j_iload_n C dX3_put_1 rfl rfl ?_
  refine j_iconst (v := (1 : Int32)) C dX3_put_2 rfl ?_
  refine j_callV_i (st := []) C dX3_put_3 (ct_X3_has (kγ κ) E M L b x1 (1 : Int32) h0) mi_X3_has tw_738 FC3 (SAt.S h0) rfl rfl (Nat.le_of_ble_eq_true rfl) ⟨⟨rfl, rfl⟩, ⟨Nat.le_of_ble_eq_true rfl, Nat.le_of_ble_eq_true rfl⟩, ⟨Nat.zero_le _, Nat.zero_le _⟩⟩ (fun v3 => ?_)
  refine j_if_ne (tgt := 11) C dX3_put_6 (by decide) ?_ ?_
  · refine j_aload_n C dX3_put_11 rfl rfl ?_
    refine j_getR (j := 0) C dX3_put_12 FC3 (SAt.S h0) (by decide) rfl (SAt.R_items h0) tw_235 ?_
    refine j_iload_n C dX3_put_15 rfl rfl ?_
    refine j_aload_n C dX3_put_16 rfl rfl ?_
    refine j_getI (j := 1) C dX3_put_17 FC3 (SAt.S h0) (by decide) rfl tw_237 ?_
    refine j_if_ne (tgt := 28) C dX3_put_20 (by decide) ?_ ?_
    · refine j_aload_n C dX3_put_28 rfl rfl ?_
      refine j_getI (j := 1) C dX3_put_29 FC3 (SAt.S h0) (by decide) rfl tw_237 ?_
      refine j_iconst (v := (1 : Int32)) C dX3_put_32 rfl ?_
      refine j_icmp_ne (tgt := 41) C dX3_put_33 (by decide) ?_ ?_
      · refine j_iload_n C dX3_put_41 rfl rfl ?_
        refine j_iast C dX3_put_42 (SAt.P_items h0) ?_
        refine j_iconst (v := (1 : Int32)) C dX3_put_43 rfl ?_
        exact j_zretw C dX3_put_44
      · refine j_iload_n C dX3_put_36 rfl rfl ?_
        refine j_i2s C dX3_put_37 ?_
        refine j_goto (tgt := 42) C dX3_put_38 (by decide) ?_
        refine j_iast C dX3_put_42 (SAt.P_items h0) ?_
        refine j_iconst (v := (1 : Int32)) C dX3_put_43 rfl ?_
        exact j_zretw C dX3_put_44
    · refine j_iload_n C dX3_put_23 rfl rfl ?_
      refine j_i2b C dX3_put_24 ?_
      refine j_goto (tgt := 42) C dX3_put_25 (by decide) ?_
      refine j_iast C dX3_put_42 (SAt.P_items h0) ?_
      refine j_iconst (v := (1 : Int32)) C dX3_put_43 rfl ?_
      exact j_zretw C dX3_put_44
  · refine j_iconst (v := (0 : Int32)) C dX3_put_9 rfl ?_
    exact j_zretw C dX3_put_10
