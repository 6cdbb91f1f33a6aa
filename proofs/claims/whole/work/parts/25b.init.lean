/-! the small constructors -/
set_option maxRecDepth 100000 in
set_option maxHeartbeats 4000000 in
theorem ct_X0_init (γ : Gm) (E : Ev) (M : Mi) (L : Ml) (b l : Nat) (hS : E.1[b]? = some (.inl 0)) (hl : E.1.length = l) (hZ : Zn l M L) (hR : RW E) : Ct γ yX0_init cX0_init 1 none ⟨1, 4, 20, 12⟩ [.ref (E.2.1 b)] E M L (Q_vx γ (fun E' M' L' => M' = M ∧ L' = L ∧ RW E' ∧ ∃ q1 q2 q3 q4, E' = (eA (eA (eA (eA E b 5 0 5 q1 l) b 6 0 5 q2 (l + 1)) b 7 0 5 q3 (l + 2)) b 8 0 5 q4 (l + 3)))) 4 20 (some ()) := by
  refine ct_ofI (own := RX0) (lv := [some (.ref (E.2.1 b))]) (by decide +kernel) rfl rfl (Nat.le_of_ble_eq_true rfl) (fun κ C hγ hN hin => ?_)
  subst hγ
  refine j_aload_n C dX0_init_0 rfl rfl ?_
  refine j_objInit C dX0_init_1 tw_129 tw_122 tw_123 (by decide) (by decide) ?_
  refine j_aload_n C dX0_init_4 rfl rfl ?_
  refine j_iconst (v := (5 : Int32)) C dX0_init_5 rfl ?_
  refine j_arrF (j := 5) (A := 5) C dX0_init_6 dX0_init_8 (by decide) (by decide) (by decide) hin FC0 hS (by decide) rfl rfl rfl (fun _ => rfl) (fun _ => rfl) tw_143 hl hZ hR ⟨Nat.le_of_ble_eq_true rfl, Nat.le_of_ble_eq_true rfl⟩ (fun q1 hR1 hl1 hS1 => ?_)
  have hZ1 := hZ.s (Nat.le_succ _)
  refine j_aload_n C dX0_init_11 rfl rfl ?_
  refine j_iconst (v := (5 : Int32)) C dX0_init_12 rfl ?_
  refine j_arrF (j := 6) (A := 5) C dX0_init_13 dX0_init_15 (by decide) (by decide) (by decide) hin FC0 hS1 (by decide) rfl rfl rfl (fun _ => rfl) (fun _ => rfl) tw_145 hl1 hZ1 hR1 ⟨Nat.le_of_ble_eq_true rfl, Nat.le_of_ble_eq_true rfl⟩ (fun q2 hR2 hl2 hS2 => ?_)
  have hZ2 := hZ1.s (Nat.le_succ _)
  refine j_aload_n C dX0_init_18 rfl rfl ?_
  refine j_iconst (v := (5 : Int32)) C dX0_init_19 rfl ?_
  refine j_arrF (j := 7) (A := 5) C dX0_init_20 dX0_init_22 (by decide) (by decide) (by decide) hin FC0 hS2 (by decide) rfl rfl rfl (fun _ => rfl) (fun _ => rfl) tw_147 hl2 hZ2 hR2 ⟨Nat.le_of_ble_eq_true rfl, Nat.le_of_ble_eq_true rfl⟩ (fun q3 hR3 hl3 hS3 => ?_)
  have hZ3 := hZ2.s (Nat.le_succ _)
  refine j_aload_n C dX0_init_25 rfl rfl ?_
  refine j_iconst (v := (5 : Int32)) C dX0_init_26 rfl ?_
  refine j_arrF (j := 8) (A := 5) C dX0_init_27 dX0_init_29 (by decide) (by decide) (by decide) hin FC0 hS3 (by decide) rfl rfl rfl (fun _ => rfl) (fun _ => rfl) tw_150 hl3 hZ3 hR3 ⟨Nat.le_of_ble_eq_true rfl, Nat.le_of_ble_eq_true rfl⟩ (fun q4 hR4 hl4 hS4 => ?_)
  have hZ4 := hZ3.s (Nat.le_succ _)
  exact j_vretx C dX0_init_32 ⟨rfl, rfl, hR4, q1, q2, q3, q4, rfl⟩
set_option maxRecDepth 100000 in
set_option maxHeartbeats 4000000 in
theorem ct_X1_init (γ : Gm) (E : Ev) (M : Mi) (L : Ml) (b l : Nat) (hS : E.1[b]? = some (.inl 1)) (hl : E.1.length = l) (hZ : Zn l M L) (hR : RW E) : Ct γ yX1_init cX1_init 1 none ⟨1, 2, 46, 12⟩ [.ref (E.2.1 b)] E M L (Q_vx γ (fun E' M' L' => M' = M ∧ L' = L ∧ RW E' ∧ ∃ q1 q2, E' = (eA (eA E b 0 3 6 q1 l) b 1 0 40 q2 (l + 1)))) 2 46 (some ()) := by
  refine ct_ofI (own := RX1) (lv := [some (.ref (E.2.1 b))]) (by decide +kernel) rfl rfl (Nat.le_of_ble_eq_true rfl) (fun κ C hγ hN hin => ?_)
  subst hγ
  refine j_aload_n C dX1_init_0 rfl rfl ?_
  refine j_objInit C dX1_init_1 tw_178 tw_122 tw_123 (by decide) (by decide) ?_
  refine j_aload_n C dX1_init_4 rfl rfl ?_
  refine j_bipush (v := (6 : Int32)) C dX1_init_5 rfl ?_
  refine j_arrQ (t := 1) (j := 0) (A := 6) C dX1_init_7 (by decide) rfl tw_179 dX1_init_10 (by decide) (by decide) (by decide) hin FC1 hS (by decide) rfl rfl rfl (fun _ => rfl) (fun _ => rfl) tw_181 hl hZ hR ⟨Nat.le_of_ble_eq_true rfl, Nat.le_of_ble_eq_true rfl⟩ (fun q1 hR1 hl1 hS1 => ?_)
  have hZ1 := hZ.s (Nat.le_succ _)
  refine j_aload_n C dX1_init_13 rfl rfl ?_
  refine j_bipush (v := (40 : Int32)) C dX1_init_14 rfl ?_
  refine j_arrF (j := 1) (A := 40) C dX1_init_16 dX1_init_18 (by decide) (by decide) (by decide) hin FC1 hS1 (by decide) rfl rfl rfl (fun _ => rfl) (fun _ => rfl) tw_182 hl1 hZ1 hR1 ⟨Nat.le_of_ble_eq_true rfl, Nat.le_of_ble_eq_true rfl⟩ (fun q2 hR2 hl2 hS2 => ?_)
  have hZ2 := hZ1.s (Nat.le_succ _)
  exact j_vretx C dX1_init_21 ⟨rfl, rfl, hR2, q1, q2, rfl⟩
set_option maxRecDepth 100000 in
set_option maxHeartbeats 4000000 in
theorem ct_X2_init (γ : Gm) (E : Ev) (M : Mi) (L : Ml) (b l : Nat) (hS : E.1[b]? = some (.inl 2)) (hl : E.1.length = l) (hZ : Zn l M L) (hR : RW E) : Ct γ yX2_init cX2_init 1 none ⟨1, 2, 320, 12⟩ [.ref (E.2.1 b)] E M L (Q_vx γ (fun E' M' L' => M' = M ∧ L' = L ∧ RW E' ∧ ∃ q1 q2, E' = (eA (eA E b 0 0 160 q1 l) b 1 0 160 q2 (l + 1)))) 2 320 (some ()) := by
  refine ct_ofI (own := RX2) (lv := [some (.ref (E.2.1 b))]) (by decide +kernel) rfl rfl (Nat.le_of_ble_eq_true rfl) (fun κ C hγ hN hin => ?_)
  subst hγ
  refine j_aload_n C dX2_init_0 rfl rfl ?_
  refine j_objInit C dX2_init_1 tw_197 tw_122 tw_123 (by decide) (by decide) ?_
  refine j_aload_n C dX2_init_4 rfl rfl ?_
  refine j_sipush (v := (160 : Int32)) C dX2_init_5 rfl ?_
  refine j_arrF (j := 0) (A := 160) C dX2_init_8 dX2_init_10 (by decide) (by decide) (by decide) hin FC2 hS (by decide) rfl rfl rfl (fun _ => rfl) (fun _ => rfl) tw_198 hl hZ hR ⟨Nat.le_of_ble_eq_true rfl, Nat.le_of_ble_eq_true rfl⟩ (fun q1 hR1 hl1 hS1 => ?_)
  have hZ1 := hZ.s (Nat.le_succ _)
  refine j_aload_n C dX2_init_13 rfl rfl ?_
  refine j_sipush (v := (160 : Int32)) C dX2_init_14 rfl ?_
  refine j_arrF (j := 1) (A := 160) C dX2_init_17 dX2_init_19 (by decide) (by decide) (by decide) hin FC2 hS1 (by decide) rfl rfl rfl (fun _ => rfl) (fun _ => rfl) tw_199 hl1 hZ1 hR1 ⟨Nat.le_of_ble_eq_true rfl, Nat.le_of_ble_eq_true rfl⟩ (fun q2 hR2 hl2 hS2 => ?_)
  have hZ2 := hZ1.s (Nat.le_succ _)
  exact j_vretx C dX2_init_22 ⟨rfl, rfl, hR2, q1, q2, rfl⟩
set_option maxRecDepth 100000 in
set_option maxHeartbeats 4000000 in
theorem ct_X3_init (γ : Gm) (E : Ev) (M : Mi) (L : Ml) (b l : Nat) (hS : E.1[b]? = some (.inl 3)) (hl : E.1.length = l) (hZ : Zn l M L) (hR : RW E) : Ct γ yX3_init cX3_init 1 none ⟨1, 1, 40, 12⟩ [.ref (E.2.1 b)] E M L (Q_vx γ (fun E' M' L' => M' = up2 M b 1 (-1) ∧ L' = L ∧ RW E' ∧ ∃ q1, E' = (eA E b 0 0 40 q1 l))) 1 40 (some ()) := by
  refine ct_ofI (own := RX3) (lv := [some (.ref (E.2.1 b))]) (by decide +kernel) rfl rfl (Nat.le_of_ble_eq_true rfl) (fun κ C hγ hN hin => ?_)
  subst hγ
  refine j_aload_n C dX3_init_0 rfl rfl ?_
  refine j_objInit C dX3_init_1 tw_234 tw_122 tw_123 (by decide) (by decide) ?_
  refine j_aload_n C dX3_init_4 rfl rfl ?_
  refine j_bipush (v := (40 : Int32)) C dX3_init_5 rfl ?_
  refine j_arrF (j := 0) (A := 40) C dX3_init_7 dX3_init_9 (by decide) (by decide) (by decide) hin FC3 hS (by decide) rfl rfl rfl (fun _ => rfl) (fun _ => rfl) tw_235 hl hZ hR ⟨Nat.le_of_ble_eq_true rfl, Nat.le_of_ble_eq_true rfl⟩ (fun q1 hR1 hl1 hS1 => ?_)
  have hZ1 := hZ.s (Nat.le_succ _)
  refine j_aload_n C dX3_init_12 rfl rfl ?_
  refine j_iconst (v := (-1 : Int32)) C dX3_init_13 rfl ?_
  refine j_putI (j := 1) C dX3_init_14 FC3 hS1 (by decide) rfl rfl rfl rfl tw_237 ?_
  exact j_vretx C dX3_init_17 ⟨rfl, rfl, hR1, q1, rfl⟩
set_option maxRecDepth 100000 in
set_option maxHeartbeats 4000000 in
theorem ct_X4_init (γ : Gm) (E : Ev) (M : Mi) (L : Ml) (b k : Nat) (x y : Int32) (hS : E.1[b]? = some (.inl 4)) (hk : k < E.1.length) (hR : RW E) : Ct γ yX4_init cX4_init 4 none ⟨1, 0, 0, 12⟩ [.ref (E.2.1 b), .ref (E.2.1 k), .int x, .int y] E M L (Q_vx γ (fun E' M' L' => M' = up2 (up2 M b 1 x) b 2 y ∧ L' = L ∧ RW E' ∧ E' = eR E b 0 k)) 0 0 (some ()) := by
  refine ct_ofI (own := RX4) (lv := [some (.ref (E.2.1 b)), some (.ref (E.2.1 k)), some (.int x), some (.int y)]) (by decide +kernel) rfl rfl (Nat.le_of_ble_eq_true rfl) (fun κ C hγ hN hin => ?_)
  subst hγ
  refine j_aload_n C dX4_init_0 rfl rfl ?_
  refine j_objInit C dX4_init_1 tw_405 tw_122 tw_123 (by decide) (by decide) ?_
  refine j_aload_n C dX4_init_4 rfl rfl ?_
  refine j_aload_n C dX4_init_5 rfl rfl ?_
  refine j_putR (t := 0) (j := 0) C dX4_init_6 hin FC4 hS (by decide) rfl rfl rfl rfl (fun _ => rfl) (fun _ => rfl) tw_406 hk hR (fun hR1 => ?_)
  have hS1 : (eR E b 0 k).1[b]? = some (.inl 4) := hS
  refine j_aload_n C dX4_init_9 rfl rfl ?_
  refine j_iload_n C dX4_init_10 rfl rfl ?_
  refine j_putIF (E := eR E b 0 k) (j := 1) C dX4_init_11 hin FC4 hS1 (by decide) rfl rfl rfl rfl rfl tw_408 ?_
  refine j_aload_n C dX4_init_14 rfl rfl ?_
  refine j_iload_n C dX4_init_15 rfl rfl ?_
  refine j_putIF (E := eR E b 0 k) (j := 2) C dX4_init_16 hin FC4 hS1 (by decide) rfl rfl rfl rfl rfl tw_409 ?_
  exact j_vretx C dX4_init_19 ⟨rfl, rfl, hR1, rfl⟩
theorem mi_X0_init : MN yX0_init cX0_init 1 0 := ⟨tw_127, tw_102, tw_128, rfl, by decide +kernel⟩
theorem mi_X1_init : MN yX1_init cX1_init 1 0 := ⟨tw_176, tw_103, tw_177, rfl, by decide +kernel⟩
theorem mi_X2_init : MN yX2_init cX2_init 1 0 := ⟨tw_195, tw_104, tw_196, rfl, by decide +kernel⟩
theorem mi_X3_init : MN yX3_init cX3_init 1 0 := ⟨tw_232, tw_105, tw_233, rfl, by decide +kernel⟩
theorem mi_X4_init : MN yX4_init cX4_init 4 3 := ⟨tw_403, tw_110, tw_404, rfl, by decide +kernel⟩
