/-! TilesOfLaw.<init>: its contract -/
theorem XI_00 {E : Ev} {M M0 : Mi} {L : Ml} (hZ : Zn 0 M0 L) (h25 : M 25 = fR 43) (h2 : M 24 2 = nI 43) (ho : ∀ k, k ≠ 24 → k ≠ 25 → M k = up2 (up2 (up2 (up2 M0 28 1 (-1)) 30 1 (-1)) 32 1 (-1)) 34 1 (-1) k) : XI E M L sg00 := by
  have z : ∀ k, k ≠ 24 → k ≠ 25 → k < 28 → M k = fun _ => 0 := fun k a b c => by
    rw [ho k a b, up2_ne (by omega), up2_ne (by omega), up2_ne (by omega), up2_ne (by omega)]; exact (hZ k (Nat.zero_le _)).1
  have zl : ∀ k, L k = fun _ => 0 := fun k => (hZ k (Nat.zero_le _)).2
  refine ⟨⟨by rw [zl]; rfl, by rw [zl]; rfl, by rw [z 1 (by decide) (by decide) (by decide)]; rfl, by rw [z 1 (by decide) (by decide) (by decide)]; rfl, by rw [z 1 (by decide) (by decide) (by decide)]; rfl, fun p hp => absurd hp (Nat.not_lt_zero p)⟩, ?_, ⟨by rw [z 21 (by decide) (by decide) (by decide)]; rfl, Nat.zero_le _, fun r hr => absurd hr (Nat.not_lt_zero r)⟩, ⟨h2, h25⟩, fun s hs => ⟨?_, Or.inl rfl⟩⟩
  · show M 0 7 = 0
    rw [z 0 (by decide) (by decide) (by decide)]
  · match s, hs with
    | 0, _ => show M 28 1 = -1; rw [ho 28 (by decide) (by decide), up2_ne (by decide), up2_ne (by decide), up2_ne (by decide)]; exact up2_at _ _ _ _
    | 1, _ => show M 30 1 = -1; rw [ho 30 (by decide) (by decide), up2_ne (by decide), up2_ne (by decide)]; exact up2_at _ _ _ _
    | 2, _ => show M 32 1 = -1; rw [ho 32 (by decide) (by decide), up2_ne (by decide)]; exact up2_at _ _ _ _
    | 3, _ => show M 34 1 = -1; rw [ho 34 (by decide) (by decide)]; exact up2_at _ _ _ _
theorem WS_sg0 : WS sg0 := ⟨⟨by decide, by decide, fun p hp => absurd hp (Nat.not_lt_zero p)⟩, by decide, fun k hk => absurd hk (by intro q; cases q), by decide, fun i hi => absurd hi (Nat.not_lt_zero i), fun s _ => Or.inl rfl⟩
theorem mi_X5_init : MN yX5_init cX5_init 2 0 := ⟨tw_119, tw_101, tw_120, rfl, by decide +kernel⟩
set_option maxRecDepth 100000 in
set_option maxHeartbeats 8000000 in
theorem ct_X5_init (γ : Gm) (E0 : Ev) (M0 : Mi) (L : Ml) (hs0 : E0.1 = [Sum.inl 5]) (hZ : Zn 0 M0 L) (hR0 : RW E0) : Ct γ yX5_init cX5_init 2 none ⟨56, 37, 833, 2700⟩ [.ref (E0.2.1 0)] E0 M0 L (Q_vx γ (fun E' M' L' => XW E' M' L' sg0 ∧ E'.2.1 0 = E0.2.1 0)) 37 833 (some ()) := by
  refine ct_ofI (own := RX5) (lv := [some (.ref (E0.2.1 0)), none]) (by decide +kernel) rfl rfl (Nat.le_of_ble_eq_true rfl) (fun κ C hγ hN hin => ?_)
  subst hγ
  refine j_aload_n C dX5_init_0 rfl rfl ?_
  refine j_objInit C dX5_init_1 tw_121 tw_122 tw_123 (by decide) (by decide) ?_
  refine j_cells C hN hin ⟨by decide, by decide, by decide, by decide⟩ E0 M0 L hs0 hZ hR0 (fun E hs hF hn hR ha => ?_)
  have hA := XAt_cells hs hF hn
  have hl : E.1.length = 36 := by rw [hs]; rfl
  rw [← ha]
  refine j_iconst (v := (0 : Int32)) C dX5_init_104 rfl ?_
  refine j_istore_n (i := 1) (lv' := [some (.ref (E.2.1 0)), some (.int (nI 0))]) C dX5_init_105 rfl (by rw [hN]; decide) rfl ?_
  refine j_letters C hN hA (by decide) (by decide) ⟨by decide, by decide⟩ (fun M h25 h2 ho => ?_) 43 0 _ rfl ?_ ?_ (fun k _ _ => rfl)
  case refine_2 =>
    rw [up2_ne (by decide), up2_ne (by decide), up2_ne (by decide), up2_ne (by decide), (hZ 25 (Nat.zero_le _)).1]
    funext i
    unfold fR
    rw [if_neg (Nat.not_lt_zero i)]
  case refine_3 =>
    rw [up2_ne (by decide), up2_ne (by decide), up2_ne (by decide), up2_ne (by decide), (hZ 24 (Nat.zero_le _)).1]
    rfl
  have hI := XI_00 (E := E) hZ h25 h2 ho
  have hZM : Zn 36 M L := fun k hk => ⟨by rw [ho k (by omega) (by omega), up2_ne (by omega), up2_ne (by omega), up2_ne (by omega), up2_ne (by omega)]; exact (hZ k (Nat.zero_le _)).1, (hZ k (Nat.zero_le _)).2⟩
  refine j_aload_n C dX5_init_135 rfl rfl ?_
  refine j_getR (j := 4) C dX5_init_136 FC5 hA.S (by decide) rfl hA.R_law tw_430 ?_
  refine j_aload_n C dX5_init_139 rfl rfl ?_
  refine j_getR (j := 5) C dX5_init_140 FC5 hA.S (by decide) rfl hA.R_reader tw_431 ?_
  refine j_callV_rx (st := [.ref (E.2.1 21)]) C dX5_init_143 (ct_readText (kγ κ) E M L 36 43 (fR 43) C0 hA.P_reader hl hZM hR (by decide) h25 h2 pt0) mi_readText tw_301 FC2 hA.P_reader.S rfl rfl (Nat.le_of_ble_eq_true rfl) ⟨⟨rfl, rfl⟩, ⟨Nat.le_of_ble_eq_true rfl, Nat.le_of_ble_eq_true rfl⟩, ⟨Nat.le_of_ble_eq_true rfl, Nat.le_of_ble_eq_true rfl⟩⟩ (fun a E1 M1 L1 hP => ?_)
  obtain ⟨⟨q, q', hE1⟩, rfl, hL1, hR1, g1, g2, g3, g4, g5, g6, g7, g8⟩ := hP
  replace hL1 := hL1.symm
  subst hL1
  have b1 : ∀ k, k < 36 → E1.1[k]? = E.1[k]? := fun k hk => by rw [hE1]; exact eTx_1 hl hk
  have b2 : E1.1[36]? = some (.inl 4) ∧ E1.1[37]? = some (.inr (0, C0.1.length)) ∧ E1.1.length = 38 := by rw [hE1]; exact eTx_l hl
  have b3 : ∀ k, k < 36 → E1.2.1 k = E.2.1 k := fun k hk => by rw [hE1]; exact eTx_a hl hk
  have b4 : ∀ k, k < 36 → E1.2.2 k = E.2.2 k := fun k hk => by rw [hE1]; exact eTx_r hl hk
  have b5 : E1.2.2 36 0 = some 37 := by rw [hE1]; exact eTx_n
  have hA1 : XAt E1 := hA.ext hl b1 (fun k j hk _ => by rw [b4 k hk]) (fun j z hz => by
    rw [b4 22 (by omega), hn j] at hz; cases hz)
  rw [← b3 0 (by omega), ← b3 21 (by omega)]
  refine j_callV_ix (st := []) C dX5_init_146 (ct_X1_add (kγ κ) E1 M1 L 36 0 hA1.P_law.S hA1.P_law.R_texts hA1.P_law.P_texts b2.1 (by decide) (by rw [g1 21 (by decide) (by decide) (by omega)]; exact hI.2.2.1.1) hR1) mi_X1_add tw_418 FC1 hA1.P_law.S rfl rfl (Nat.le_of_ble_eq_true rfl) ⟨⟨rfl, rfl⟩, ⟨Nat.le_of_ble_eq_true rfl, Nat.le_of_ble_eq_true rfl⟩, ⟨Nat.le_of_ble_eq_true rfl, Nat.le_of_ble_eq_true rfl⟩⟩ (fun E2 M2 L2 hP => ?_)
  obtain ⟨hE2, hM2, hL2, hR2⟩ := hP
  replace hL2 := hL2.symm
  subst hL2
  have c1 : ∀ k j, k ≠ 22 → E2.2.2 k j = E1.2.2 k j := fun k j hk => by rw [hE2]; exact congrFun (up2_ne hk) j
  have c3 : ∀ k : Nat, E2.1[k]? = E1.1[k]? := fun k => by rw [hE2]; rfl
  have c2 : ∀ j, E2.2.2 22 j = if j = 0 then some 36 else none := fun j => by
    rw [hE2]
    show up2 E1.2.2 22 0 (some 36) 22 j = _
    by_cases h : j = 0
    · rw [h, up2_at, if_pos rfl]
    · rw [up2_off h, if_neg h, b4 22 (by omega)]; exact hn j
  have et : tlen E2 36 = C0.1.length := by unfold tlen; rw [c3, b2.2.1]
  have hA2 : XAt E2 := by
    refine hA1.ext b2.2.2 (fun k _ => c3 k) (fun k j _ hk => c1 k j hk) (fun j z hz => ?_)
    rw [c2 j] at hz
    by_cases h : j = 0
    · rw [if_pos h] at hz
      cases hz
      exact ⟨by rw [c3]; exact b2.1, by rw [c1 36 0 (by decide)]; exact b5, by rw [et, c3]; exact b2.2.1⟩
    · rw [if_neg h] at hz; cases hz
  rw [show E1.2.1 0 = E2.2.1 0 by rw [hE2]; rfl]
  refine j_pop C dX5_init_149 rfl ?_
  refine j_aload_n C dX5_init_150 rfl rfl ?_
  refine j_getR (j := 5) C dX5_init_151 FC5 hA2.S (by decide) rfl hA2.R_reader tw_431 ?_
  refine j_known (v0 := (up2 M2 24 2 0, L)) rfl (j_callV_vw (st := []) C dX5_init_154 (ct_X2_clear (kγ κ) E2 M2 L hA2.P_reader) mi_X2_clear tw_422 FC2 hA2.P_reader.S rfl rfl (Nat.le_of_ble_eq_true rfl) ⟨⟨rfl, rfl⟩, ⟨Nat.le_of_ble_eq_true rfl, Nat.le_of_ble_eq_true rfl⟩, ⟨Nat.le_of_ble_eq_true rfl, Nat.le_of_ble_eq_true rfl⟩⟩ (fun v => j_at (fun hv => ?_)))
  subst hv
  dsimp only
  refine j_vretx C dX5_init_157 ⟨⟨hA2, ?_, hR2⟩, rfl⟩
  have m1 : ∀ k, k ≠ 21 → k ≠ 24 → up2 M2 24 2 0 k = M1 k := fun k p1 p2 => by rw [up2_ne p2, hM2, up2_ne p1]
  refine hI.add (t := 36) (C := C0) (by decide) ⟨fR 43, 43, by decide, fR_pos, pt0⟩ (Nat.le_refl _) (up2_at _ _ _ _) (by rw [m1 25 (by decide) (by decide), g1 25 (by decide) (by decide) (by omega)]) (by rw [up2_ne (by decide), hM2]; exact up2_at _ _ _ _) ?_ (by rw [c2]; rfl) (fun r hr => absurd hr (Nat.not_lt_zero r)) (fun r z hr hz => absurd hr (Nat.not_lt_zero r)) (fun k p1 p2 p3 p4 p5 _ => by rw [m1 k p1 p3, g1 k p3 p4 (by omega)]) (fun _ _ _ => rfl)
  refine ⟨by omega, et, by decide, by rw [m1 36 (by omega) (by omega)]; exact g3, by rw [m1 36 (by omega) (by omega)]; exact g4, g5, g6, fun i hi => by rw [m1 37 (by omega) (by omega)]; exact g7 i hi⟩
