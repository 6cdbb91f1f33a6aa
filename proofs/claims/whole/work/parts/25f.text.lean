/-! the class' text, on the state -/
/-- the class' world stands for the state -/
def XW (E : Ev) (M : Mi) (L : Ml) (σ : Sg) : Prop := XAt E ∧ XI E M L σ ∧ RW E
theorem mi_X2_rT : MV RX2 yX2_readText cX2_readText 3 (some (.object RX4)) 0 := mi_readText
theorem mi_X5_text : MV RX5 yX5_text cX5_text 2 (some .int) 0 := ⟨tw_610, tw_611, tw_101, tw_612, by decide +kernel⟩
set_option maxRecDepth 100000 in
set_option maxHeartbeats 4000000 in
theorem ct_X5_text (γ : Gm) (E : Ev) (M : Mi) (L : Ml) (σ : Sg) (l : Nat) (hX : XW E M L σ) (hWS : WS σ) (hl : E.1.length = l) (hZ : Zn l M L) : Ct γ yX5_text cX5_text 2 (some .int) ⟨55, 2, 163, 2600⟩ [.ref (E.2.1 0)] E M L (Q_ix γ (s_text σ).1 (fun E' M' L' => XW E' M' L' (s_text σ).2 ∧ E'.2.1 0 = E.2.1 0)) 2 163 (some ()) := by
  refine ct_of (own := RX5) (lv := [some (.ref (E.2.1 0)), none]) (by decide +kernel) rfl rfl (Nat.le_of_ble_eq_true rfl) (fun κ C hγ hNL => ?_)
  subst hγ
  obtain ⟨hA, hI, hR⟩ := hX
  have hlen : 36 ≤ l := hl ▸ hA.len
  have hT := hI.2.2.1.2.1
  have hsz := hI.2.2.1.1
  have hN := hWS.2.2.2.1
  have h2 := hI.2.2.2.1.1
  have h25 := hI.2.2.2.1.2
  refine j_aload_n C dX5_text_0 rfl rfl ?_
  refine j_getR (j := 4) C dX5_text_1 FC5 hA.S (by decide) rfl hA.R_law tw_430 ?_
  refine j_getI (j := 2) C dX5_text_4 FC1 hA.P_law.S (by decide) rfl tw_184 ?_
  rw [hsz]
  refine j_bipush (v := (6 : Int32)) C dX5_text_7 rfl ?_
  by_cases h6 : uT σ = 6
  · refine j_skip (c := nI (uT σ) < 6) (fun q => by rw [h6] at q; exact absurd q (by decide)) (j_icmp_lt (tgt := 15) C dX5_text_9 (by decide) jf_none ?_)
    refine j_bipush (v := (-4 : Int32)) C dX5_text_12 rfl ?_
    have es : s_text σ = (-4, σ) := by unfold s_text; rw [if_pos h6]
    rw [es]
    refine j_widen (cn' := 2) (sn' := 163) (by decide) (by decide) ?_
    exact j_iretx C dX5_text_14 ⟨⟨hA, hI, hR⟩, rfl⟩
  · have hT6 : uT σ < 6 := by omega
    refine j_take (c := nI (uT σ) < 6) (nI_lt (b := 6) hT6 (by decide)) (j_icmp_lt (tgt := 15) C dX5_text_9 (by decide) ?_ jf_none)
    refine j_aload_n C dX5_text_15 rfl rfl ?_
    refine j_getR (j := 5) C dX5_text_16 FC5 hA.S (by decide) rfl hA.R_reader tw_431 ?_
    cases hp : ptext (uP σ) (uN σ) with
    | inl q =>
      have es : s_text σ = (-100 - nI q, sEmp σ) := by unfold s_text; rw [if_neg h6, hp]
      rw [es]
      refine j_callV_nx (st := []) C dX5_text_19 (ct_readTextN (kγ κ) E M L (uN σ) q (uP σ) hA.P_reader hN h25 h2 hp) mi_readText tw_301 FC2 hA.P_reader.S rfl rfl (Nat.le_of_ble_eq_true rfl) ⟨⟨rfl, rfl⟩, ⟨Nat.le_of_ble_eq_true rfl, Nat.le_of_ble_eq_true rfl⟩, ⟨Nat.le_of_ble_eq_true rfl, Nat.le_of_ble_eq_true rfl⟩⟩ (fun E1 M1 L1 hP => ?_)
      obtain ⟨rfl, rfl, g1, g2, g3⟩ := hP
      refine j_astore_nN (i := 1) (lv' := [some (.ref (E1.2.1 0)), some .null]) C dX5_text_22 rfl (by rw [hNL]; decide) rfl ?_
      refine j_aload_n C dX5_text_23 rfl rfl ?_
      refine j_getR (j := 5) C dX5_text_24 FC5 hA.S (by decide) rfl hA.R_reader tw_431 ?_
      refine j_known (v0 := (up2 M1 24 2 0, L1)) rfl (j_callV_vw (st := []) C dX5_text_27 (ct_X2_clear (kγ κ) E1 M1 L1 hA.P_reader) mi_X2_clear tw_422 FC2 hA.P_reader.S rfl rfl (Nat.le_of_ble_eq_true rfl) ⟨⟨rfl, rfl⟩, ⟨Nat.le_of_ble_eq_true rfl, Nat.le_of_ble_eq_true rfl⟩, ⟨Nat.le_of_ble_eq_true rfl, Nat.le_of_ble_eq_true rfl⟩⟩ (fun v => j_at (fun hv => ?_)))
      subst hv
      dsimp only
      refine j_aload_nN C dX5_text_30 rfl rfl ?_
      refine j_ifnonnullN C dX5_text_31 ?_
      refine j_bipush (v := (-100 : Int32)) C dX5_text_34 rfl ?_
      refine j_aload_n C dX5_text_36 rfl rfl ?_
      refine j_getR (j := 5) C dX5_text_37 FC5 hA.S (by decide) rfl hA.R_reader tw_431 ?_
      refine j_getI (j := 3) C dX5_text_40 FC2 hA.P_reader.S (by decide) rfl tw_203 ?_
      rw [up2_off (by decide), g3]
      refine j_isub C dX5_text_43 ?_
      refine j_iretx C dX5_text_44 ⟨⟨hA, ?_, hR⟩, rfl⟩
      exact hI.emp (up2_at _ _ _ _) (by rw [up2_ne (by decide), g1 25 (by decide) (by decide)]) (fun k _ a b _ => by rw [up2_ne a, g1 k a b]) (fun _ _ => rfl)
    | inr D =>
      have es : s_text σ = (nI (uT σ), sAdd σ D) := by unfold s_text; rw [if_neg h6, hp]
      rw [es]
      have hlt := ptext_lt hp
      refine j_callV_rx (st := []) C dX5_text_19 (ct_readText (kγ κ) E M L l (uN σ) (uP σ) D hA.P_reader hl hZ hR hN h25 h2 hp) mi_readText tw_301 FC2 hA.P_reader.S rfl rfl (Nat.le_of_ble_eq_true rfl) ⟨⟨rfl, rfl⟩, ⟨Nat.le_of_ble_eq_true rfl, Nat.le_of_ble_eq_true rfl⟩, ⟨Nat.le_of_ble_eq_true rfl, Nat.le_of_ble_eq_true rfl⟩⟩ (fun a E1 M1 L1 hP => ?_)
      obtain ⟨⟨q, q', hE1⟩, rfl, rfl, hR1, g1, g2, g3, g4, g5, g6, g7, g8⟩ := hP
      have b1 : ∀ k, k < l → E1.1[k]? = E.1[k]? := fun k hk => by rw [hE1]; exact eTx_1 hl hk
      have b2 : E1.1[l]? = some (.inl 4) ∧ E1.1[l + 1]? = some (.inr (0, D.1.length)) ∧ E1.1.length = l + 2 := by rw [hE1]; exact eTx_l hl
      have b3 : ∀ k, k < l → E1.2.1 k = E.2.1 k := fun k hk => by rw [hE1]; exact eTx_a hl hk
      have b4 : ∀ k, k < l → E1.2.2 k = E.2.2 k := fun k hk => by rw [hE1]; exact eTx_r hl hk
      have b5 : E1.2.2 l 0 = some (l + 1) := by rw [hE1]; exact eTx_n
      have hA1 : XAt E1 := hA.ext hl b1 (fun k j hk _ => by rw [b4 k hk]) (fun j z hz => by
        rw [b4 22 (by omega)] at hz
        exact ((hA.P_law.TA hz).ext hl hA.P_law.P_texts b1 (fun k j hk _ => by rw [b4 k hk])).1)
      rw [← b3 0 (by omega)]
      refine j_astore_n (i := 1) (lv' := [some (.ref (E1.2.1 0)), some (.ref (E1.2.1 l))]) C dX5_text_22 rfl (by rw [hNL]; decide) rfl ?_
      refine j_aload_n C dX5_text_23 rfl rfl ?_
      refine j_getR (j := 5) C dX5_text_24 FC5 hA1.S (by decide) rfl hA1.R_reader tw_431 ?_
      refine j_known (v0 := (up2 M1 24 2 0, L1)) rfl (j_callV_vw (st := []) C dX5_text_27 (ct_X2_clear (kγ κ) E1 M1 L1 hA1.P_reader) mi_X2_clear tw_422 FC2 hA1.P_reader.S rfl rfl (Nat.le_of_ble_eq_true rfl) ⟨⟨rfl, rfl⟩, ⟨Nat.le_of_ble_eq_true rfl, Nat.le_of_ble_eq_true rfl⟩, ⟨Nat.le_of_ble_eq_true rfl, Nat.le_of_ble_eq_true rfl⟩⟩ (fun v => j_at (fun hv => ?_)))
      subst hv
      dsimp only
      refine j_aload_n C dX5_text_30 rfl rfl ?_
      refine j_ifnonnull (tgt := 45) C dX5_text_31 (by decide) ?_
      refine j_aload_n C dX5_text_45 rfl rfl ?_
      refine j_getR (j := 4) C dX5_text_46 FC5 hA1.S (by decide) rfl hA1.R_law tw_430 ?_
      refine j_aload_n C dX5_text_49 rfl rfl ?_
      refine j_callV_ix (st := []) C dX5_text_50 (ct_X1_add (kγ κ) E1 (up2 M1 24 2 0) L1 l (uT σ) hA1.P_law.S hA1.P_law.R_texts hA1.P_law.P_texts b2.1 hT6 (by rw [up2_ne (by decide), g1 21 (by decide) (by decide) (by omega)]; exact hsz) hR1) mi_X1_add tw_418 FC1 hA1.P_law.S rfl rfl (Nat.le_of_ble_eq_true rfl) ⟨⟨rfl, rfl⟩, ⟨Nat.le_of_ble_eq_true rfl, Nat.le_of_ble_eq_true rfl⟩, ⟨Nat.le_of_ble_eq_true rfl, Nat.le_of_ble_eq_true rfl⟩⟩ (fun E2 M2 L2 hP => ?_)
      obtain ⟨hE2, rfl, rfl, hR2⟩ := hP
      refine j_iretx C dX5_text_53 ⟨⟨?_, ?_, hR2⟩, ?_⟩
      · refine hA1.ext b2.2.2 (fun k _ => by rw [hE2]; rfl) (fun k j _ hk => by rw [hE2]; exact congrFun (up2_ne hk) j) (fun j z hz => ?_)
        have c1 : ∀ k j, k ≠ 22 → E2.2.2 k j = E1.2.2 k j := fun k j hk => by rw [hE2]; exact congrFun (up2_ne hk) j
        by_cases hj : j = uT σ
        · have hzl : z = l := by
            rw [hE2, hj] at hz
            replace hz : up2 E1.2.2 22 (uT σ) (some l) 22 (uT σ) = some z := hz
            rw [up2_at] at hz
            exact (Option.some.inj hz).symm
          subst hzl
          have et : tlen E2 z = D.1.length := by unfold tlen; rw [hE2]; show (match E1.1[z + 1]? with | some (.inr (_, n)) => n | _ => 0) = _; rw [b2.2.1]
          exact ⟨by rw [hE2]; exact b2.1, by rw [c1 z 0 (by omega)]; exact b5, by rw [et, hE2]; exact b2.2.1⟩
        · have hz1 : E1.2.2 22 j = some z := by
            rw [hE2] at hz
            replace hz : up2 E1.2.2 22 (uT σ) (some l) 22 j = some z := hz
            rw [up2_off hj] at hz
            exact hz
          exact ((hA1.P_law.TA hz1).ext b2.2.2 hA1.P_law.P_texts (fun k _ => by rw [hE2]; rfl) (fun k j _ hk => c1 k j hk)).1
      · have c1 : ∀ k, k ≠ 21 → k ≠ 24 → up2 (up2 M1 24 2 0) 21 2 (nI (uT σ + 1)) k = M1 k := fun k p1 p2 => by rw [up2_ne p1, up2_ne p2]
        have c2 : ∀ j, j ≠ uT σ → E2.2.2 22 j = E.2.2 22 j := fun j hj => by rw [hE2]; show up2 E1.2.2 22 (uT σ) (some l) 22 j = _; rw [up2_off hj, b4 22 (by omega)]
        have c3 : ∀ k : Nat, E2.1[k]? = E1.1[k]? := fun k => by rw [hE2]; rfl
        refine hI.add hT6 ⟨uP σ, uN σ, hN, fun i hi => (ix_r (hWS.2.2.2.2.1 i hi)).1, hp⟩ hlen (by rw [up2_ne (by decide)]; exact up2_at _ _ _ _) (by rw [c1 25 (by decide) (by decide), g1 25 (by decide) (by decide) (by omega)]) (up2_at _ _ _ _) ?_ (by rw [hE2]; exact up2_at E1.2.2 22 (uT σ) (some l)) (fun r hr => c2 r (by omega)) (fun r z hr hz => ?_) (fun k p1 p2 p3 p4 p5 _ => by rw [c1 k p1 p3, g1 k p3 p4 (by omega)]) (fun _ _ _ => rfl)
        · refine ⟨by omega, by unfold tlen; rw [c3, b2.2.1], by omega, by rw [c1 l (by omega) (by omega)]; exact g3, by rw [c1 l (by omega) (by omega)]; exact g4, g5, g6, fun i hi => by rw [c1 (l + 1) (by omega) (by omega)]; exact g7 i hi⟩
        · have hta := hA.P_law.TA hz
          have z1 : z < l := by rw [← hl]; exact (List.getElem?_eq_some_iff.mp hta.1).1
          have z2 : z + 1 < l := by rw [← hl]; exact (List.getElem?_eq_some_iff.mp hta.2.2).1
          have zz : 36 ≤ z := by
            obtain ⟨_, t, v2, v3, _⟩ := hI.2.2.1.2.2 r hr
            rw [hz] at v2; cases v2; exact v3
          refine ⟨by unfold tlen; rw [c3, b1 (z + 1) z2], by rw [c1 z (by omega) (by omega), g1 z (by omega) (by omega) z1], by rw [c1 (z + 1) (by omega) (by omega), g1 (z + 1) (by omega) (by omega) z2]⟩
      · rw [hE2]; rfl
