/-! TilesOfLawModel.<init> -/
def jM : List Int32 := [116, 117, 114, 110, 115, 32, 109, 105, 110, 117, 116, 101, 32, 43, 32, 110, 117, 109, 98, 101, 114, 32, 59, 32, 116, 105, 114, 101, 115, 32, 51, 32, 59, 32, 114, 101, 115, 116, 115, 32, 50, 32, 59, 32, 32, 32, 32, 32]
def fM (i : Nat) : Int32 := jM.getD i 0
theorem pt1 : ptext fM 48 = .inr C0 := by decide +kernel
theorem fM_pos : ∀ i, i < 48 → 0 ≤ (fM i).toInt := by decide +kernel
theorem ix_nk {k N : Nat} (h : k < N) (hN : N ≤ 960) : ix (nI k) N = true := ix_nI h (by omega)
theorem nI_k (k c : Nat) : nI k + nI c = nI (k + c) := nI_add k c
theorem sp_one {M : Mi} {k a : Nat} {x : Int32} {l : List Int32} {y : Nat → Int32} (hl : l.length = a) (h : ∀ i, M 1 i = if k ≤ i ∧ i < k + a then l.getD (i - k) 0 else y i) : ∀ i, up2 M 1 (k + a) x 1 i = if k ≤ i ∧ i < k + (a + 1) then (l ++ [x]).getD (i - k) 0 else y i := fun i => by
  by_cases e : i = k + a
  · rw [e, up2_at, if_pos (by omega), show k + a - k = l.length by omega]
    simp
  · rw [up2_b e, h i]
    by_cases q : k ≤ i ∧ i < k + a
    · rw [if_pos q, if_pos (by omega)]
      simp only [List.getD_eq_getElem?_getD]
      rw [List.getElem?_append_left (by omega)]
    · rw [if_neg q, if_neg (by omega)]
set_option maxHeartbeats 4000000 in
theorem F_spell {M : Mi} {L : Ml} {k : Nat} (hk : k + 8 ≤ 960) (x2 x3 x4 x5 x6 x7 x8 x9 : Int32) : ∃ M', F_X6_spell M L (nI k) x2 x3 x4 x5 x6 x7 x8 x9 = some (M', L) ∧ (∀ a, a ≠ 1 → M' a = M a) ∧ ∀ i, M' 1 i = if k ≤ i ∧ i < k + 8 then [x2, x3, x4, x5, x6, x7, x8, x9].getD (i - k) 0 else M 1 i := by
  unfold F_X6_spell
  rw [show (1 : Int32) = nI 1 from rfl, show (2 : Int32) = nI 2 from rfl, show (3 : Int32) = nI 3 from rfl, show (4 : Int32) = nI 4 from rfl, show (5 : Int32) = nI 5 from rfl, show (6 : Int32) = nI 6 from rfl, show (7 : Int32) = nI 7 from rfl, nI_k, nI_k, nI_k, nI_k, nI_k, nI_k, nI_k]
  rw [if_pos (ix_nk (show k < 960 by omega) (by decide)), if_pos (ix_nk (show k + 1 < 960 by omega) (by decide)), if_pos (ix_nk (show k + 2 < 960 by omega) (by decide)), if_pos (ix_nk (show k + 3 < 960 by omega) (by decide)), if_pos (ix_nk (show k + 4 < 960 by omega) (by decide)), if_pos (ix_nk (show k + 5 < 960 by omega) (by decide)), if_pos (ix_nk (show k + 6 < 960 by omega) (by decide)), if_pos (ix_nk (show k + 7 < 960 by omega) (by decide))]
  rw [nI_clamp (show k < 2 ^ 31 by omega), nI_clamp (show k + 1 < 2 ^ 31 by omega), nI_clamp (show k + 2 < 2 ^ 31 by omega), nI_clamp (show k + 3 < 2 ^ 31 by omega), nI_clamp (show k + 4 < 2 ^ 31 by omega), nI_clamp (show k + 5 < 2 ^ 31 by omega), nI_clamp (show k + 6 < 2 ^ 31 by omega), nI_clamp (show k + 7 < 2 ^ 31 by omega)]
  refine ⟨_, rfl, fun a ha => by rw [up2_ne ha, up2_ne ha, up2_ne ha, up2_ne ha, up2_ne ha, up2_ne ha, up2_ne ha, up2_ne ha], ?_⟩
  have h0 : ∀ i, M 1 i = if k ≤ i ∧ i < k + 0 then ([] : List Int32).getD (i - k) 0 else M 1 i := fun i => by rw [if_neg (by omega)]
  have h1 := sp_one (M := M) (k := k) (a := 0) (l := []) (y := M 1) (x := x2) rfl h0
  have h2 := sp_one (k := k) (a := 1) (l := [x2]) (y := M 1) (x := x3) rfl h1
  have h3 := sp_one (k := k) (a := 2) (l := [x2, x3]) (y := M 1) (x := x4) rfl h2
  have h4 := sp_one (k := k) (a := 3) (l := [x2, x3, x4]) (y := M 1) (x := x5) rfl h3
  have h5 := sp_one (k := k) (a := 4) (l := [x2, x3, x4, x5]) (y := M 1) (x := x6) rfl h4
  have h6 := sp_one (k := k) (a := 5) (l := [x2, x3, x4, x5, x6]) (y := M 1) (x := x7) rfl h5
  have h7 := sp_one (k := k) (a := 6) (l := [x2, x3, x4, x5, x6, x7]) (y := M 1) (x := x8) rfl h6
  exact sp_one (k := k) (a := 7) (l := [x2, x3, x4, x5, x6, x7, x8]) (y := M 1) (x := x9) rfl h7
def mSh : List Ds := [(Sum.inl 6), (Sum.inr (0, 960)), (Sum.inr (0, 6)), (Sum.inr (0, 160)), (Sum.inr (0, 20)), (Sum.inr (0, 21)), (Sum.inr (0, 20)), (Sum.inr (1, 4)), (Sum.inr (0, 4)), (Sum.inr (0, 4)), (Sum.inr (0, 160))]
def mPs : List (Nat × Nat × Nat) := [(0, 40, 10), (0, 39, 9), (0, 38, 8), (0, 37, 7), (0, 31, 6), (0, 28, 5), (0, 10, 4), (0, 5, 3), (0, 2, 2), (0, 1, 1)]
theorem MAt_cells {E : Ev} (hs : E.1 = mSh) (hF : KF E mPs) : MAt E := ⟨by rw [hs]; rfl, hF (0, 1, 1) (by decide), by rw [hs]; rfl, hF (0, 2, 2) (by decide), by rw [hs]; rfl, hF (0, 5, 3) (by decide), by rw [hs]; rfl, hF (0, 10, 4) (by decide), by rw [hs]; rfl, hF (0, 28, 5) (by decide), by rw [hs]; rfl, hF (0, 31, 6) (by decide), by rw [hs]; rfl, hF (0, 37, 7) (by decide), by rw [hs]; rfl, hF (0, 38, 8) (by decide), by rw [hs]; rfl, hF (0, 39, 9) (by decide), by rw [hs]; rfl, hF (0, 40, 10) (by decide), by rw [hs]; rfl⟩
/-- the reference's world stands for the state -/
def YZ (E : Ev) (R : Mi) (S : Ml) (σ : Sg) : Prop := MAt E ∧ YI R S σ
theorem mi_X6_init : MN yX6_init cX6_init 1 0 := ⟨tw_797, tw_114, tw_798, rfl, by decide +kernel⟩
set_option maxRecDepth 100000 in
set_option maxHeartbeats 8000000 in
theorem ct_X6_init (γ : Gm) (E0 : Ev) (M : Mi) (L : Ml) (hs0 : E0.1 = [Sum.inl 6]) (hZ : Zn 0 M L) (hR0 : RW E0) : Ct γ yX6_init cX6_init 1 none ⟨5, 10, 1359, 200⟩ [.ref (E0.2.1 0)] E0 M L (Q_vx γ (fun E' M' L' => YZ E' M' L' sg0 ∧ E'.2.1 0 = E0.2.1 0)) 10 1359 (some ()) := by
  refine ct_ofI (own := RX6) (lv := [some (.ref (E0.2.1 0))]) (by decide +kernel) rfl rfl (Nat.le_of_ble_eq_true rfl) (fun κ C hγ hN hin => ?_)
  subst hγ
  refine j_aload_n C dX6_init_0 rfl rfl ?_
  refine j_objInit C dX6_init_1 tw_799 tw_122 tw_123 (by decide) (by decide) ?_
  have hF0 : KF E0 [] := fun p hp => by cases hp
  have zz0 : Zn 0 M L := hZ
  refine j_aload_n C dX6_init_4 rfl rfl ?_
  refine j_sipush (v := (960 : Int32)) C dX6_init_5 rfl ?_
  have hl0 : E0.1.length = 1 := by rw [hs0]; rfl
  refine j_arrF (j := 1) (A := 960) C dX6_init_8 dX6_init_10 (by decide) (by decide) (by decide) hin FC6 (by rw [hs0]; rfl) (by decide) rfl rfl rfl (fun _ => rfl) (fun _ => rfl) tw_804 hl0 (zz0.s (by decide)) hR0 ⟨Nat.le_of_ble_eq_true rfl, Nat.le_of_ble_eq_true rfl⟩ (fun q hR1 hll hSS => ?_)
  have hs1 : (eA E0 0 1 0 960 q 1).1 = [(Sum.inl 6), (Sum.inr (0, 960))] := eA_1 hs0
  have ol1 : OL E0 (eA E0 0 1 0 960 q 1) 1 0 1 := (OL_eN hl0 0 1).tr OL_eR
  have ad1 : AD E0 (eA E0 0 1 0 960 q 1) := AD_eA
  have hF1 := (hF0.old ol1 (by decide)).cons (eA_at (E := E0) (b := 0) (j := 1) (t := 0) (N := 960) (q := q) (l := 1))
  clear hll hSS
  generalize eA E0 0 1 0 960 q 1 = E1 at *
  refine j_aload_n C dX6_init_13 rfl rfl ?_
  refine j_bipush (v := (6 : Int32)) C dX6_init_14 rfl ?_
  have hl1 : E1.1.length = 2 := by rw [hs1]; rfl
  refine j_arrF (j := 2) (A := 6) C dX6_init_16 dX6_init_18 (by decide) (by decide) (by decide) hin FC6 (by rw [hs1]; rfl) (by decide) rfl rfl rfl (fun _ => rfl) (fun _ => rfl) tw_805 hl1 (zz0.s (by decide)) hR1 ⟨Nat.le_of_ble_eq_true rfl, Nat.le_of_ble_eq_true rfl⟩ (fun q hR2 hll hSS => ?_)
  have hs2 : (eA E1 0 2 0 6 q 2).1 = [(Sum.inl 6), (Sum.inr (0, 960)), (Sum.inr (0, 6))] := eA_1 hs1
  have ol2 : OL E1 (eA E1 0 2 0 6 q 2) 2 0 2 := (OL_eN hl1 0 2).tr OL_eR
  have ad2 : AD E1 (eA E1 0 2 0 6 q 2) := AD_eA
  have hF2 := (hF1.old ol2 (by decide)).cons (eA_at (E := E1) (b := 0) (j := 2) (t := 0) (N := 6) (q := q) (l := 2))
  clear hll hSS
  generalize eA E1 0 2 0 6 q 2 = E2 at *
  refine j_aload_n C dX6_init_21 rfl rfl ?_
  refine j_sipush (v := (160 : Int32)) C dX6_init_22 rfl ?_
  have hl2 : E2.1.length = 3 := by rw [hs2]; rfl
  refine j_arrF (j := 5) (A := 160) C dX6_init_25 dX6_init_27 (by decide) (by decide) (by decide) hin FC6 (by rw [hs2]; rfl) (by decide) rfl rfl rfl (fun _ => rfl) (fun _ => rfl) tw_808 hl2 (zz0.s (by decide)) hR2 ⟨Nat.le_of_ble_eq_true rfl, Nat.le_of_ble_eq_true rfl⟩ (fun q hR3 hll hSS => ?_)
  have hs3 : (eA E2 0 5 0 160 q 3).1 = [(Sum.inl 6), (Sum.inr (0, 960)), (Sum.inr (0, 6)), (Sum.inr (0, 160))] := eA_1 hs2
  have ol3 : OL E2 (eA E2 0 5 0 160 q 3) 3 0 5 := (OL_eN hl2 0 5).tr OL_eR
  have ad3 : AD E2 (eA E2 0 5 0 160 q 3) := AD_eA
  have hF3 := (hF2.old ol3 (by decide)).cons (eA_at (E := E2) (b := 0) (j := 5) (t := 0) (N := 160) (q := q) (l := 3))
  clear hll hSS
  generalize eA E2 0 5 0 160 q 3 = E3 at *
  refine j_aload_n C dX6_init_30 rfl rfl ?_
  refine j_bipush (v := (20 : Int32)) C dX6_init_31 rfl ?_
  have hl3 : E3.1.length = 4 := by rw [hs3]; rfl
  refine j_arrF (j := 10) (A := 20) C dX6_init_33 dX6_init_35 (by decide) (by decide) (by decide) hin FC6 (by rw [hs3]; rfl) (by decide) rfl rfl rfl (fun _ => rfl) (fun _ => rfl) tw_813 hl3 (zz0.s (by decide)) hR3 ⟨Nat.le_of_ble_eq_true rfl, Nat.le_of_ble_eq_true rfl⟩ (fun q hR4 hll hSS => ?_)
  have hs4 : (eA E3 0 10 0 20 q 4).1 = [(Sum.inl 6), (Sum.inr (0, 960)), (Sum.inr (0, 6)), (Sum.inr (0, 160)), (Sum.inr (0, 20))] := eA_1 hs3
  have ol4 : OL E3 (eA E3 0 10 0 20 q 4) 4 0 10 := (OL_eN hl3 0 10).tr OL_eR
  have ad4 : AD E3 (eA E3 0 10 0 20 q 4) := AD_eA
  have hF4 := (hF3.old ol4 (by decide)).cons (eA_at (E := E3) (b := 0) (j := 10) (t := 0) (N := 20) (q := q) (l := 4))
  clear hll hSS
  generalize eA E3 0 10 0 20 q 4 = E4 at *
  refine j_aload_n C dX6_init_38 rfl rfl ?_
  refine j_iconst (v := (-1 : Int32)) C dX6_init_39 rfl ?_
  refine j_putI (j := 12) C dX6_init_40 FC6 (by rw [hs4]; rfl) (by decide) rfl rfl rfl rfl tw_815 ?_
  have zz1 : Zn 5 (up2 M 0 12 (-1)) L := (zz0.s (by decide)).up (by decide)
  refine j_aload_n C dX6_init_43 rfl rfl ?_
  refine j_bipush (v := (21 : Int32)) C dX6_init_44 rfl ?_
  have hl4 : E4.1.length = 5 := by rw [hs4]; rfl
  refine j_arrF (j := 28) (A := 21) C dX6_init_46 dX6_init_48 (by decide) (by decide) (by decide) hin FC6 (by rw [hs4]; rfl) (by decide) rfl rfl rfl (fun _ => rfl) (fun _ => rfl) tw_831 hl4 (zz1.s (by decide)) hR4 ⟨Nat.le_of_ble_eq_true rfl, Nat.le_of_ble_eq_true rfl⟩ (fun q hR5 hll hSS => ?_)
  have hs5 : (eA E4 0 28 0 21 q 5).1 = [(Sum.inl 6), (Sum.inr (0, 960)), (Sum.inr (0, 6)), (Sum.inr (0, 160)), (Sum.inr (0, 20)), (Sum.inr (0, 21))] := eA_1 hs4
  have ol5 : OL E4 (eA E4 0 28 0 21 q 5) 5 0 28 := (OL_eN hl4 0 28).tr OL_eR
  have ad5 : AD E4 (eA E4 0 28 0 21 q 5) := AD_eA
  have hF5 := (hF4.old ol5 (by decide)).cons (eA_at (E := E4) (b := 0) (j := 28) (t := 0) (N := 21) (q := q) (l := 5))
  clear hll hSS
  generalize eA E4 0 28 0 21 q 5 = E5 at *
  refine j_aload_n C dX6_init_51 rfl rfl ?_
  refine j_bipush (v := (20 : Int32)) C dX6_init_52 rfl ?_
  have hl5 : E5.1.length = 6 := by rw [hs5]; rfl
  refine j_arrF (j := 31) (A := 20) C dX6_init_54 dX6_init_56 (by decide) (by decide) (by decide) hin FC6 (by rw [hs5]; rfl) (by decide) rfl rfl rfl (fun _ => rfl) (fun _ => rfl) tw_834 hl5 (zz1.s (by decide)) hR5 ⟨Nat.le_of_ble_eq_true rfl, Nat.le_of_ble_eq_true rfl⟩ (fun q hR6 hll hSS => ?_)
  have hs6 : (eA E5 0 31 0 20 q 6).1 = [(Sum.inl 6), (Sum.inr (0, 960)), (Sum.inr (0, 6)), (Sum.inr (0, 160)), (Sum.inr (0, 20)), (Sum.inr (0, 21)), (Sum.inr (0, 20))] := eA_1 hs5
  have ol6 : OL E5 (eA E5 0 31 0 20 q 6) 6 0 31 := (OL_eN hl5 0 31).tr OL_eR
  have ad6 : AD E5 (eA E5 0 31 0 20 q 6) := AD_eA
  have hF6 := (hF5.old ol6 (by decide)).cons (eA_at (E := E5) (b := 0) (j := 31) (t := 0) (N := 20) (q := q) (l := 6))
  clear hll hSS
  generalize eA E5 0 31 0 20 q 6 = E6 at *
  refine j_aload_n C dX6_init_59 rfl rfl ?_
  refine j_iconst (v := (-1 : Int32)) C dX6_init_60 rfl ?_
  refine j_putI (j := 32) C dX6_init_61 FC6 (by rw [hs6]; rfl) (by decide) rfl rfl rfl rfl tw_835 ?_
  have zz2 : Zn 7 (up2 (up2 M 0 12 (-1)) 0 32 (-1)) L := (zz1.s (by decide)).up (by decide)
  refine j_aload_n C dX6_init_64 rfl rfl ?_
  refine j_iconst (v := (4 : Int32)) C dX6_init_65 rfl ?_
  have hl6 : E6.1.length = 7 := by rw [hs6]; rfl
  refine j_arrZ (j := 37) (A := 4) C dX6_init_66 dX6_init_68 (by decide) (by decide) (by decide) hin FC6 (by rw [hs6]; rfl) (by decide) rfl rfl rfl (fun _ => rfl) (fun _ => rfl) tw_840 hl6 (zz2.s (by decide)) hR6 ⟨Nat.le_of_ble_eq_true rfl, Nat.le_of_ble_eq_true rfl⟩ (fun q hR7 hll hSS => ?_)
  have hs7 : (eA E6 0 37 1 4 q 7).1 = [(Sum.inl 6), (Sum.inr (0, 960)), (Sum.inr (0, 6)), (Sum.inr (0, 160)), (Sum.inr (0, 20)), (Sum.inr (0, 21)), (Sum.inr (0, 20)), (Sum.inr (1, 4))] := eA_1 hs6
  have ol7 : OL E6 (eA E6 0 37 1 4 q 7) 7 0 37 := (OL_eN hl6 0 37).tr OL_eR
  have ad7 : AD E6 (eA E6 0 37 1 4 q 7) := AD_eA
  have hF7 := (hF6.old ol7 (by decide)).cons (eA_at (E := E6) (b := 0) (j := 37) (t := 1) (N := 4) (q := q) (l := 7))
  clear hll hSS
  generalize eA E6 0 37 1 4 q 7 = E7 at *
  refine j_aload_n C dX6_init_71 rfl rfl ?_
  refine j_iconst (v := (4 : Int32)) C dX6_init_72 rfl ?_
  have hl7 : E7.1.length = 8 := by rw [hs7]; rfl
  refine j_arrF (j := 38) (A := 4) C dX6_init_73 dX6_init_75 (by decide) (by decide) (by decide) hin FC6 (by rw [hs7]; rfl) (by decide) rfl rfl rfl (fun _ => rfl) (fun _ => rfl) tw_841 hl7 (zz2.s (by decide)) hR7 ⟨Nat.le_of_ble_eq_true rfl, Nat.le_of_ble_eq_true rfl⟩ (fun q hR8 hll hSS => ?_)
  have hs8 : (eA E7 0 38 0 4 q 8).1 = [(Sum.inl 6), (Sum.inr (0, 960)), (Sum.inr (0, 6)), (Sum.inr (0, 160)), (Sum.inr (0, 20)), (Sum.inr (0, 21)), (Sum.inr (0, 20)), (Sum.inr (1, 4)), (Sum.inr (0, 4))] := eA_1 hs7
  have ol8 : OL E7 (eA E7 0 38 0 4 q 8) 8 0 38 := (OL_eN hl7 0 38).tr OL_eR
  have ad8 : AD E7 (eA E7 0 38 0 4 q 8) := AD_eA
  have hF8 := (hF7.old ol8 (by decide)).cons (eA_at (E := E7) (b := 0) (j := 38) (t := 0) (N := 4) (q := q) (l := 8))
  clear hll hSS
  generalize eA E7 0 38 0 4 q 8 = E8 at *
  refine j_aload_n C dX6_init_78 rfl rfl ?_
  refine j_iconst (v := (4 : Int32)) C dX6_init_79 rfl ?_
  have hl8 : E8.1.length = 9 := by rw [hs8]; rfl
  refine j_arrF (j := 39) (A := 4) C dX6_init_80 dX6_init_82 (by decide) (by decide) (by decide) hin FC6 (by rw [hs8]; rfl) (by decide) rfl rfl rfl (fun _ => rfl) (fun _ => rfl) tw_842 hl8 (zz2.s (by decide)) hR8 ⟨Nat.le_of_ble_eq_true rfl, Nat.le_of_ble_eq_true rfl⟩ (fun q hR9 hll hSS => ?_)
  have hs9 : (eA E8 0 39 0 4 q 9).1 = [(Sum.inl 6), (Sum.inr (0, 960)), (Sum.inr (0, 6)), (Sum.inr (0, 160)), (Sum.inr (0, 20)), (Sum.inr (0, 21)), (Sum.inr (0, 20)), (Sum.inr (1, 4)), (Sum.inr (0, 4)), (Sum.inr (0, 4))] := eA_1 hs8
  have ol9 : OL E8 (eA E8 0 39 0 4 q 9) 9 0 39 := (OL_eN hl8 0 39).tr OL_eR
  have ad9 : AD E8 (eA E8 0 39 0 4 q 9) := AD_eA
  have hF9 := (hF8.old ol9 (by decide)).cons (eA_at (E := E8) (b := 0) (j := 39) (t := 0) (N := 4) (q := q) (l := 9))
  clear hll hSS
  generalize eA E8 0 39 0 4 q 9 = E9 at *
  refine j_aload_n C dX6_init_85 rfl rfl ?_
  refine j_sipush (v := (160 : Int32)) C dX6_init_86 rfl ?_
  have hl9 : E9.1.length = 10 := by rw [hs9]; rfl
  refine j_arrF (j := 40) (A := 160) C dX6_init_89 dX6_init_91 (by decide) (by decide) (by decide) hin FC6 (by rw [hs9]; rfl) (by decide) rfl rfl rfl (fun _ => rfl) (fun _ => rfl) tw_843 hl9 (zz2.s (by decide)) hR9 ⟨Nat.le_of_ble_eq_true rfl, Nat.le_of_ble_eq_true rfl⟩ (fun q hR10 hll hSS => ?_)
  have hs10 : (eA E9 0 40 0 160 q 10).1 = [(Sum.inl 6), (Sum.inr (0, 960)), (Sum.inr (0, 6)), (Sum.inr (0, 160)), (Sum.inr (0, 20)), (Sum.inr (0, 21)), (Sum.inr (0, 20)), (Sum.inr (1, 4)), (Sum.inr (0, 4)), (Sum.inr (0, 4)), (Sum.inr (0, 160))] := eA_1 hs9
  have ol10 : OL E9 (eA E9 0 40 0 160 q 10) 10 0 40 := (OL_eN hl9 0 40).tr OL_eR
  have ad10 : AD E9 (eA E9 0 40 0 160 q 10) := AD_eA
  have hF10 := (hF9.old ol10 (by decide)).cons (eA_at (E := E9) (b := 0) (j := 40) (t := 0) (N := 160) (q := q) (l := 10))
  clear hll hSS
  generalize eA E9 0 40 0 160 q 10 = E10 at *
  have hA : MAt E10 := MAt_cells hs10 hF10
  have m0 : (up2 (up2 M 0 12 (-1)) 0 32 (-1)) 1 = fun _ => 0 := by rw [up2_ne (by decide), up2_ne (by decide)]; exact (hZ 1 (Nat.zero_le _)).1
  generalize hM0 : (up2 (up2 M 0 12 (-1)) 0 32 (-1)) = M0
  rw [hM0] at m0
  refine j_aload_n C dX6_init_94 rfl rfl ?_
  refine j_iconst (v := nI 0) C dX6_init_95 rfl ?_
  refine j_bipush (v := (116 : Int32)) C dX6_init_96 rfl ?_
  refine j_bipush (v := (117 : Int32)) C dX6_init_98 rfl ?_
  refine j_bipush (v := (114 : Int32)) C dX6_init_100 rfl ?_
  refine j_bipush (v := (110 : Int32)) C dX6_init_102 rfl ?_
  refine j_bipush (v := (115 : Int32)) C dX6_init_104 rfl ?_
  refine j_bipush (v := (32 : Int32)) C dX6_init_106 rfl ?_
  refine j_bipush (v := (109 : Int32)) C dX6_init_108 rfl ?_
  refine j_bipush (v := (105 : Int32)) C dX6_init_110 rfl ?_
  obtain ⟨M1, t1, u1, v1⟩ := F_spell (M := M0) (L := L) (k := 0) (by decide) 116 117 114 110 115 32 109 105
  refine j_known t1 (j_callV_vw (st := []) C dX6_init_112 (ct_X6_spell (kγ κ) E10 M0 L (nI 0) 116 117 114 110 115 32 109 105 hA) mi_X6_spell tw_800 FC6 hA.S rfl rfl (Nat.le_of_ble_eq_true rfl) ⟨⟨rfl, rfl⟩, ⟨Nat.le_of_ble_eq_true rfl, Nat.le_of_ble_eq_true rfl⟩, ⟨Nat.le_of_ble_eq_true rfl, Nat.le_of_ble_eq_true rfl⟩⟩ (fun v => j_at (fun hv => ?_)))
  subst hv
  dsimp only
  refine j_aload_n C dX6_init_115 rfl rfl ?_
  refine j_bipush (v := nI 8) C dX6_init_116 rfl ?_
  refine j_bipush (v := (110 : Int32)) C dX6_init_118 rfl ?_
  refine j_bipush (v := (117 : Int32)) C dX6_init_120 rfl ?_
  refine j_bipush (v := (116 : Int32)) C dX6_init_122 rfl ?_
  refine j_bipush (v := (101 : Int32)) C dX6_init_124 rfl ?_
  refine j_bipush (v := (32 : Int32)) C dX6_init_126 rfl ?_
  refine j_bipush (v := (43 : Int32)) C dX6_init_128 rfl ?_
  refine j_bipush (v := (32 : Int32)) C dX6_init_130 rfl ?_
  refine j_bipush (v := (110 : Int32)) C dX6_init_132 rfl ?_
  obtain ⟨M2, t2, u2, v2⟩ := F_spell (M := M1) (L := L) (k := 8) (by decide) 110 117 116 101 32 43 32 110
  refine j_known t2 (j_callV_vw (st := []) C dX6_init_134 (ct_X6_spell (kγ κ) E10 M1 L (nI 8) 110 117 116 101 32 43 32 110 hA) mi_X6_spell tw_800 FC6 hA.S rfl rfl (Nat.le_of_ble_eq_true rfl) ⟨⟨rfl, rfl⟩, ⟨Nat.le_of_ble_eq_true rfl, Nat.le_of_ble_eq_true rfl⟩, ⟨Nat.le_of_ble_eq_true rfl, Nat.le_of_ble_eq_true rfl⟩⟩ (fun v => j_at (fun hv => ?_)))
  subst hv
  dsimp only
  refine j_aload_n C dX6_init_137 rfl rfl ?_
  refine j_bipush (v := nI 16) C dX6_init_138 rfl ?_
  refine j_bipush (v := (117 : Int32)) C dX6_init_140 rfl ?_
  refine j_bipush (v := (109 : Int32)) C dX6_init_142 rfl ?_
  refine j_bipush (v := (98 : Int32)) C dX6_init_144 rfl ?_
  refine j_bipush (v := (101 : Int32)) C dX6_init_146 rfl ?_
  refine j_bipush (v := (114 : Int32)) C dX6_init_148 rfl ?_
  refine j_bipush (v := (32 : Int32)) C dX6_init_150 rfl ?_
  refine j_bipush (v := (59 : Int32)) C dX6_init_152 rfl ?_
  refine j_bipush (v := (32 : Int32)) C dX6_init_154 rfl ?_
  obtain ⟨M3, t3, u3, v3⟩ := F_spell (M := M2) (L := L) (k := 16) (by decide) 117 109 98 101 114 32 59 32
  refine j_known t3 (j_callV_vw (st := []) C dX6_init_156 (ct_X6_spell (kγ κ) E10 M2 L (nI 16) 117 109 98 101 114 32 59 32 hA) mi_X6_spell tw_800 FC6 hA.S rfl rfl (Nat.le_of_ble_eq_true rfl) ⟨⟨rfl, rfl⟩, ⟨Nat.le_of_ble_eq_true rfl, Nat.le_of_ble_eq_true rfl⟩, ⟨Nat.le_of_ble_eq_true rfl, Nat.le_of_ble_eq_true rfl⟩⟩ (fun v => j_at (fun hv => ?_)))
  subst hv
  dsimp only
  refine j_aload_n C dX6_init_159 rfl rfl ?_
  refine j_bipush (v := nI 24) C dX6_init_160 rfl ?_
  refine j_bipush (v := (116 : Int32)) C dX6_init_162 rfl ?_
  refine j_bipush (v := (105 : Int32)) C dX6_init_164 rfl ?_
  refine j_bipush (v := (114 : Int32)) C dX6_init_166 rfl ?_
  refine j_bipush (v := (101 : Int32)) C dX6_init_168 rfl ?_
  refine j_bipush (v := (115 : Int32)) C dX6_init_170 rfl ?_
  refine j_bipush (v := (32 : Int32)) C dX6_init_172 rfl ?_
  refine j_bipush (v := (51 : Int32)) C dX6_init_174 rfl ?_
  refine j_bipush (v := (32 : Int32)) C dX6_init_176 rfl ?_
  obtain ⟨M4, t4, u4, v4⟩ := F_spell (M := M3) (L := L) (k := 24) (by decide) 116 105 114 101 115 32 51 32
  refine j_known t4 (j_callV_vw (st := []) C dX6_init_178 (ct_X6_spell (kγ κ) E10 M3 L (nI 24) 116 105 114 101 115 32 51 32 hA) mi_X6_spell tw_800 FC6 hA.S rfl rfl (Nat.le_of_ble_eq_true rfl) ⟨⟨rfl, rfl⟩, ⟨Nat.le_of_ble_eq_true rfl, Nat.le_of_ble_eq_true rfl⟩, ⟨Nat.le_of_ble_eq_true rfl, Nat.le_of_ble_eq_true rfl⟩⟩ (fun v => j_at (fun hv => ?_)))
  subst hv
  dsimp only
  refine j_aload_n C dX6_init_181 rfl rfl ?_
  refine j_bipush (v := nI 32) C dX6_init_182 rfl ?_
  refine j_bipush (v := (59 : Int32)) C dX6_init_184 rfl ?_
  refine j_bipush (v := (32 : Int32)) C dX6_init_186 rfl ?_
  refine j_bipush (v := (114 : Int32)) C dX6_init_188 rfl ?_
  refine j_bipush (v := (101 : Int32)) C dX6_init_190 rfl ?_
  refine j_bipush (v := (115 : Int32)) C dX6_init_192 rfl ?_
  refine j_bipush (v := (116 : Int32)) C dX6_init_194 rfl ?_
  refine j_bipush (v := (115 : Int32)) C dX6_init_196 rfl ?_
  refine j_bipush (v := (32 : Int32)) C dX6_init_198 rfl ?_
  obtain ⟨M5, t5, u5, v5⟩ := F_spell (M := M4) (L := L) (k := 32) (by decide) 59 32 114 101 115 116 115 32
  refine j_known t5 (j_callV_vw (st := []) C dX6_init_200 (ct_X6_spell (kγ κ) E10 M4 L (nI 32) 59 32 114 101 115 116 115 32 hA) mi_X6_spell tw_800 FC6 hA.S rfl rfl (Nat.le_of_ble_eq_true rfl) ⟨⟨rfl, rfl⟩, ⟨Nat.le_of_ble_eq_true rfl, Nat.le_of_ble_eq_true rfl⟩, ⟨Nat.le_of_ble_eq_true rfl, Nat.le_of_ble_eq_true rfl⟩⟩ (fun v => j_at (fun hv => ?_)))
  subst hv
  dsimp only
  refine j_aload_n C dX6_init_203 rfl rfl ?_
  refine j_bipush (v := nI 40) C dX6_init_204 rfl ?_
  refine j_bipush (v := (50 : Int32)) C dX6_init_206 rfl ?_
  refine j_bipush (v := (32 : Int32)) C dX6_init_208 rfl ?_
  refine j_bipush (v := (59 : Int32)) C dX6_init_210 rfl ?_
  refine j_bipush (v := (32 : Int32)) C dX6_init_212 rfl ?_
  refine j_bipush (v := (32 : Int32)) C dX6_init_214 rfl ?_
  refine j_bipush (v := (32 : Int32)) C dX6_init_216 rfl ?_
  refine j_bipush (v := (32 : Int32)) C dX6_init_218 rfl ?_
  refine j_bipush (v := (32 : Int32)) C dX6_init_220 rfl ?_
  obtain ⟨M6, t6, u6, v6⟩ := F_spell (M := M5) (L := L) (k := 40) (by decide) 50 32 59 32 32 32 32 32
  refine j_known t6 (j_callV_vw (st := []) C dX6_init_222 (ct_X6_spell (kγ κ) E10 M5 L (nI 40) 50 32 59 32 32 32 32 32 hA) mi_X6_spell tw_800 FC6 hA.S rfl rfl (Nat.le_of_ble_eq_true rfl) ⟨⟨rfl, rfl⟩, ⟨Nat.le_of_ble_eq_true rfl, Nat.le_of_ble_eq_true rfl⟩, ⟨Nat.le_of_ble_eq_true rfl, Nat.le_of_ble_eq_true rfl⟩⟩ (fun v => j_at (fun hv => ?_)))
  subst hv
  dsimp only
  refine j_aload_n C dX6_init_225 rfl rfl ?_
  refine j_getR (j := 2) (k' := 2) C dX6_init_226 FC6 hA.S (by decide) rfl hA.R_textSize tw_805 ?_
  refine j_iconst (v := nI 0) C dX6_init_229 rfl ?_
  refine j_bipush (v := nI 48) C dX6_init_230 rfl ?_
  refine j_take (c := ix (nI 0) 6 = true) (by decide) (j_iast C dX6_init_232 hA.P_textSize ?_)
  refine j_aload_n C dX6_init_233 rfl rfl ?_
  refine j_iconst (v := nI 1) C dX6_init_234 rfl ?_
  refine j_putI (j := 3) C dX6_init_235 FC6 hA.S (by decide) rfl rfl rfl rfl tw_806 ?_
  refine j_vretx C dX6_init_238 ⟨⟨hA, ?_⟩, ?_⟩
  · have o : ∀ k, k ≠ 0 → k ≠ 1 → k ≠ 2 → ∀ j, up2 (up2 M6 2 (nI 0).toNatClampNeg (nI 48)) 0 3 (nI 1) k j = 0 := fun k a b c j => by
      rw [up2_ne a, up2_ne c, u6 k b, u5 k b, u4 k b, u3 k b, u2 k b, u1 k b, ← hM0, up2_ne a, up2_ne a, (hZ k (Nat.zero_le _)).1]
    have o0 : ∀ j, j ≠ 3 → up2 (up2 M6 2 (nI 0).toNatClampNeg (nI 48)) 0 3 (nI 1) 0 j = M0 0 j := fun j hj => by rw [up2_b hj, up2_ne (by decide), u6 0 (by decide), u5 0 (by decide), u4 0 (by decide), u3 0 (by decide), u2 0 (by decide), u1 0 (by decide)]
    have n0 : ∀ j, j ≠ 12 → j ≠ 32 → M0 0 j = 0 := fun j a b => by rw [← hM0, up2_b b, up2_b a, (hZ 0 (Nat.zero_le _)).1]
    refine ⟨⟨by rw [(hZ 0 (Nat.zero_le _)).2]; rfl, by rw [(hZ 0 (Nat.zero_le _)).2]; rfl, by rw [o0 7 (by decide), n0 7 (by decide) (by decide)]; rfl, by rw [o0 11 (by decide), n0 11 (by decide) (by decide)]; rfl, by rw [o0 4 (by decide), n0 4 (by decide) (by decide)]; rfl, fun p hp => absurd hp (Nat.not_lt_zero p)⟩, ?_, ⟨up2_at _ _ _ _, by decide, fun r hr => ⟨fM, 48, by decide, ?_, fun i hi => ?_, fM_pos, ?_⟩⟩, ⟨by rw [o0 6 (by decide), n0 6 (by decide) (by decide)]; rfl, fun i hi => absurd hi (Nat.not_lt_zero i)⟩, fun s hs => ⟨?_, Or.inl rfl⟩, ?_⟩
    · show up2 (up2 M6 2 (nI 0).toNatClampNeg (nI 48)) 0 3 (nI 1) 0 32 = -1
      rw [o0 32 (by decide), ← hM0]; exact up2_at _ _ _ _
    · have : r = 0 := by have : r < 1 := hr; omega
      subst this; rw [up2_ne (by decide)]; exact up2_at _ _ _ _
    · have : r = 0 := by have : r < 1 := hr; omega
      subst this
      rw [show 160 * 0 + i = i by omega, up2_ne (by decide), up2_ne (by decide), v6, v5, v4, v3, v2, v1, m0]
      exact (by decide : ∀ i, i < 48 → (if 40 ≤ i ∧ i < 40 + 8 then ([50, 32, 59, 32, 32, 32, 32, 32] : List Int32).getD (i - 40) 0 else if 32 ≤ i ∧ i < 32 + 8 then ([59, 32, 114, 101, 115, 116, 115, 32] : List Int32).getD (i - 32) 0 else if 24 ≤ i ∧ i < 24 + 8 then ([116, 105, 114, 101, 115, 32, 51, 32] : List Int32).getD (i - 24) 0 else if 16 ≤ i ∧ i < 16 + 8 then ([117, 109, 98, 101, 114, 32, 59, 32] : List Int32).getD (i - 16) 0 else if 8 ≤ i ∧ i < 8 + 8 then ([110, 117, 116, 101, 32, 43, 32, 110] : List Int32).getD (i - 8) 0 else if 0 ≤ i ∧ i < 0 + 8 then ([116, 117, 114, 110, 115, 32, 109, 105] : List Int32).getD (i - 0) 0 else 0) = fM i) i hi
    · have : r = 0 := by have : r < 1 := hr; omega
      subst this; exact pt1
    · rw [o 7 (by decide) (by decide) (by decide) s]; rfl
    · rw [o0 12 (by decide), ← hM0, up2_b (by decide)]; exact up2_at _ _ _ _
  · exact ((((((((((ad1.tr ad2).tr ad3).tr ad4).tr ad5).tr ad6).tr ad7).tr ad8).tr ad9).tr ad10) 0 (by rw [hs0]; decide)).1
