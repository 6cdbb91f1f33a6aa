/-! a text read: its contract -/
theorem tpart_lt {f : Nat → Int32} {n : Nat} {key : Int32} {p : Nat} {c : List Int32} {y : Nat × List Int32} (hk : key ≠ 256) (hp : p ≤ n) (hc : c.length ≤ p) (h : tpart f n key p c = .inr y) : y.2.length < y.1 ∧ y.1 ≤ n := by
  unfold tpart at h
  by_cases e : tc f n p = key
  · rw [if_pos e] at h
    have g1 := te_go hp (show tc f n p ≠ 256 by rw [e]; exact hk)
    have g2 := te_n (f := f) hp
    have hP := (PP_pl f n 5).2.2 _ g2
    cases er : (pl f n 5).2.2 (te f n p) with
    | inl q => rw [er] at h; cases h
    | inr x =>
      rw [er] at hP
      replace hP : x.1 ≤ n ∧ te f n p + x.2.length ≤ x.1 ∧ 1 ≤ x.2.length := hP
      rw [er, show (x : Nat × List Int32) = (x.1, x.2) from rfl, pbd_r] at h
      by_cases e2 : tc f n x.1 = 59
      · rw [if_pos e2] at h
        cases h
        have g3 := te_go hP.1 (show tc f n x.1 ≠ 256 by rw [e2]; decide)
        exact ⟨by simp only [List.length_append]; omega, te_n hP.1⟩
      · rw [if_neg e2] at h; cases h
  · rw [if_neg e] at h; cases h
theorem ptext_lt {f : Nat → Int32} {n : Nat} {C : Cd} (h : ptext f n = .inr C) : C.1.length < n := by
  unfold ptext at h
  cases r1 : tpart f n 259 0 [] with
  | inl q => rw [r1] at h; cases h
  | inr x =>
    rw [r1] at h
    dsimp only at h
    have a1 := tpart_lt (by decide) (Nat.zero_le _) (Nat.le_refl _) r1
    cases r2 : tpart f n 260 x.1 x.2 with
    | inl q => rw [r2] at h; cases h
    | inr y =>
      rw [r2] at h
      dsimp only at h
      have a2 := tpart_lt (by decide) a1.2 (by omega) r2
      cases r3 : tpart f n 261 y.1 y.2 with
      | inl q => rw [r3] at h; cases h
      | inr z =>
        rw [r3] at h
        dsimp only at h
        have a3 := tpart_lt (by decide) a2.2 (by omega) r3
        by_cases e : tc f n z.1 = 256
        · rw [if_pos e] at h; cases h; show z.2.length < n; omega
        · rw [if_neg e] at h; cases h
/-- the cells of a new text -/
def eTx (E : Ev) (l N q q' : Nat) : Ev := eR (eN (eN E (.inl 4) q) (.inr (0, N)) q') l 0 (l + 1)
theorem RAt.eN' {E : Ev} {d : Ds} {q : Nat} (h : RAt E) : RAt (eN E d q) := by
  have h26 := (List.getElem?_eq_some_iff.mp h.P_code).1
  have e1 : ∀ k, k < E.1.length → (eN E d q).1[k]? = E.1[k]? := fun k hk => by simp only [eN]; exact List.getElem?_append_left hk
  have e2 : ∀ k, k < E.1.length → (eN E d q).2.2 k = E.2.2 k := fun k hk => upr_ne (by omega)
  unfold RAt
  rw [e1 24 (by omega), e1 25 (by omega), e1 26 (by omega), e2 24 (by omega)]
  exact h
/-- what a reader leaves that has read a text into cells l and l + 1 -/
def RDx (E : Ev) (M : Mi) (L : Ml) (l : Nat) (C : Cd) (a : Nat) (E' : Ev) (M' : Mi) (L' : Ml) : Prop :=
  (∃ q q', E' = eTx E l C.1.length q q') ∧ a = E'.2.1 l ∧ L' = L ∧ RW E' ∧ (∀ k, k ≠ 24 → k ≠ 26 → k < l → M' k = M k) ∧ (∀ j, j < 3 → M' 24 j = M 24 j) ∧ M' l 1 = nI C.2.1 ∧ M' l 2 = nI C.2.2 ∧ C.2.1 ≤ C.2.2 ∧ C.2.2 ≤ C.1.length ∧ (∀ i, i < C.1.length → M' (l + 1) i = C.1.getD i 0) ∧ Zn (l + 2) M' L'
set_option maxRecDepth 100000 in
set_option maxHeartbeats 4000000 in
theorem ct_readText (γ : Gm) (E : Ev) (M : Mi) (L : Ml) (l n : Nat) (f : Nat → Int32) (C : Cd) (h0 : RAt E) (hl : E.1.length = l) (hZ : Zn l M L) (hR : RW E) (hn : n ≤ 160) (h25 : M 25 = f) (h2 : M 24 2 = nI n) (hp : ptext f n = .inr C) : Ct γ yX2_readText cX2_readText 3 (some (.object RX4)) ⟨54, 2, 163, 2500⟩ [.ref (E.2.1 24)] E M L (Q_rx γ (RDx E M L l C)) 2 163 (some ()) := by
  refine ct_of (own := RX2) (lv := [some (.ref (E.2.1 24)), none, none]) (by decide +kernel) rfl rfl (Nat.le_of_ble_eq_true rfl) (fun κ Cx hγ hNL => ?_)
  subst hγ
  have h26 : 26 < l := by rw [← hl]; exact (List.getElem?_eq_some_iff.mp h0.P_code).1
  have hlt := ptext_lt hp
  refine j_aload_n Cx dX2_readText_0 rfl rfl ?_
  refine j_iconst (v := (-1 : Int32)) Cx dX2_readText_1 rfl ?_
  refine j_putI (j := 3) Cx dX2_readText_2 FC2 h0.S (by decide) rfl rfl rfl rfl tw_202 ?_
  refine j_aload_n Cx dX2_readText_5 rfl rfl ?_
  refine j_iconst (v := (0 : Int32)) Cx dX2_readText_6 rfl ?_
  refine j_putI (j := 6) Cx dX2_readText_7 FC2 h0.S (by decide) rfl rfl rfl rfl tw_206 ?_
  refine j_aload_n Cx dX2_readText_10 rfl rfl ?_
  refine j_iconst (v := (0 : Int32)) Cx dX2_readText_11 rfl ?_
  refine j_putI (j := 8) Cx dX2_readText_12 FC2 h0.S (by decide) rfl rfl rfl rfl tw_208 ?_
  generalize hM0 : up2 (up2 (up2 M 24 3 (-1)) 24 6 0) 24 8 0 = M0
  have u1 : ∀ k, k ≠ 24 → M0 k = M k := fun k hk => by rw [← hM0, up2_ne hk, up2_ne hk, up2_ne hk]
  have u2 : ∀ j, j < 3 → M0 24 j = M 24 j := fun j hj => by rw [← hM0, up2_off (by omega), up2_off (by omega), up2_off (by omega)]
  obtain ⟨w1, w2, w3, M1, M2, M3, M4, M5, e1, e2, e3, e4, e5, hF, hx⟩ := X_text (f := f) (n := n) (M := M0) L hn (by rw [u1 25 (by decide)]; exact h25) (by rw [u2 2 (by decide)]; exact h2) (by rw [← hM0, up2_off (by decide), up2_off (by decide)]; exact up2_at _ _ _ _) (by rw [← hM0, up2_off (by decide)]; exact up2_at _ _ _ _) (by rw [← hM0]; exact up2_at _ _ _ _)
  rw [hp] at hx
  obtain ⟨x1, x2, x3, rfl, rfl, x6, x7, x8⟩ := hx
  refine j_aload_n Cx dX2_readText_15 rfl rfl ?_
  refine j_known e1 (j_callV_vw (st := []) Cx dX2_readText_16 (ct_X2_advance (kγ κ) E M0 L h0) mi_X2_advance tw_305 FC2 h0.S rfl rfl (Nat.le_of_ble_eq_true rfl) ⟨⟨rfl, rfl⟩, ⟨Nat.le_of_ble_eq_true rfl, Nat.le_of_ble_eq_true rfl⟩, ⟨Nat.zero_le _, Nat.zero_le _⟩⟩ (fun v => j_at (fun hv => ?_)))
  subst hv
  refine j_aload_n Cx dX2_readText_19 rfl rfl ?_
  refine j_sipush (v := (259 : Int32)) Cx dX2_readText_20 rfl ?_
  refine j_known e2 (j_callV_iw (st := []) Cx dX2_readText_23 (ct_X2_readPart (kγ κ) E M1 L 259 h0) mi_X2_readPart tw_344 FC2 h0.S rfl rfl (Nat.le_of_ble_eq_true rfl) ⟨⟨rfl, rfl⟩, ⟨Nat.le_of_ble_eq_true rfl, Nat.le_of_ble_eq_true rfl⟩, ⟨Nat.zero_le _, Nat.zero_le _⟩⟩ (fun v => j_at (fun hv => ?_)))
  subst hv
  refine j_istore_n (i := 1) (lv' := [some (.ref (E.2.1 24)), some (.int (nI C.2.1)), none]) Cx dX2_readText_26 rfl (by rw [hNL]; decide) rfl ?_
  refine j_aload_n Cx dX2_readText_27 rfl rfl ?_
  refine j_sipush (v := (260 : Int32)) Cx dX2_readText_28 rfl ?_
  refine j_known e3 (j_callV_iw (st := []) Cx dX2_readText_31 (ct_X2_readPart (kγ κ) E M2 L 260 h0) mi_X2_readPart tw_344 FC2 h0.S rfl rfl (Nat.le_of_ble_eq_true rfl) ⟨⟨rfl, rfl⟩, ⟨Nat.le_of_ble_eq_true rfl, Nat.le_of_ble_eq_true rfl⟩, ⟨Nat.zero_le _, Nat.zero_le _⟩⟩ (fun v => j_at (fun hv => ?_)))
  subst hv
  refine j_istore_n (i := 2) (lv' := [some (.ref (E.2.1 24)), some (.int (nI C.2.1)), some (.int (nI C.2.2))]) Cx dX2_readText_34 rfl (by rw [hNL]; decide) rfl ?_
  refine j_aload_n Cx dX2_readText_35 rfl rfl ?_
  refine j_sipush (v := (261 : Int32)) Cx dX2_readText_36 rfl ?_
  refine j_known e4 (j_callV_iw (st := []) Cx dX2_readText_39 (ct_X2_readPart (kγ κ) E M3 L 261 h0) mi_X2_readPart tw_344 FC2 h0.S rfl rfl (Nat.le_of_ble_eq_true rfl) ⟨⟨rfl, rfl⟩, ⟨Nat.le_of_ble_eq_true rfl, Nat.le_of_ble_eq_true rfl⟩, ⟨Nat.zero_le _, Nat.zero_le _⟩⟩ (fun v => j_at (fun hv => ?_)))
  subst hv
  refine j_pop Cx dX2_readText_42 rfl ?_
  refine j_aload_n Cx dX2_readText_43 rfl rfl ?_
  refine j_sipush (v := (256 : Int32)) Cx dX2_readText_44 rfl ?_
  refine j_known e5 (j_callV_vw (st := []) Cx dX2_readText_47 (ct_X2_need (kγ κ) E M4 L 256 h0) mi_X2_need tw_348 FC2 h0.S rfl rfl (Nat.le_of_ble_eq_true rfl) ⟨⟨rfl, rfl⟩, ⟨Nat.le_of_ble_eq_true rfl, Nat.le_of_ble_eq_true rfl⟩, ⟨Nat.zero_le _, Nat.zero_le _⟩⟩ (fun v => j_at (fun hv => ?_)))
  subst hv
  refine j_aload_n Cx dX2_readText_50 rfl rfl ?_
  refine j_getI (j := 3) Cx dX2_readText_51 FC2 h0.S (by decide) rfl tw_202 ?_
  refine j_iconst (v := (-1 : Int32)) Cx dX2_readText_54 rfl ?_
  refine j_take x1 (j_icmp_ne (tgt := 81) Cx dX2_readText_55 (by decide) jf_none ?_)
  have f1 : ∀ k, k ≠ 24 → k ≠ 26 → M5 k = M k := fun k a b => by rw [hF.1 k a b]; exact u1 k a
  have hZ5 : Zn l M5 L := fun k hk => ⟨by rw [f1 k (by omega) (by omega)]; exact (hZ k hk).1, (hZ k hk).2⟩
  refine j_newQ (c := 4) Cx dX2_readText_58 FC4 tw_384 tw_385 tw_110 (by decide +kernel) hl hZ5 hR ⟨Nat.le_of_ble_eq_true rfl, Nat.le_of_ble_eq_true rfl⟩ (fun q hR1 => ?_)
  have hA1 : RAt (eN E (.inl 4) q) := h0.eN'
  have hl1 : (eN E (.inl 4) q).1.length = l + 1 := eN_len hl
  have hS1 : (eN E (.inl 4) q).1[l]? = some (.inl 4) := by simp only [eN]; rw [List.getElem?_append_right (by omega), hl, Nat.sub_self]; rfl
  rw [← eN_ad (d := .inl 4) (q := q) (show 24 < E.1.length by omega)]
  generalize hE1 : eN E (.inl 4) q = E1 at *
  refine j_dup Cx dX2_readText_61 rfl ?_
  refine j_aload_n Cx dX2_readText_62 rfl rfl ?_
  refine j_getR (j := 1) Cx dX2_readText_63 FC2 hA1.S (by decide) rfl hA1.R_code tw_199 ?_
  refine j_aload_n Cx dX2_readText_66 rfl rfl ?_
  refine j_getI (j := 8) Cx dX2_readText_67 FC2 hA1.S (by decide) rfl tw_208 ?_
  replace x2 : (M5, L).1 24 8 = nI C.1.length := x2
  rw [x2]
  refine j_callS_rx (st := [.ref (E1.2.1 l), .ref (E1.2.1 l)]) Cx dX2_readText_70 (ct_copyOf (kγ κ) E1 M5 L 26 C.1.length (l + 1) (by omega) hA1.P_code hl1 (hZ5.s (Nat.le_succ _)) hR1) mi_copyOf tw_386 rfl rfl (Nat.le_of_ble_eq_true rfl) ⟨⟨rfl, rfl⟩, ⟨Nat.le_of_ble_eq_true rfl, Nat.le_of_ble_eq_true rfl⟩, ⟨Nat.le_of_ble_eq_true rfl, Nat.le_of_ble_eq_true rfl⟩⟩ (fun a E2 M6 L6 hP => ?_)
  obtain ⟨q', hE2, rfl, hM6, rfl, hR2⟩ := hP
  have hl2 : E2.1.length = l + 2 := by rw [hE2]; exact eN_len hl1
  have hS2 : E2.1[l]? = some (.inl 4) := by rw [hE2]; simp only [eN]; rw [List.getElem?_append_left (by omega)]; exact hS1
  have ha : E1.2.1 l = E2.2.1 l := by rw [hE2]; exact (eN_ad (by omega)).symm
  rw [ha]
  refine j_iload_n Cx dX2_readText_73 rfl rfl ?_
  refine j_iload_n Cx dX2_readText_74 rfl rfl ?_
  refine j_callI (st := [.ref (E2.2.1 l)]) Cx dX2_readText_75 (ct_X4_init (kγ κ) E2 M6 L6 l (l + 1) (nI C.2.1) (nI C.2.2) hS2 (by omega) hR2) mi_X4_init tw_402 rfl rfl (Nat.le_of_ble_eq_true rfl) ⟨⟨rfl, rfl⟩, ⟨Nat.le_of_ble_eq_true rfl, Nat.le_of_ble_eq_true rfl⟩, ⟨Nat.le_of_ble_eq_true rfl, Nat.le_of_ble_eq_true rfl⟩⟩ (fun E3 M7 L7 hP => ?_)
  obtain ⟨rfl, rfl, hR3, rfl⟩ := hP
  refine j_goto (tgt := 82) Cx dX2_readText_78 (by decide) ?_
  have hz := (hZ5 (l + 1) (by omega)).1
  have g1 : ∀ k, k ≠ l + 1 → M6 k = M5 k := fun k hk => by rw [hM6]; exact upr_ne hk
  have g2 : ∀ i, i < C.1.length → M6 (l + 1) i = C.1.getD i 0 := fun i hi => by
    rw [hM6, upr_self]
    unfold va_cpy
    rw [if_pos (show 0 ≤ i ∧ i < 0 + C.1.length by omega), show 0 + (i - 0) = i by omega]
    exact x8 i hi
  exact j_aretx (Or.inl ⟨_, rfl⟩) Cx dX2_readText_82 ⟨⟨q, q', by rw [hE2, ← hE1]; rfl⟩, rfl, rfl, hR3, fun k a b c => by rw [up2_ne (by omega), up2_ne (by omega), g1 k (by omega), f1 k a b], fun j hj => by rw [up2_ne (by omega), up2_ne (by omega), g1 24 (by omega), hF.2 j (Or.inl hj), u2 j hj], by rw [up2_off (by decide)]; exact up2_at _ _ _ _, up2_at _ _ _ _, x6, x7, fun i hi => by rw [up2_ne (by omega), up2_ne (by omega), g2 i hi], fun k hk => ⟨by rw [up2_ne (by omega), up2_ne (by omega), g1 k (by omega)]; exact (hZ5 k (by omega)).1, (hZ k (by omega)).2⟩⟩
/-- what a reader leaves that has found the fault q -/
def RDn (E : Ev) (M : Mi) (L : Ml) (q : Nat) (E' : Ev) (M' : Mi) (L' : Ml) : Prop :=
  E' = E ∧ L' = L ∧ (∀ k, k ≠ 24 → k ≠ 26 → M' k = M k) ∧ (∀ j, j < 3 → M' 24 j = M 24 j) ∧ M' 24 3 = nI q
set_option maxRecDepth 100000 in
set_option maxHeartbeats 4000000 in
theorem ct_readTextN (γ : Gm) (E : Ev) (M : Mi) (L : Ml) (n q : Nat) (f : Nat → Int32) (h0 : RAt E) (hn : n ≤ 160) (h25 : M 25 = f) (h2 : M 24 2 = nI n) (hp : ptext f n = .inl q) : Ct γ yX2_readText cX2_readText 3 (some (.object RX4)) ⟨54, 2, 163, 2500⟩ [.ref (E.2.1 24)] E M L (Q_nx γ (RDn E M L q)) 2 163 (some ()) := by
  refine ct_of (own := RX2) (lv := [some (.ref (E.2.1 24)), none, none]) (by decide +kernel) rfl rfl (Nat.le_of_ble_eq_true rfl) (fun κ Cx hγ hNL => ?_)
  subst hγ
  refine j_aload_n Cx dX2_readText_0 rfl rfl ?_
  refine j_iconst (v := (-1 : Int32)) Cx dX2_readText_1 rfl ?_
  refine j_putI (j := 3) Cx dX2_readText_2 FC2 h0.S (by decide) rfl rfl rfl rfl tw_202 ?_
  refine j_aload_n Cx dX2_readText_5 rfl rfl ?_
  refine j_iconst (v := (0 : Int32)) Cx dX2_readText_6 rfl ?_
  refine j_putI (j := 6) Cx dX2_readText_7 FC2 h0.S (by decide) rfl rfl rfl rfl tw_206 ?_
  refine j_aload_n Cx dX2_readText_10 rfl rfl ?_
  refine j_iconst (v := (0 : Int32)) Cx dX2_readText_11 rfl ?_
  refine j_putI (j := 8) Cx dX2_readText_12 FC2 h0.S (by decide) rfl rfl rfl rfl tw_208 ?_
  generalize hM0 : up2 (up2 (up2 M 24 3 (-1)) 24 6 0) 24 8 0 = M0
  have u1 : ∀ k, k ≠ 24 → M0 k = M k := fun k hk => by rw [← hM0, up2_ne hk, up2_ne hk, up2_ne hk]
  have u2 : ∀ j, j < 3 → M0 24 j = M 24 j := fun j hj => by rw [← hM0, up2_off (by omega), up2_off (by omega), up2_off (by omega)]
  obtain ⟨w1, w2, w3, M1, M2, M3, M4, M5, e1, e2, e3, e4, e5, hF, hx⟩ := X_text (f := f) (n := n) (M := M0) L hn (by rw [u1 25 (by decide)]; exact h25) (by rw [u2 2 (by decide)]; exact h2) (by rw [← hM0, up2_off (by decide), up2_off (by decide)]; exact up2_at _ _ _ _) (by rw [← hM0, up2_off (by decide)]; exact up2_at _ _ _ _) (by rw [← hM0]; exact up2_at _ _ _ _)
  rw [hp] at hx
  refine j_aload_n Cx dX2_readText_15 rfl rfl ?_
  refine j_known e1 (j_callV_vw (st := []) Cx dX2_readText_16 (ct_X2_advance (kγ κ) E M0 L h0) mi_X2_advance tw_305 FC2 h0.S rfl rfl (Nat.le_of_ble_eq_true rfl) ⟨⟨rfl, rfl⟩, ⟨Nat.le_of_ble_eq_true rfl, Nat.le_of_ble_eq_true rfl⟩, ⟨Nat.zero_le _, Nat.zero_le _⟩⟩ (fun v => j_at (fun hv => ?_)))
  subst hv
  refine j_aload_n Cx dX2_readText_19 rfl rfl ?_
  refine j_sipush (v := (259 : Int32)) Cx dX2_readText_20 rfl ?_
  refine j_known e2 (j_callV_iw (st := []) Cx dX2_readText_23 (ct_X2_readPart (kγ κ) E M1 L 259 h0) mi_X2_readPart tw_344 FC2 h0.S rfl rfl (Nat.le_of_ble_eq_true rfl) ⟨⟨rfl, rfl⟩, ⟨Nat.le_of_ble_eq_true rfl, Nat.le_of_ble_eq_true rfl⟩, ⟨Nat.zero_le _, Nat.zero_le _⟩⟩ (fun v => j_at (fun hv => ?_)))
  subst hv
  refine j_istore_n (i := 1) (lv' := [some (.ref (E.2.1 24)), some (.int (w1)), none]) Cx dX2_readText_26 rfl (by rw [hNL]; decide) rfl ?_
  refine j_aload_n Cx dX2_readText_27 rfl rfl ?_
  refine j_sipush (v := (260 : Int32)) Cx dX2_readText_28 rfl ?_
  refine j_known e3 (j_callV_iw (st := []) Cx dX2_readText_31 (ct_X2_readPart (kγ κ) E M2 L 260 h0) mi_X2_readPart tw_344 FC2 h0.S rfl rfl (Nat.le_of_ble_eq_true rfl) ⟨⟨rfl, rfl⟩, ⟨Nat.le_of_ble_eq_true rfl, Nat.le_of_ble_eq_true rfl⟩, ⟨Nat.zero_le _, Nat.zero_le _⟩⟩ (fun v => j_at (fun hv => ?_)))
  subst hv
  refine j_istore_n (i := 2) (lv' := [some (.ref (E.2.1 24)), some (.int (w1)), some (.int (w2))]) Cx dX2_readText_34 rfl (by rw [hNL]; decide) rfl ?_
  refine j_aload_n Cx dX2_readText_35 rfl rfl ?_
  refine j_sipush (v := (261 : Int32)) Cx dX2_readText_36 rfl ?_
  refine j_known e4 (j_callV_iw (st := []) Cx dX2_readText_39 (ct_X2_readPart (kγ κ) E M3 L 261 h0) mi_X2_readPart tw_344 FC2 h0.S rfl rfl (Nat.le_of_ble_eq_true rfl) ⟨⟨rfl, rfl⟩, ⟨Nat.le_of_ble_eq_true rfl, Nat.le_of_ble_eq_true rfl⟩, ⟨Nat.zero_le _, Nat.zero_le _⟩⟩ (fun v => j_at (fun hv => ?_)))
  subst hv
  refine j_pop Cx dX2_readText_42 rfl ?_
  refine j_aload_n Cx dX2_readText_43 rfl rfl ?_
  refine j_sipush (v := (256 : Int32)) Cx dX2_readText_44 rfl ?_
  refine j_known e5 (j_callV_vw (st := []) Cx dX2_readText_47 (ct_X2_need (kγ κ) E M4 L 256 h0) mi_X2_need tw_348 FC2 h0.S rfl rfl (Nat.le_of_ble_eq_true rfl) ⟨⟨rfl, rfl⟩, ⟨Nat.le_of_ble_eq_true rfl, Nat.le_of_ble_eq_true rfl⟩, ⟨Nat.zero_le _, Nat.zero_le _⟩⟩ (fun v => j_at (fun hv => ?_)))
  subst hv
  refine j_aload_n Cx dX2_readText_50 rfl rfl ?_
  refine j_getI (j := 3) Cx dX2_readText_51 FC2 h0.S (by decide) rfl tw_202 ?_
  refine j_iconst (v := (-1 : Int32)) Cx dX2_readText_54 rfl ?_
  refine j_skip hx.ne (j_icmp_ne (tgt := 81) Cx dX2_readText_55 (by decide) ?_ jf_none)
  refine j_null Cx dX2_readText_81 ?_
  refine j_widen (cn' := 2) (sn' := 163) (by decide) (by decide) ?_
  exact j_aretn (Or.inl ⟨_, rfl⟩) Cx dX2_readText_82 ⟨rfl, rfl, fun k a b => (hF.1 k a b).trans (u1 k a), fun j hj => (hF.2 j (Or.inl hj)).trans (u2 j hj), hx.2.2.1⟩
