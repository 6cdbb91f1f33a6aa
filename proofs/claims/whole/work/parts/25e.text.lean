/-! the class: a text added; text -/
theorem TAt.ext {E E' : Ev} {z l : Nat} (h : TAt E z) (hl : E.1.length = l) (h22 : E.1[22]? = some (.inr (3, 6))) (h1 : ∀ k, k < l → E'.1[k]? = E.1[k]?) (h2 : ∀ k j, k < l → k ≠ 22 → E'.2.2 k j = E.2.2 k j) : TAt E' z ∧ tlen E' z = tlen E z := by
  have a1 : z < l := by rw [← hl]; exact (List.getElem?_eq_some_iff.mp h.1).1
  have a2 : z + 1 < l := by rw [← hl]; exact (List.getElem?_eq_some_iff.mp h.2.2).1
  have hz : z ≠ 22 := fun q => by have := h.1; rw [q, h22] at this; cases this
  have et : tlen E' z = tlen E z := by unfold tlen; rw [h1 (z + 1) a2]
  exact ⟨⟨by rw [h1 z a1]; exact h.1, by rw [h2 z 0 a1 hz]; exact h.2.1, by rw [h1 _ a2, et]; exact h.2.2⟩, et⟩
theorem XAt.len {E : Ev} (h : XAt E) : 36 ≤ E.1.length := (List.getElem?_eq_some_iff.mp (h.Shx.2 3 (by decide)).2.2).1
theorem FAt.ext {E E' : Ev} {b l : Nat} (h : FAt E b) (hl : E.1.length = l) (h22 : b < 20) (h1 : ∀ k, k < l → E'.1[k]? = E.1[k]?) (h2 : ∀ k j, k < l → k ≠ 22 → E'.2.2 k j = E.2.2 k j) : FAt E' b := by
  have a : b + 4 < l := by rw [← hl]; exact (List.getElem?_eq_some_iff.mp h.P_weary).1
  unfold FAt
  rw [h1 b (by omega), h1 (b + 1) (by omega), h1 (b + 2) (by omega), h1 (b + 3) (by omega), h1 (b + 4) (by omega), h2 b 5 (by omega) (by omega), h2 b 6 (by omega) (by omega), h2 b 7 (by omega) (by omega), h2 b 8 (by omega) (by omega)]
  exact h
theorem XAt.ext {E E' : Ev} {l : Nat} (h : XAt E) (hl : E.1.length = l) (h1 : ∀ k, k < l → E'.1[k]? = E.1[k]?) (h2 : ∀ k j, k < l → k ≠ 22 → E'.2.2 k j = E.2.2 k j) (h3 : ∀ j z, E'.2.2 22 j = some z → TAt E' z) : XAt E' := by
  have hlen : 36 ≤ l := hl ▸ h.len
  have L0 := h.P_law
  have R0 := h.P_reader
  refine ⟨by rw [h1 0 (by omega)]; exact h.S, by rw [h2 0 0 (by omega) (by decide)]; exact h.R_now, h.P_now.ext hl (by decide) h1 h2, by rw [h2 0 1 (by omega) (by decide)]; exact h.R_thought, h.P_thought.ext hl (by decide) h1 h2, by rw [h2 0 2 (by omega) (by decide)]; exact h.R_later, h.P_later.ext hl (by decide) h1 h2, by rw [h2 0 3 (by omega) (by decide)]; exact h.R_kept, h.P_kept.ext hl (by decide) h1 h2, by rw [h2 0 4 (by omega) (by decide)]; exact h.R_law, ⟨by rw [h1 21 (by omega)]; exact L0.S, by rw [h2 21 0 (by omega) (by decide)]; exact L0.R_texts, by rw [h1 22 (by omega)]; exact L0.P_texts, by rw [h2 21 1 (by omega) (by decide)]; exact L0.R_stack, by rw [h1 23 (by omega)]; exact L0.P_stack, h3⟩, by rw [h2 0 5 (by omega) (by decide)]; exact h.R_reader, ⟨by rw [h1 24 (by omega)]; exact R0.S, by rw [h2 24 0 (by omega) (by decide)]; exact R0.R_tape, by rw [h1 25 (by omega)]; exact R0.P_tape, by rw [h2 24 1 (by omega) (by decide)]; exact R0.R_code, by rw [h1 26 (by omega)]; exact R0.P_code⟩, by rw [h2 0 6 (by omega) (by decide)]; exact h.R_sheets, by rw [h1 27 (by omega)]; exact h.P_sheets, fun j hj => by rw [h2 27 j (by omega) (by decide)]; exact h.Shx.1 j hj, fun j hj => ?_⟩
  have s := h.Shx.2 j hj
  exact ⟨by rw [h1 _ (by omega)]; exact s.1, by rw [h2 _ 0 (by omega) (by omega)]; exact s.2.1, by rw [h1 _ (by omega)]; exact s.2.2⟩
theorem eTx_1 {E : Ev} {l N q q' k : Nat} (hl : E.1.length = l) (hk : k < l) : (eTx E l N q q').1[k]? = E.1[k]? := by
  show ((E.1 ++ [(Sum.inl 4 : Ds)]) ++ [(Sum.inr (0, N) : Ds)])[k]? = _
  rw [List.getElem?_append_left (by simp; omega), List.getElem?_append_left (by omega)]
theorem eTx_l {E : Ev} {l N q q' : Nat} (hl : E.1.length = l) : (eTx E l N q q').1[l]? = some (.inl 4) ∧ (eTx E l N q q').1[l + 1]? = some (.inr (0, N)) ∧ (eTx E l N q q').1.length = l + 2 := by
  show ((E.1 ++ [(Sum.inl 4 : Ds)]) ++ [(Sum.inr (0, N) : Ds)])[l]? = _ ∧ ((E.1 ++ [(Sum.inl 4 : Ds)]) ++ [(Sum.inr (0, N) : Ds)])[l + 1]? = _ ∧ ((E.1 ++ [(Sum.inl 4 : Ds)]) ++ [(Sum.inr (0, N) : Ds)]).length = _
  refine ⟨?_, ?_, ?_⟩
  · rw [List.getElem?_append_left (by simp; omega), List.getElem?_append_right (by omega), hl, Nat.sub_self]; rfl
  · rw [List.getElem?_append_right (by simp; omega)]; simp [hl]
  · simp [hl]
theorem eTx_a {E : Ev} {l N q q' k : Nat} (hl : E.1.length = l) (hk : k < l) : (eTx E l N q q').2.1 k = E.2.1 k := by
  show (eN (eN E (.inl 4) q) (.inr (0, N)) q').2.1 k = _
  rw [eN_ad (by rw [eN_len hl]; omega), eN_ad (by omega)]
theorem eTx_r {E : Ev} {l N q q' k : Nat} (hl : E.1.length = l) (hk : k < l) : (eTx E l N q q').2.2 k = E.2.2 k := by
  show up2 (upr (upr E.2.2 E.1.length (fun _ => none)) (eN E (.inl 4) q).1.length (fun _ => none)) l 0 (some (l + 1)) k = _
  rw [up2_ne (by omega), upr_ne (by rw [eN_len hl]; omega), upr_ne (by omega)]
theorem eTx_n {E : Ev} {l N q q' : Nat} : (eTx E l N q q').2.2 l 0 = some (l + 1) := up2_at _ _ _ _
theorem mi_X1_add : MV RX1 yX1_add cX1_add 2 (some .int) 1 := ⟨tw_419, tw_420, tw_103, tw_421, by decide +kernel⟩
set_option maxRecDepth 100000 in
set_option maxHeartbeats 4000000 in
theorem ct_X1_add (γ : Gm) (E : Ev) (M : Mi) (L : Ml) (z T : Nat) (hS : E.1[21]? = some (.inl 1)) (h0 : E.2.2 21 0 = some 22) (h22 : E.1[22]? = some (.inr (3, 6))) (hz : E.1[z]? = some (.inl 4)) (hT : T < 6) (h2 : M 21 2 = nI T) (hR : RW E) : Ct γ yX1_add cX1_add 2 (some .int) ⟨0, 0, 0, 0⟩ [.ref (E.2.1 21), .ref (E.2.1 z)] E M L (Q_ix γ (nI T) (fun E' M' L' => E' = eR E 22 T z ∧ M' = up2 M 21 2 (nI (T + 1)) ∧ L' = L ∧ RW E')) 0 0 (some ()) := by
  refine ct_of (own := RX1) (lv := [some (.ref (E.2.1 21)), some (.ref (E.2.1 z))]) (by decide +kernel) rfl rfl (Nat.le_of_ble_eq_true rfl) (fun κ C hγ hNL => ?_)
  subst hγ
  refine j_aload_n C dX1_add_0 rfl rfl ?_
  refine j_getI (j := 2) C dX1_add_1 FC1 hS (by decide) rfl tw_183 ?_
  rw [h2]
  refine j_bipush (v := (6 : Int32)) C dX1_add_4 rfl ?_
  refine j_take (c := nI T < 6) (nI_lt (b := 6) hT (by decide)) (j_icmp_lt (tgt := 12) C dX1_add_6 (by decide) ?_ jf_none)
  refine j_aload_n C dX1_add_12 rfl rfl ?_
  refine j_getR (j := 0) C dX1_add_13 FC1 hS (by decide) rfl h0 tw_181 ?_
  refine j_aload_n C dX1_add_16 rfl rfl ?_
  refine j_getI (j := 2) C dX1_add_17 FC1 hS (by decide) rfl tw_183 ?_
  rw [h2]
  refine j_aload_n C dX1_add_20 rfl rfl ?_
  refine j_aast (t := 1) C dX1_add_21 h22 (by decide) hz rfl rfl rfl (ix_nI (n := 6) hT (by decide)) ?_
  rw [nI_clamp (show T < 2 ^ 31 by omega)]
  have hR1 : RW (eR E 22 T z) := eR_RW hR (List.getElem?_eq_some_iff.mp hz).1
  refine j_aload_n C dX1_add_22 rfl rfl ?_
  refine j_dup C dX1_add_23 rfl ?_
  refine j_getI (E := eR E 22 T z) (k := 21) (j := 2) C dX1_add_24 FC1 hS (by decide) rfl tw_183 ?_
  rw [h2]
  refine j_iconst (v := (1 : Int32)) C dX1_add_27 rfl ?_
  refine j_iadd C dX1_add_28 ?_
  rw [nI_1]
  refine j_putI (E := eR E 22 T z) (k := 21) (j := 2) C dX1_add_29 FC1 hS (by decide) rfl rfl rfl rfl tw_183 ?_
  refine j_aload_n C dX1_add_32 rfl rfl ?_
  refine j_getI (E := eR E 22 T z) (k := 21) (j := 2) C dX1_add_33 FC1 hS (by decide) rfl tw_183 ?_
  rw [up2_at]
  refine j_iconst (v := (1 : Int32)) C dX1_add_36 rfl ?_
  refine j_isub C dX1_add_37 ?_
  rw [nI_m]
  exact j_iretx C dX1_add_38 ⟨rfl, rfl, rfl, hR1⟩
/-- rows beyond the cells say nothing -/
theorem XI.cutn {E : Ev} {M M' : Mi} {L L' : Ml} {σ : Sg} {l : Nat} (h : XI E M L σ) (hA : XAt E) (hl : E.1.length = l) (hM : ∀ k, k < l → M' k = M k) (hL : ∀ k, k < l → L' k = L k) : XI E M' L' σ := by
  have hlen : 36 ≤ l := hl ▸ hA.len
  obtain ⟨a, b, c, d, e⟩ := h
  refine ⟨a.keep (hM _ (by omega)) (hM _ (by omega)) (hM _ (by omega)) (hM _ (by omega)) (hM _ (by omega)) (hL _ (by omega)), ?_, ⟨by rw [hM 21 (by omega)]; exact c.1, c.2.1, fun r hr => ?_⟩, by rw [hM 24 (by omega), hM 25 (by omega)]; exact d, fun s hs => (e s hs).keep (hM _ (by omega)) (hM _ (by omega))⟩
  · show XKp M' L' (uK σ)
    cases hk : uK σ with
    | none => rw [hk] at b; show M' 0 7 = 0; rw [hM 0 (by omega)]; exact b
    | some k => rw [hk] at b; exact ⟨by rw [hM 0 (by omega)]; exact b.1, b.2.keep (hM _ (by omega)) (hM _ (by omega)) (hM _ (by omega)) (hM _ (by omega)) (hM _ (by omega)) (hL _ (by omega))⟩
  · obtain ⟨v1, t, v2, v3, v4⟩ := c.2.2 r hr
    have ht := hA.P_law.TA v2
    have t1 : t < l := by rw [← hl]; exact (List.getElem?_eq_some_iff.mp ht.1).1
    have t2 : t + 1 < l := by rw [← hl]; exact (List.getElem?_eq_some_iff.mp ht.2.2).1
    refine ⟨v1, t, v2, v3, ?_⟩
    unfold TX
    rw [hM t t1, hM (t + 1) t2]
    exact v4
