/-! PURE: sheets: sheet, cell -/
def uSh (σ : Sg) (s : Nat) (h : Sh) : Sg := (uA σ, uK σ, (uT σ, uX σ), (uN σ, uP σ), fun j => if j = s then h else uS σ j)
theorem WS_sh {σ : Sg} {s : Nat} {h : Sh} (hS : WS σ) (hh : wfS h) : WS (uSh σ s h) := by
  refine ⟨hS.1, hS.2.1, hS.2.2.1, hS.2.2.2.1, hS.2.2.2.2.1, fun j hj => ?_⟩
  show wfS (if j = s then h else uS σ j)
  by_cases e : j = s
  · rw [if_pos e]; exact hh
  · rw [if_neg e]; exact hS.2.2.2.2.2 j hj
theorem XI.sh {E : Ev} {M M' : Mi} {L L' : Ml} {σ : Sg} {s : Nat} {h' : Sh} (h : XI E M L σ) (hs : s < 4) (hx : XSh M' s h') (hM : ∀ k, k ≠ 28 + 2 * s → k ≠ 28 + 2 * s + 1 → k ≠ 23 → (k < 6 ∨ 15 < k) → M' k = M k) (hL : ∀ k, (k < 6 ∨ 15 < k) → L' k = L k) : XI E M' L' (uSh σ s h') := by
  obtain ⟨a, b, c, d, e⟩ := h
  refine ⟨a.keep (hM _ (by omega) (by omega) (by decide) (by decide)) (hM _ (by omega) (by omega) (by decide) (by decide)) (hM _ (by omega) (by omega) (by decide) (by decide)) (hM _ (by omega) (by omega) (by decide) (by decide)) (hM _ (by omega) (by omega) (by decide) (by decide)) (hL _ (by decide)), ?_, c.keep (by rw [hM 21 (by omega) (by omega) (by decide) (by decide)]) (fun k hk => hM k (by omega) (by omega) (by omega) (by omega)), ?_, fun j hj => ?_⟩
  · show XKp M' L' (uK σ)
    cases hk : uK σ with
    | none => rw [hk] at b; show M' 0 7 = 0; rw [hM 0 (by omega) (by omega) (by decide) (by decide)]; exact b
    | some k => rw [hk] at b; exact ⟨by rw [hM 0 (by omega) (by omega) (by decide) (by decide)]; exact b.1, b.2.keep (hM _ (by omega) (by omega) (by decide) (by decide)) (hM _ (by omega) (by omega) (by decide) (by decide)) (hM _ (by omega) (by omega) (by decide) (by decide)) (hM _ (by omega) (by omega) (by decide) (by decide)) (hM _ (by omega) (by omega) (by decide) (by decide)) (hL _ (by decide))⟩
  · exact ⟨by rw [hM 24 (by omega) (by omega) (by decide) (by decide)]; exact d.1, by rw [hM 25 (by omega) (by omega) (by decide) (by decide)]; exact d.2⟩
  · show XSh M' j (if j = s then h' else uS σ j)
    by_cases q : j = s
    · rw [if_pos q, q]; exact hx
    · rw [if_neg q]; exact (e j hj).keep (hM _ (by omega) (by omega) (by omega) (by omega)) (hM _ (by omega) (by omega) (by omega) (by omega))
theorem YI.sh {R R' : Mi} {S S' : Ml} {σ : Sg} {s : Nat} {h' : Sh} (h : YI R S σ) (hS : WS σ) (hF : YFl R' S' (uA σ)) (hy : YSh R' s h') (h7 : ∀ t, t ≠ s → R' 7 t = R 7 t) (h8 : ∀ t, t ≠ s → R' 8 t = R 8 t) (h9 : ∀ t, t ≠ s → R' 9 t = R 9 t) (h10 : ∀ t, t < 4 → t ≠ s → ∀ i, i < 40 → R' 10 (40 * t + i) = R 10 (40 * t + i))
    (hR : ∀ k, k ≠ 0 → k ≠ 4 → k ≠ 5 → k ≠ 7 → k ≠ 8 → k ≠ 9 → k ≠ 10 → R' k = R k) (h0 : ∀ j, (j = 3 ∨ j = 6 ∨ j = 12 ∨ 31 < j) → R' 0 j = R 0 j) (hSS : ∀ j, 24 < j → S' 0 j = S 0 j) : YI R' S' (uSh σ s h') := by
  obtain ⟨a, b, c, d, e, f⟩ := h
  refine ⟨hF, ?_, c.keep (h0 3 (by decide)) (hR 1 (by decide) (by decide) (by decide) (by decide) (by decide) (by decide) (by decide)) (hR 2 (by decide) (by decide) (by decide) (by decide) (by decide) (by decide) (by decide)), ?_, fun j hj => ?_, by rw [h0 12 (by decide)]; exact f⟩
  · show YKp R' S' (uK σ)
    cases hk : uK σ with
    | none => rw [hk] at b; show R' 0 32 = -1; rw [h0 32 (by decide)]; exact b
    | some k => rw [hk] at b; unfold YKp at *; rw [h0 32 (by decide), h0 33 (by decide), h0 34 (by decide), hSS 35 (by decide), hSS 36 (by decide), hR 6 (by decide) (by decide) (by decide) (by decide) (by decide) (by decide) (by decide)]; exact b
  · exact ⟨by rw [h0 6 (by decide)]; exact d.1, by rw [hR 3 (by decide) (by decide) (by decide) (by decide) (by decide) (by decide) (by decide)]; exact d.2⟩
  · show YSh R' j (if j = s then h' else uS σ j)
    by_cases q : j = s
    · rw [if_pos q, q]; exact hy
    · rw [if_neg q]
      obtain ⟨g1, g2⟩ := e j hj
      have hwf := hS.2.2.2.2.2 j hj
      refine ⟨by rw [h7 j q]; exact g1, ?_⟩
      rcases g2 with g2 | ⟨g2, g3, g4⟩
      · exact Or.inl g2
      · rcases hwf with hwf | hwf
        · exact Or.inl hwf
        · exact Or.inr ⟨by rw [h8 j q]; exact g2, by rw [h9 j q]; exact g3, fun i hi => by rw [h10 j hj q i (by omega)]; exact g4 i hi⟩
theorem X_become3 {b : Nat} (M : Mi) (L : Ml) (x n : Int32) : ∃ M', F_X3_become b M L x n = some (M', L) ∧ M' b 1 = x ∧ M' b 2 = n ∧ (∀ i, i < 40 → M' (b + 1) i = 0) ∧ ∀ k, k ≠ b → k ≠ b + 1 → M' k = M k := by
  have go : ∀ d j m M1, j + d = 40 → d < m → (∀ k, k ≠ b + 1 → M1 k = up2 (up2 M b 1 x) b 2 n k) → (∀ i, i < j → M1 (b + 1) i = 0) → ∃ M', F_J7_fill_53178_k5 (b + 1) 40 m M1 L 0 (nI j) (nI 40) = some (M', L) ∧ (∀ k, k ≠ b + 1 → M' k = up2 (up2 M b 1 x) b 2 n k) ∧ ∀ i, i < 40 → M' (b + 1) i = 0 := by
    intro d
    induction d with
    | zero =>
      intro j m M1 hj hm h1 h2
      obtain ⟨m, rfl⟩ : ∃ q, m = q + 1 := ⟨m - 1, by omega⟩
      rw [F_J7_fill_53178_k5, if_pos (nI_le (by omega) (by omega))]
      exact ⟨M1, rfl, h1, fun i hi => h2 i (by omega)⟩
    | succ d ih =>
      intro j m M1 hj hm h1 h2
      obtain ⟨m, rfl⟩ : ∃ q, m = q + 1 := ⟨m - 1, by omega⟩
      rw [F_J7_fill_53178_k5, if_neg (nI_ge (by omega) (by omega)), if_pos (ix_nI (by omega) (by decide)), nI_clamp (by omega), nI_1]
      refine ih (j + 1) m _ (by omega) (by omega) (fun k hk => by rw [up2_ne hk, h1 k hk]) (fun i hi => ?_)
      by_cases e : i = j
      · rw [e, up2_at]
      · rw [up2_b e]; exact h2 i (by omega)
  obtain ⟨M', a1, a2, a3⟩ := go 40 0 FU (up2 (up2 M b 1 x) b 2 n) (by omega) (by decide) (fun _ _ => rfl) (fun i hi => absurd hi (by omega))
  unfold F_X3_become F_J7_fill_53178
  replace a1 : F_J7_fill_53178_k5 (b + 1) 40 FU (up2 (up2 M b 1 x) b 2 n) L 0 0 (nI 40) = _ := a1
  rw [a1]
  exact ⟨M', rfl, by rw [a2 b (by omega), up2_b (by decide), up2_at], by rw [a2 b (by omega), up2_at], a3, fun k h1 h2 => by rw [a2 k h2, up2_ne h1, up2_ne h1]⟩
def s_sheet (σ : Sg) (s sort n : Int32) : Int32 × Sg :=
  if ix s 4 = true then (if sort < -1 then (-2, σ) else if sort ≤ 2 then (if sort = -1 then (1, uSh σ s.toNatClampNeg (-1, 0, fun _ => 0)) else if n ≤ 40 then (if 0 ≤ n then (1, uSh σ s.toNatClampNeg (sort, n.toNatClampNeg, fun _ => 0)) else (-14, σ)) else (-2, σ)) else (-2, σ)) else (-2, σ)
theorem sort_ix {x : Int32} (h1 : ¬ x < -1) (h2 : x ≤ 2) (h3 : ¬ x = -1) : ix x 3 = true := by
  rw [i_lt] at h1; rw [i_le] at h2; rw [i_eq] at h3
  rw [show (-1 : Int32).toInt = -1 from rfl] at h1 h3; rw [show (2 : Int32).toInt = 2 from rfl] at h2
  rw [ix_iff]; omega
theorem n40_ix {n : Int32} (h1 : n ≤ 40) (h2 : 0 ≤ n) : ∃ k, k ≤ 40 ∧ n = nI k := by
  rw [i_le] at h1 h2
  rw [show (40 : Int32).toInt = 40 from rfl] at h1; rw [show (0 : Int32).toInt = 0 from rfl] at h2
  exact ⟨n.toInt.toNat, by omega, by rw [i_eq, nI_toInt (by omega)]; omega⟩
theorem Ws_sheet {σ : Sg} (hS : WS σ) (s sort n : Int32) : WS (s_sheet σ s sort n).2 := by
  unfold s_sheet
  by_cases h1 : ix s 4 = true
  · rw [if_pos h1]
    by_cases h2 : sort < -1
    · rw [if_pos h2]; exact hS
    rw [if_neg h2]
    by_cases h3 : sort ≤ 2
    · rw [if_pos h3]
      by_cases h4 : sort = -1
      · rw [if_pos h4]; exact WS_sh hS (Or.inl rfl)
      rw [if_neg h4]
      by_cases h5 : n ≤ 40
      · rw [if_pos h5]
        by_cases h6 : 0 ≤ n
        · rw [if_pos h6]
          obtain ⟨k, hk, rfl⟩ := n40_ix h5 h6
          exact WS_sh hS (Or.inr ⟨sort_ix h2 h3 h4, by show (nI k).toNatClampNeg ≤ 40; rw [nI_clamp (by omega)]; exact hk⟩)
        · rw [if_neg h6]; exact hS
      · rw [if_neg h5]; exact hS
    · rw [if_neg h3]; exact hS
  · rw [if_neg h1]; exact hS
theorem X_sheet {E : Ev} {M : Mi} {L : Ml} {σ : Sg} (h : XI E M L σ) (s sort n : Int32) : ∃ M', F_X5_sheet M L s sort n = some ((s_sheet σ s sort n).1, M', L) ∧ XI E M' L (s_sheet σ s sort n).2 := by
  unfold F_X5_sheet s_sheet
  rw [X_sheetAt, Option.bind_some]
  by_cases h1 : ix s 4 = true
  · rw [if_pos h1, if_pos h1]
    obtain ⟨k, hk, rfl⟩ := ix_of h1 (by decide)
    rw [nI_clamp (show k < 2 ^ 31 by omega)]
    dsimp only
    rw [if_pos (shc_ok k hk)]
    by_cases h2 : sort < -1
    · rw [if_pos h2, if_pos h2]; exact ⟨M, rfl, h⟩
    rw [if_neg h2, if_neg h2]
    by_cases h3 : sort ≤ 2
    · rw [if_pos h3, if_pos h3]
      by_cases h4 : sort = -1
      · rw [if_pos h4, if_pos h4]
        obtain ⟨M1, a1, a2, a3, a4, a5⟩ := X_become3 (b := 28 + 2 * k) M L (-1) 0
        rw [a1]
        exact ⟨M1, rfl, h.sh hk ⟨a2, Or.inl rfl⟩ (fun i q1 q2 _ _ => a5 i q1 q2) (fun _ _ => rfl)⟩
      rw [if_neg h4, if_neg h4]
      by_cases h5 : n ≤ 40
      · rw [if_pos h5, if_pos h5]
        by_cases h6 : 0 ≤ n
        · rw [if_pos h6, if_pos h6]
          obtain ⟨q, hq, rfl⟩ := n40_ix h5 h6
          obtain ⟨M1, a1, a2, a3, a4, a5⟩ := X_become3 (b := 28 + 2 * k) M L sort (nI q)
          rw [a1]
          refine ⟨M1, rfl, h.sh hk ⟨a2, Or.inr ⟨?_, fun i hi => ?_⟩⟩ (fun i q1 q2 _ _ => a5 i q1 q2) (fun _ _ => rfl)⟩
          · rw [a3]; show nI q = nI (nI q).toNatClampNeg; rw [nI_clamp (by omega)]
          · replace hi : i < (nI q).toNatClampNeg := hi
            rw [nI_clamp (by omega)] at hi
            exact a4 i (by omega)
        · rw [if_neg h6, if_neg h6]; exact ⟨M, rfl, h⟩
      · rw [if_neg h5, if_neg h5]; exact ⟨M, rfl, h⟩
    · rw [if_neg h3, if_neg h3]; exact ⟨M, rfl, h⟩
  · rw [if_neg h1, if_neg h1]; exact ⟨M, rfl, h⟩
/-- the reference makes a row, or takes one away -/
theorem Y_mk {R : Mi} {S : Ml} {σ : Sg} (hS : WS σ) (h : YI R S σ) {k : Nat} (hk : k < 4) (sort n : Int32) (hm : sort = -1 ∨ (ix sort 3 = true ∧ ∃ q, q ≤ 40 ∧ n = nI q)) : ∃ R', F_X6_sheet_k45 R S (nI k) sort n = some (1, R', S) ∧ YI R' S (uSh σ k (if sort = -1 then (-1, 0, fun _ => 0) else (sort, n.toNatClampNeg, fun _ => 0))) := by
  have i4 := ix_nI hk (show 4 < 2 ^ 31 by decide)
  have upd : ∀ (R' : Mi) (h' : Sh), (∀ i, i ≠ 7 → i ≠ 8 → i ≠ 9 → i ≠ 10 → R' i = R i) → YSh R' k h' → (∀ t, t ≠ k → R' 7 t = R 7 t) → (∀ t, t ≠ k → R' 8 t = R 8 t) → (∀ t, t ≠ k → R' 9 t = R 9 t) → (∀ t, t < 4 → t ≠ k → ∀ i, i < 40 → R' 10 (40 * t + i) = R 10 (40 * t + i)) → YI R' S (uSh σ k h') := by
    intro R' h' ho hy g7 g8 g9 g10
    have e0 := ho 0 (by decide) (by decide) (by decide) (by decide)
    refine h.sh hS ?_ hy g7 g8 g9 g10 (fun i a b c d e f g => ho i d e f g) (fun j _ => by rw [e0]) (fun _ _ => rfl)
    have := h.1
    unfold YFl YP at *
    rw [e0, ho 4 (by decide) (by decide) (by decide) (by decide)]; exact this
  unfold F_X6_sheet_k45 F_X6_sheet_k59
  simp only [if_pos i4, nI_clamp (show k < 2 ^ 31 by omega)]
  rcases hm with rfl | ⟨h3, q, hq, rfl⟩
  · rw [if_pos (show (-1 : Int32) < 0 by decide), if_pos (show (-1 : Int32) = -1 from rfl)]
    have e : ∀ R1 : Mi, F_X6_sheet_k77 FU R1 S (nI k) (-1) n 0 = some (1, R1, S) := by
      intro R1
      rw [show FU = 999 + 1 from rfl, F_X6_sheet_k77, if_pos (show (-1 : Int32) < 0 by decide), ite_self]
    rw [e]
    refine ⟨_, rfl, upd _ _ (fun i a b c d => by rw [up2_ne c, up2_ne b, up2_ne a]) ⟨?_, Or.inl rfl⟩ (fun t ht => ?_) (fun t ht => ?_) (fun t ht => ?_) (fun t _ _ i _ => ?_)⟩
    · rw [up2_a (by decide), up2_a (by decide), up2_at]; rfl
    · rw [up2_a (by decide), up2_a (by decide), up2_b ht]
    · rw [up2_a (by decide), up2_b ht, up2_a (by decide)]
    · rw [up2_b ht, up2_a (by decide), up2_a (by decide)]
    · rw [up2_a (by decide), up2_a (by decide), up2_a (by decide)]
  · have hr := ix_r h3
    have hn0 : ¬ sort < 0 := by rw [i_lt, show (0 : Int32).toInt = 0 from rfl]; omega
    have hn1 : ¬ sort = -1 := by rw [i_eq, show (-1 : Int32).toInt = -1 from rfl]; omega
    rw [if_neg hn0, if_neg hn1, nI_clamp (show q < 2 ^ 31 by omega)]
    generalize hR0 : up2 (up2 (up2 R 7 k (vp_nar FieldType.boolean 1)) 8 k sort) 9 k (nI q) = R0
    have go : ∀ d j m R1, j + d = q → d < m → (∀ i, i ≠ 10 → R1 i = R0 i) → (∀ i, i < j → R1 10 (40 * k + i) = 0) → (∀ i, (i < 40 * k ∨ 40 * k + 40 ≤ i) → R1 10 i = R0 10 i) → ∃ R', F_X6_sheet_k77 m R1 S (nI k) sort (nI q) (nI j) = some (1, R', S) ∧ (∀ i, i ≠ 10 → R' i = R0 i) ∧ (∀ i, i < q → R' 10 (40 * k + i) = 0) ∧ ∀ i, (i < 40 * k ∨ 40 * k + 40 ≤ i) → R' 10 i = R0 10 i := by
      intro d
      induction d with
      | zero =>
        intro j m R1 hj hm h1 h2 h3
        obtain ⟨m, rfl⟩ : ∃ q, m = q + 1 := ⟨m - 1, by omega⟩
        rw [F_X6_sheet_k77, if_pos (nI_le (by omega) (by omega))]
        exact ⟨R1, rfl, h1, fun i hi => h2 i (by omega), h3⟩
      | succ d ih =>
        intro j m R1 hj hm h1 h2 h3
        obtain ⟨m, rfl⟩ : ∃ q, m = q + 1 := ⟨m - 1, by omega⟩
        have e40 : (40 : Int32) * nI k + nI j = nI (40 * k + j) := by rw [show (40 : Int32) = nI 40 from rfl, pk_mul, nI_add]
        rw [F_X6_sheet_k77, if_neg (nI_ge (by omega) (by omega)), if_neg hn0, e40, if_pos (ix_nI (by omega) (by decide)), nI_clamp (by omega), nI_1]
        refine ih (j + 1) m _ (by omega) (by omega) (fun i hi => by rw [up2_ne hi, h1 i hi]) (fun i hi => ?_) (fun i hi => by rw [up2_b (by omega)]; exact h3 i hi)
        by_cases e : i = j
        · rw [e, up2_at]
        · rw [up2_b (by omega)]; exact h2 i (by omega)
    obtain ⟨R', a1, a2, a3, a4⟩ := go q 0 FU R0 (by omega) (by unfold FU; omega) (fun _ _ => rfl) (fun i hi => absurd hi (by omega)) (fun _ _ => rfl)
    replace a1 : F_X6_sheet_k77 FU R0 S (nI k) sort (nI q) 0 = _ := a1
    rw [a1]
    refine ⟨R', rfl, upd _ _ (fun i a b c d => by rw [a2 i d, ← hR0, up2_ne c, up2_ne b, up2_ne a]) ⟨?_, Or.inr ⟨?_, ?_, fun i hi => a3 i hi⟩⟩ (fun t ht => ?_) (fun t ht => ?_) (fun t ht => ?_) (fun t h4 ht i hi => ?_)⟩
    · rw [a2 7 (by decide), ← hR0, up2_a (by decide), up2_a (by decide), up2_at, if_neg hn1]; rfl
    · rw [a2 8 (by decide), ← hR0, up2_a (by decide), up2_at]
    · rw [a2 9 (by decide), ← hR0, up2_at]
    · rw [a2 7 (by decide), ← hR0, up2_a (by decide), up2_a (by decide), up2_b ht]
    · rw [a2 8 (by decide), ← hR0, up2_a (by decide), up2_b ht, up2_a (by decide)]
    · rw [a2 9 (by decide), ← hR0, up2_b ht, up2_a (by decide), up2_a (by decide)]
    · rw [a4 (40 * t + i) (by omega), ← hR0, up2_a (by decide), up2_a (by decide), up2_a (by decide)]
theorem Y_sheet {R : Mi} {S : Ml} {σ : Sg} (hS : WS σ) (h : YI R S σ) (s sort n : Int32) : ∃ R', F_X6_sheet R S s sort n = some ((s_sheet σ s sort n).1, R', S) ∧ YI R' S (s_sheet σ s sort n).2 := by
  unfold F_X6_sheet F_X6_isSheet F_X6_sheet_k34 s_sheet
  rw [F_inN s 3 rfl, Option.bind_some, rz_zb, Option.bind_some, zb_if, F_in, Option.bind_some, zb_if, toL]
  by_cases h1 : ix s 4 = true
  · rw [if_pos h1, if_pos h1]
    obtain ⟨k, hk, rfl⟩ := ix_of h1 (by decide)
    rw [nI_clamp (show k < 2 ^ 31 by omega)]
    by_cases h2 : sort < -1
    · rw [if_pos h2, if_neg (show ¬ decide ((-1 : Int64).toInt ≤ sort.toInt ∧ sort.toInt ≤ (2 : Int64).toInt) = true by rw [decide_eq_true_iff, show (-1 : Int64).toInt = -1 from rfl]; rw [i_lt, show (-1 : Int32).toInt = -1 from rfl] at h2; omega)]; exact ⟨R, rfl, h⟩
    rw [if_neg h2]
    by_cases h3 : sort ≤ 2
    · rw [if_pos h3, if_pos (show decide ((-1 : Int64).toInt ≤ sort.toInt ∧ sort.toInt ≤ (2 : Int64).toInt) = true by rw [decide_eq_true_iff, show (-1 : Int64).toInt = -1 from rfl, show (2 : Int64).toInt = 2 from rfl]; rw [i_lt, show (-1 : Int32).toInt = -1 from rfl] at h2; rw [i_le, show (2 : Int32).toInt = 2 from rfl] at h3; omega)]
      by_cases h4 : sort = -1
      · obtain ⟨R1, a1, a2⟩ := Y_mk hS h hk sort n (Or.inl h4)
        rw [if_pos h4] at a2 ⊢
        have h0 : sort < 0 := by rw [h4]; decide
        rw [if_pos h0, if_pos h0, a1]; exact ⟨R1, rfl, a2⟩
      · have h0 : ¬ sort < 0 := by rw [i_lt, show (0 : Int32).toInt = 0 from rfl]; have := ix_r (sort_ix h2 h3 h4); omega
        rw [if_neg h4, if_neg h0, if_neg h0]
        by_cases h5 : n ≤ 40
        · rw [if_pos h5, if_pos h5]
          by_cases h6 : 0 ≤ n
          · rw [if_pos h6, if_pos h6]
            obtain ⟨R1, a1, a2⟩ := Y_mk hS h hk sort n (Or.inr ⟨sort_ix h2 h3 h4, n40_ix h5 h6⟩)
            rw [if_neg h4] at a2
            rw [a1]; exact ⟨R1, rfl, a2⟩
          · rw [if_neg h6, if_neg h6]; exact ⟨R, rfl, h⟩
        · rw [if_neg h5, if_neg h5]; exact ⟨R, rfl, h⟩
    · rw [if_neg h3, if_neg (show ¬ decide ((-1 : Int64).toInt ≤ sort.toInt ∧ sort.toInt ≤ (2 : Int64).toInt) = true by rw [decide_eq_true_iff, show (2 : Int64).toInt = 2 from rfl]; rw [i_le, show (2 : Int32).toInt = 2 from rfl] at h3; omega)]; exact ⟨R, rfl, h⟩
  · rw [if_neg h1, if_neg h1]; exact ⟨R, rfl, h⟩
