/-! PURE: text: the reference; what a text makes of the state -/
def sEmp (σ : Sg) : Sg := (uA σ, uK σ, (uT σ, uX σ), (0, uP σ), uS σ)
def sAdd (σ : Sg) (C : Cd) : Sg := (uA σ, uK σ, (uT σ + 1, fun r => if r = uT σ then C else uX σ r), (0, uP σ), uS σ)
def s_text (σ : Sg) : Int32 × Sg := if uT σ = 6 then (-4, σ) else match ptext (uP σ) (uN σ) with
  | .inl q => (-100 - nI q, sEmp σ)
  | .inr C => (nI (uT σ), sAdd σ C)
theorem WS_emp {σ : Sg} (hS : WS σ) : WS (sEmp σ) := ⟨hS.1, hS.2.1, hS.2.2.1, Nat.zero_le _, fun i hi => absurd hi (Nat.not_lt_zero i), hS.2.2.2.2.2⟩
theorem WS_add {σ : Sg} (hS : WS σ) (C : Cd) : WS (sAdd σ C) :=
  ⟨⟨hS.1.1, Nat.lt_succ_of_lt hS.1.2.1, hS.1.2.2⟩, hS.2.1, fun k hk => ⟨⟨(hS.2.2.1 k hk).1.1, Nat.lt_succ_of_lt (hS.2.2.1 k hk).1.2.1, (hS.2.2.1 k hk).1.2.2⟩, (hS.2.2.1 k hk).2⟩, Nat.zero_le _, fun i hi => absurd hi (Nat.not_lt_zero i), hS.2.2.2.2.2⟩
theorem Ws_text {σ : Sg} (hS : WS σ) : WS (s_text σ).2 := by
  unfold s_text
  by_cases h : uT σ = 6
  · rw [if_pos h]; exact hS
  · rw [if_neg h]
    cases ptext (uP σ) (uN σ) with
    | inl q => exact WS_emp hS
    | inr C => exact WS_add hS C
/-- what a text may change of the reference -/
theorem YI.txt {R R' : Mi} {S S' : Ml} {σ : Sg} {T : Nat} {X : Nat → Cd} (h : YI R S σ) (hT : YT R' T X) (h6 : R' 0 6 = 0) (hR : ∀ k, k ≠ 0 → k ≠ 1 → k ≠ 2 → R' k = R k) (h0 : ∀ j, (j < 13 ∨ 27 < j) → j ≠ 3 → j ≠ 6 → R' 0 j = R 0 j) (hSS : ∀ j, j ≠ 24 → S' 0 j = S 0 j) : YI R' S' (uA σ, uK σ, (T, X), (0, uP σ), uS σ) := by
  obtain ⟨a, b, c, d, e, f⟩ := h
  refine ⟨?_, ?_, hT, ⟨h6, fun i hi => absurd hi (Nat.not_lt_zero i)⟩, fun s hs => ?_, by rw [h0 12 (by decide) (by decide) (by decide)]; exact f⟩
  · show YFl R' S' (uA σ)
    unfold YFl YP at *
    rw [hSS 8 (by decide), hSS 9 (by decide), h0 7 (by decide) (by decide) (by decide), h0 11 (by decide) (by decide) (by decide), h0 4 (by decide) (by decide) (by decide), hR 4 (by decide) (by decide) (by decide)]; exact a
  · show YKp R' S' (uK σ)
    cases hk : uK σ with
    | none => rw [hk] at b; show R' 0 32 = -1; rw [h0 32 (by decide) (by decide) (by decide)]; exact b
    | some k => rw [hk] at b; unfold YKp at *; rw [h0 32 (by decide) (by decide) (by decide), h0 33 (by decide) (by decide) (by decide), h0 34 (by decide) (by decide) (by decide), hSS 35 (by decide), hSS 36 (by decide), hR 6 (by decide) (by decide) (by decide)]; exact b
  · show YSh R' s (uS σ s)
    have := e s hs
    unfold YSh at *
    rw [hR 7 (by decide) (by decide) (by decide), hR 8 (by decide) (by decide) (by decide), hR 9 (by decide) (by decide) (by decide), hR 10 (by decide) (by decide) (by decide)]; exact this
theorem Y_text_cp {R : Mi} {S : Ml} {T n : Nat} {f : Nat → Int32} (hT : T < 6) (hn : n ≤ 160) (h3 : R 0 3 = nI T) (h6 : R 0 6 = nI n) (hf : ∀ i, i < n → R 3 i = f i) :
    ∀ d j m R1, j + d = n → d < m → (∀ k, k ≠ 1 → R1 k = R k) → (∀ i, i < j → R1 1 (160 * T + i) = f i) → (∀ i, (i < 160 * T ∨ 160 * T + 160 ≤ i) → R1 1 i = R 1 i) → ∃ m' R2, F_X6_text_k14 m R1 S (nI j) = F_X6_text_k14 (m' + 1) R2 S (nI n) ∧ (∀ k, k ≠ 1 → R2 k = R k) ∧ (∀ i, i < n → R2 1 (160 * T + i) = f i) ∧ ∀ i, (i < 160 * T ∨ 160 * T + 160 ≤ i) → R2 1 i = R 1 i := by
  intro d
  induction d with
  | zero =>
    intro j m R1 hj hm h1 h2 h4
    obtain ⟨m, rfl⟩ : ∃ q, m = q + 1 := ⟨m - 1, by omega⟩
    have : j = n := by omega
    subst this
    exact ⟨m, R1, rfl, h1, h2, h4⟩
  | succ d ih =>
    intro j m R1 hj hm h1 h2 h4
    obtain ⟨m, rfl⟩ : ∃ q, m = q + 1 := ⟨m - 1, by omega⟩
    have e : (160 : Int32) * nI T + nI j = nI (160 * T + j) := by rw [show (160 : Int32) = nI 160 from rfl, pk_mul, nI_add]
    rw [F_X6_text_k14, h1 0 (by decide), h6, h3, if_neg (nI_ge (by omega) (by omega)), e, if_pos (ix_nI (by omega) (by decide)), if_pos (ix_nI (by omega) (by decide)), nI_clamp (show 160 * T + j < 2 ^ 31 by omega), nI_clamp (show j < 2 ^ 31 by omega), nI_1, h1 3 (by decide), hf j (by omega)]
    refine ih (j + 1) m _ (by omega) (by omega) (fun k hk => by rw [up2_ne hk, h1 k hk]) (fun i hi => ?_) (fun i hi => by rw [up2_b (by omega)]; exact h4 i hi)
    by_cases q : i = j
    · rw [q, up2_at]
    · rw [up2_b (by omega)]; exact h2 i (by omega)
theorem TY.one {R R' : Mi} {r n : Nat} {f : Nat → Int32} {c : List Int32} {e1 e2 : Nat} (h : TY R r f n c e1 e2) (h1 : ∀ i, i < 160 → R' 1 (160 * r + i) = R 1 (160 * r + i)) (h2 : R' 2 r = R 2 r) : TY R' r f n c e1 e2 :=
  ⟨h.1, by rw [h2]; exact h.2.1, fun i hi => by rw [h1 i (by have := h.1; omega)]; exact h.2.2.1 i hi, h.2.2.2.1, h.2.2.2.2⟩
theorem Y_text {R : Mi} {S : Ml} {σ : Sg} (hS : WS σ) (h : YI R S σ) : ∃ R' S', F_X6_text R S = some ((s_text σ).1, R', S') ∧ YI R' S' (s_text σ).2 := by
  have hT := h.2.2.1.2.1
  have h3 := h.2.2.1.1
  have h6 := h.2.2.2.1.1
  have hN := hS.2.2.2.1
  unfold F_X6_text s_text
  rw [h3]
  by_cases e6 : uT σ = 6
  · rw [if_pos e6, if_pos (show nI (uT σ) = 6 by rw [e6]; rfl)]; exact ⟨R, S, rfl, h⟩
  · rw [if_neg e6, if_neg (show ¬ nI (uT σ) = 6 from fun q => e6 ((nI_eq (b := 6) (by omega) (by decide)).mp q))]
    obtain ⟨m', R2, a1, a2, a3, a4⟩ := Y_text_cp (S := S) (show uT σ < 6 by omega) hN h3 h6 h.2.2.2.1.2 (uN σ) 0 FU R (by omega) (by unfold FU; omega) (fun _ _ => rfl) (fun i hi => absurd hi (Nat.not_lt_zero i)) (fun _ _ => rfl)
    replace a1 : F_X6_text_k14 FU R S 0 = _ := a1
    rw [a1, F_X6_text_k14, a2 0 (by decide), h6, h3, if_pos (nI_le (Nat.le_refl _) (by omega)), if_pos (ix_nI (show uT σ < 6 by omega) (by decide)), nI_clamp (show uT σ < 2 ^ 31 by omega)]
    generalize hQ : up2 (up2 R2 2 (uT σ) (nI (uN σ))) 0 6 0 = Q
    have q3 : Q 0 3 = nI (uT σ) := by rw [← hQ, up2_b (by decide), up2_a (by decide), a2 0 (by decide)]; exact h3
    have q1 : Q 1 = R2 1 := by rw [← hQ, up2_ne (by decide), up2_ne (by decide)]
    have qk : ∀ k, k ≠ 0 → k ≠ 1 → k ≠ 2 → Q k = R k := fun k b c d => by rw [← hQ, up2_ne b, up2_ne d, a2 k c]
    have q0 : ∀ j, j ≠ 6 → Q 0 j = R 0 j := fun j hj => by rw [← hQ, up2_b hj, up2_a (by decide), a2 0 (by decide)]
    have q6 : Q 0 6 = 0 := by rw [← hQ, up2_at]
    have q2 : Q 2 (uT σ) = nI (uN σ) := by rw [← hQ, up2_a (by decide), up2_at]
    have q2o : ∀ r, r ≠ uT σ → Q 2 r = R 2 r := fun r hr => by rw [← hQ, up2_a (by decide), up2_b hr, a2 2 (by decide)]
    have hpos : ∀ i, i < uN σ → 0 ≤ (uP σ i).toInt := fun i hi => (ix_r (hS.2.2.2.2.1 i hi)).1
    obtain ⟨v, R3, S3, b1, b2, b3⟩ := R_read (f := uP σ) (n := uN σ) (r := uT σ) (M := Q) S (by omega) hN q2 (fun i hi => by rw [q1]; exact a3 i hi) hpos 0
    rw [q3, b1, Option.bind_some]
    have k3 : R3 0 3 = nI (uT σ) := by rw [b2.2.1 3 (by decide) (by decide) (by decide) (by decide) (by decide) (by decide) (by decide) (by decide)]; exact q3
    have old : ∀ r, r < uT σ → ∀ f n c e1 e2, TY R r f n c e1 e2 → TY R3 r f n c e1 e2 := fun r hr f n c e1 e2 g => by
      refine g.one (fun i hi => ?_) ?_
      · rw [b2.1 1 (by decide), q1]; exact a4 _ (by omega)
      · rw [b2.1 2 (by decide)]; exact q2o r (by omega)
    have rk : ∀ k, k ≠ 0 → k ≠ 1 → k ≠ 2 → R3 k = R k := fun k a b c => (b2.1 k a).trans (qk k a b c)
    have r0 : ∀ j, (j < 13 ∨ 27 < j) → j ≠ 6 → R3 0 j = R 0 j := fun j hj h6 => (b2.2.1 j (by omega) (by omega) (by omega) (by omega) (by omega) (by omega) (by omega) (by omega)).trans (q0 j h6)
    have r6 : R3 0 6 = 0 := by rw [b2.2.1 6 (by decide) (by decide) (by decide) (by decide) (by decide) (by decide) (by decide) (by decide)]; exact q6
    dsimp only
    cases hp : ptext (uP σ) (uN σ) with
    | inl q =>
      rw [hp] at b3
      rw [if_neg (by rw [b3.1]; decide), b3.2]
      exact ⟨R3, S3, rfl, h.txt (T := uT σ) (X := uX σ) ⟨k3, hT, fun r hr => by obtain ⟨f, n, g⟩ := h.2.2.1.2.2 r hr; exact ⟨f, n, old r hr f n _ _ _ g⟩⟩ r6 rk (fun j hj _ h6 => r0 j hj h6) (fun j hj => b2.2.2 0 j (Or.inr hj))⟩
    | inr C =>
      rw [hp] at b3
      rw [if_pos b3.1, k3, up2_at, nI_1, nI_pred]
      refine ⟨_, S3, rfl, h.txt (T := uT σ + 1) (X := fun r => if r = uT σ then C else uX σ r) ⟨up2_at _ _ _ _, by omega, fun r hr => ?_⟩ (by rw [up2_b (by decide)]; exact r6) (fun k a b c => by rw [up2_ne a]; exact rk k a b c) (fun j hj h3 h6 => by rw [up2_b h3]; exact r0 j hj h6) (fun j hj => b2.2.2 0 j (Or.inr hj))⟩
      dsimp only
      by_cases er : r = uT σ
      · rw [if_pos er, er]
        refine ⟨uP σ, uN σ, hN, ?_, fun i hi => ?_, hpos, hp⟩
        · rw [up2_a (by decide), b2.1 2 (by decide)]; exact q2
        · rw [up2_a (by decide), b2.1 1 (by decide), q1]; exact a3 i hi
      · rw [if_neg er]
        obtain ⟨f, n, g⟩ := h.2.2.1.2.2 r (by omega)
        exact ⟨f, n, (old r (by omega) f n _ _ _ g).one (fun i _ => up2_a (by decide)) (up2_a (by decide))⟩
/-! the class: a text more, none more -/
theorem XI.emp {E : Ev} {M M' : Mi} {L L' : Ml} {σ : Sg} (h : XI E M L σ) (h24 : M' 24 2 = 0) (h25 : M' 25 = M 25) (hM : ∀ k, k ≠ 23 → k ≠ 24 → k ≠ 26 → (k < 6 ∨ 15 < k) → M' k = M k) (hL : ∀ k, (k < 6 ∨ 15 < k) → L' k = L k) : XI E M' L' (sEmp σ) := by
  obtain ⟨a, b, c, d, e⟩ := h
  refine ⟨a.keep (hM _ (by decide) (by decide) (by decide) (by decide)) (hM _ (by decide) (by decide) (by decide) (by decide)) (hM _ (by decide) (by decide) (by decide) (by decide)) (hM _ (by decide) (by decide) (by decide) (by decide)) (hM _ (by decide) (by decide) (by decide) (by decide)) (hL _ (by decide)), ?_, c.keep (by rw [hM 21 (by decide) (by decide) (by decide) (by decide)]) (fun k hk => hM k (by omega) (by omega) (by omega) (by omega)), ⟨h24, by rw [h25]; exact d.2⟩, fun s hs => (e s hs).keep (hM _ (by omega) (by omega) (by omega) (by omega)) (hM _ (by omega) (by omega) (by omega) (by omega))⟩
  show XKp M' L' (uK σ)
  cases hk : uK σ with
  | none => rw [hk] at b; show M' 0 7 = 0; rw [hM 0 (by decide) (by decide) (by decide) (by decide)]; exact b
  | some k => rw [hk] at b; exact ⟨by rw [hM 0 (by decide) (by decide) (by decide) (by decide)]; exact b.1, b.2.keep (hM _ (by decide) (by decide) (by decide) (by decide)) (hM _ (by decide) (by decide) (by decide) (by decide)) (hM _ (by decide) (by decide) (by decide) (by decide)) (hM _ (by decide) (by decide) (by decide) (by decide)) (hM _ (by decide) (by decide) (by decide) (by decide)) (hL _ (by decide))⟩
theorem XI.add {E E' : Ev} {M M' : Mi} {L L' : Ml} {σ : Sg} {C : Cd} {t : Nat} (h : XI E M L σ) (hT6 : uT σ < 6) (hC : TV C) (ht : 36 ≤ t) (h24 : M' 24 2 = 0) (h25 : M' 25 = M 25) (h21 : M' 21 2 = nI (uT σ + 1)) (hx : TX E' M' t C.1 C.2.1 C.2.2) (he : E'.2.2 22 (uT σ) = some t) (heo : ∀ r, r < uT σ → E'.2.2 22 r = E.2.2 22 r)
    (hold : ∀ r q, r < uT σ → E.2.2 22 r = some q → tlen E' q = tlen E q ∧ M' q = M q ∧ M' (q + 1) = M (q + 1)) (hM : ∀ k, k ≠ 21 → k ≠ 23 → k ≠ 24 → k ≠ 26 → k < 36 → (k < 6 ∨ 15 < k) → M' k = M k) (hL : ∀ k, k < 36 → (k < 6 ∨ 15 < k) → L' k = L k) : XI E' M' L' (sAdd σ C) := by
  obtain ⟨a, b, c, d, e⟩ := h
  refine ⟨a.keep (hM _ (by decide) (by decide) (by decide) (by decide) (by decide) (by decide)) (hM _ (by decide) (by decide) (by decide) (by decide) (by decide) (by decide)) (hM _ (by decide) (by decide) (by decide) (by decide) (by decide) (by decide)) (hM _ (by decide) (by decide) (by decide) (by decide) (by decide) (by decide)) (hM _ (by decide) (by decide) (by decide) (by decide) (by decide) (by decide)) (hL _ (by decide) (by decide)), ?_, ⟨h21, hT6, fun r hr => ?_⟩, ⟨h24, by rw [h25]; exact d.2⟩, fun s hs => (e s hs).keep (hM _ (by omega) (by omega) (by omega) (by omega) (by omega) (by omega)) (hM _ (by omega) (by omega) (by omega) (by omega) (by omega) (by omega))⟩
  · show XKp M' L' (uK σ)
    cases hk : uK σ with
    | none => rw [hk] at b; show M' 0 7 = 0; rw [hM 0 (by decide) (by decide) (by decide) (by decide) (by decide) (by decide)]; exact b
    | some k => rw [hk] at b; exact ⟨by rw [hM 0 (by decide) (by decide) (by decide) (by decide) (by decide) (by decide)]; exact b.1, b.2.keep (hM _ (by decide) (by decide) (by decide) (by decide) (by decide) (by decide)) (hM _ (by decide) (by decide) (by decide) (by decide) (by decide) (by decide)) (hM _ (by decide) (by decide) (by decide) (by decide) (by decide) (by decide)) (hM _ (by decide) (by decide) (by decide) (by decide) (by decide) (by decide)) (hM _ (by decide) (by decide) (by decide) (by decide) (by decide) (by decide)) (hL _ (by decide) (by decide))⟩
  · show TV (if r = uT σ then C else uX σ r) ∧ ∃ t, E'.2.2 22 r = some t ∧ 36 ≤ t ∧ TX E' M' t (if r = uT σ then C else uX σ r).1 (if r = uT σ then C else uX σ r).2.1 (if r = uT σ then C else uX σ r).2.2
    replace hr : r < uT σ + 1 := hr
    by_cases er : r = uT σ
    · rw [if_pos er, er]; exact ⟨hC, t, he, ht, hx⟩
    · rw [if_neg er]
      obtain ⟨v1, q, v2, v3, v4⟩ := c.2.2 r (by omega)
      obtain ⟨w1, w2, w3⟩ := hold r q (by omega) v2
      exact ⟨v1, q, (heo r (by omega)).trans v2, v3, v4.1, w1.trans v4.2.1, v4.2.2.1, by rw [w2]; exact v4.2.2.2.1, by rw [w2]; exact v4.2.2.2.2.1, v4.2.2.2.2.2.1, v4.2.2.2.2.2.2.1, by rw [w3]; exact v4.2.2.2.2.2.2.2⟩
