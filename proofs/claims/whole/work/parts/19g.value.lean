/-! PURE: the class' value of a text's part is what the code does -/
def SK : List Int32 → (Nat → Int32) → Prop
  | [], _ => True
  | x :: s, g => g s.length = x ∧ SK s g
theorem SK_upd {g g' : Nat → Int32} : ∀ {s : List Int32}, SK s g → (∀ j, j < s.length → g' j = g j) → SK s g'
  | [], _, _ => trivial
  | x :: s, h, hg => ⟨(hg s.length (by simp)).trans h.1, SK_upd h.2 (fun j hj => hg j (by simp; omega))⟩
theorem nI_s1 (a : Nat) : nI (a + 1) + (-1 : Int32) = nI a := by
  rw [← nI_1, Int32.add_assoc, show (1 : Int32) + -1 = 0 by decide, Int32.add_zero]
theorem nI_m (a : Nat) : nI (a + 1) - (1 : Int32) = nI a := by
  have : nI (a + 1) - nI 1 = nI (a + 1 - 1) := pk_sub (by omega)
  rw [Nat.add_sub_cancel] at this
  exact this
theorem ev_loop (E : Ev) (c1 y4 : Nat) (hy : y4 + 1 ≠ 23) (L : Ml) (x2 : Int32) (ρ : Int32 → Int32) (M0 : Mi) (e : Nat) (he : e ≤ tlen E y4) (ht : tlen E y4 < 2 ^ 30)
    (hρ : ∀ M : Mi, (∀ k, k ≠ 23 → M k = M0 k) → ∀ x : Int32, x < 0 → ¬ x < -6 → F_X0_named c1 M L x x2 = some (ρ x)) :
    ∀ (c st st' : List Int32) (k m : Nat) (M : Mi), (∀ k, k ≠ 23 → M k = M0 k) → (∀ i, i < c.length → M0 (y4 + 1) (k + i) = c.getD i 0) → SK st (M 23) → st.length ≤ 40 → rnn ρ c st = some st' → c.length < m → k + c.length = e →
      ∃ M', F_X1_value_k57 E c1 m M L x2 y4 (nI e) (nI st.length) (nI k) = some (M' 23 0, M', L) ∧ (∀ k, k ≠ 23 → M' k = M0 k) ∧ SK st' (M' 23) := by
  intro c
  induction c with
  | nil =>
    intro st st' k m M hM hc hst hl hr hm hk
    obtain ⟨m, rfl⟩ : ∃ q, m = q + 1 := ⟨m - 1, by omega⟩
    simp only [rnn, Option.some.injEq] at hr
    subst hr
    rw [F_X1_value_k57, if_pos (nI_le (by simp at hk; omega) (by omega)), if_pos (by decide)]
    exact ⟨M, rfl, hM, hst⟩
  | cons o c ih =>
    intro st st' k m M hM hc hst hl hr hm hk
    simp only [List.length_cons] at hm hk
    obtain ⟨m, rfl⟩ : ∃ q, m = q + 1 := ⟨m - 1, by omega⟩
    have hk1 : k < e := by omega
    have hcode : M (y4 + 1) (Int32.toNatClampNeg (nI k)) = o := by
      rw [nI_clamp (by omega), hM _ hy]
      have := hc 0 (by simp)
      simpa using this
    have hc' : ∀ i, i < c.length → M0 (y4 + 1) (k + 1 + i) = c.getD i 0 := by
      intro i hi
      have := hc (i + 1) (by simp; omega)
      rw [show k + 1 + i = k + (i + 1) by omega, this]; simp
    rw [F_X1_value_k57, if_neg (nI_ge hk1 (by omega)), if_pos (ix_nI (by omega) (by omega)), hcode]
    simp only [rnn] at hr
    have upd : ∀ (s : List Int32) (j : Nat) (v : Int32), SK s (M 23) → s.length = j → (∀ q, q ≠ 23 → up2 M 23 j v q = M0 q) ∧ SK (v :: s) (up2 M 23 j v 23) := by
      intro s j v hs hj
      refine ⟨fun q hq => by rw [up2_ne hq]; exact hM q hq, ⟨by rw [hj]; exact up2_at _ _ _ _, SK_upd hs (fun i hi => up2_b (by omega))⟩⟩
    by_cases h6 : o < -6
    · rw [if_pos h6]
      by_cases h8 : o < -8
      · rw [if_pos h8]
        match st, hst, hl with
        | [], _, _ => exfalso; unfold stp at hr; rw [if_pos h6, if_pos h8] at hr; cases hr
        | [_], _, _ => exfalso; unfold stp at hr; rw [if_pos h6, if_pos h8] at hr; cases hr
        | y :: x :: s, hst, hl =>
          have hr' : rnn ρ c (bin o x y :: s) = some st' := by
            unfold stp at hr; rw [if_pos h6, if_pos h8] at hr; exact hr
          simp only [List.length_cons] at hl
          have h1 := hst.1
          have h2 := hst.2.1
          simp only [List.length_cons] at h1
          rw [show (y :: x :: s).length = s.length + 1 + 1 from rfl, nI_s1, nI_m, if_neg (show ¬ nI (s.length + 1 + 1) < 2 from nI_nlt (b := 2) (by omega) (by omega)), if_pos (ix_nI (by omega) (by decide)), if_pos (ix_nI (by omega) (by decide)), nI_clamp (by omega), nI_clamp (by omega), h1, h2, F_joined, Option.bind_some, if_pos (ix_nI (by omega) (by decide))]
          unfold F_X1_value_k219
          obtain ⟨u1, u2⟩ := upd s s.length (bin o x y) hst.2.2 rfl
          rw [nI_1]
          exact ih _ st' (k + 1) m _ u1 hc' u2 (by simp; omega) hr' (by omega) (by omega)
      · rw [if_neg h8]
        match st, hst, hl with
        | [], _, _ => exfalso; unfold stp at hr; rw [if_pos h6, if_neg h8] at hr; cases hr
        | x :: s, hst, hl =>
          have hr' : rnn ρ c (un o x :: s) = some st' := by
            unfold stp at hr; rw [if_pos h6, if_neg h8] at hr; exact hr
          simp only [List.length_cons] at hl
          have h1 := hst.1
          obtain ⟨u1, u2⟩ := upd s s.length (un o x) hst.2 rfl
          have fin := ih _ st' (k + 1) m _ u1 hc' u2 (by simp; omega) hr' (by omega) (by omega)
          rw [show (x :: s).length = s.length + 1 from rfl, if_neg (show ¬ nI (s.length + 1) < 1 from nI_nlt (b := 1) (by omega) (by omega)), nI_m, nI_clamp (by omega), h1]
          rw [show (un o x :: s).length = s.length + 1 from rfl] at fin
          unfold F_X1_value_k176 F_X1_value_k219
          simp only [if_pos (ix_nI (show s.length < 40 by omega) (by decide)), nI_clamp (show s.length < 2 ^ 31 by omega), nI_1]
          by_cases e8 : o = -8
          · rw [if_pos e8]
            rw [e8, un8] at fin; exact fin
          · rw [if_neg e8]
            unfold un at fin
            rw [if_neg e8] at fin
            by_cases e0 : x = 0
            · rw [if_pos e0]; rw [if_pos e0] at fin; exact fin
            · rw [if_neg e0]; rw [if_neg e0] at fin; exact fin
    · rw [if_neg h6]
      unfold stp at hr
      rw [if_neg h6] at hr
      by_cases h40 : 40 ≤ st.length
      · rw [if_pos h40] at hr; cases hr
      · rw [if_neg h40] at hr
        replace hr : rnn ρ c ((if o < 0 then ρ o else o) :: st) = some st' := hr
        obtain ⟨u1, u2⟩ := upd st st.length (if o < 0 then ρ o else o) hst rfl
        have fin := ih _ st' (k + 1) m _ u1 hc' u2 (by simp; omega) hr (by omega) (by omega)
        rw [if_neg (show ¬ (40 : Int32) ≤ nI st.length from nI_ge (b := 40) (by omega) (by omega))]
        unfold F_X1_value_k111 F_X1_value_k219
        rw [List.length_cons] at fin
        simp only [if_pos (ix_nI (show st.length < 40 by omega) (by decide)), nI_clamp (show st.length < 2 ^ 31 by omega), nI_1]
        by_cases h0 : o < 0
        · rw [if_pos h0, hρ M hM o h0 h6, Option.bind_some]
          rw [if_pos h0] at fin; exact fin
        · rw [if_neg h0]
          rw [if_neg h0] at fin; exact fin
