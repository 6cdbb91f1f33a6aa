/-! PURE: the class' reader does as the parser -/
/-- the reader stands well at p, with the code c0 written -/
def XS (f : Nat → Int32) (n p : Nat) (c0 : List Int32) (M : Mi) : Prop :=
  n ≤ 160 ∧ p ≤ n ∧ c0.length ≤ p ∧ M 25 = f ∧ M 24 2 = nI n ∧ M 24 3 = -1 ∧ M 24 4 = tc f n p ∧ M 24 5 = nI (ta f n p) ∧ M 24 6 = nI (te f n p) ∧ (tc f n p = 257 → M 24 7 = tv f n p) ∧ M 24 8 = nI c0.length ∧ ∀ i, i < c0.length → M 26 i = c0.getD i 0
/-- it has found the fault q -/
def XB (q n : Nat) (M : Mi) : Prop := q ≤ n ∧ n ≤ 160 ∧ M 24 3 = nI q ∧ M 24 4 = 258 ∧ ∃ w, w ≤ 160 ∧ M 24 8 = nI w
/-- what reading leaves -/
def XF (M M' : Mi) : Prop := (∀ k, k ≠ 24 → k ≠ 26 → M' k = M k) ∧ (∀ j, j < 3 ∨ 8 < j → M' 24 j = M 24 j)
theorem XF.rfl' (M : Mi) : XF M M := ⟨fun _ _ _ => rfl, fun _ _ => rfl⟩
theorem XF.trans {M M' M'' : Mi} (h : XF M M') (g : XF M' M'') : XF M M'' := ⟨fun k a b => (g.1 k a b).trans (h.1 k a b), fun j a => (g.2 j a).trans (h.2 j a)⟩
theorem XB.ne {q n : Nat} {M : Mi} (h : XB q n M) : M 24 3 ≠ -1 := by
  rw [h.2.2.1]; intro e
  have := congrArg Int32.toInt e
  rw [nI_toInt (by have := h.1; have := h.2.1; omega)] at this
  have h1 : (-1 : Int32).toInt = -1 := rfl
  omega
theorem X_advance {f : Nat → Int32} {n p : Nat} {c0 : List Int32} {M : Mi} (L : Ml) (h : XS f n p c0 M) : tc f n p ≠ 256 → ∃ M', F_X2_advance M L = some (M', L) ∧ XS f n (te f n p) c0 M' ∧ XF M M' := by
  intro hne
  obtain ⟨hn, hp, hc, h25, h2, h3, h4, h5, h6, h7, h8, h26⟩ := h
  obtain ⟨M', e1, t1, t2, t3, t4, t5, t6⟩ := F_advanceX f n (te f n p) hn M L h25 h2 h6 (te_n hp)
  have hg := te_go hp hne
  exact ⟨M', e1, ⟨hn, te_n hp, by omega, by rw [t1 25 (by decide)]; exact h25, by rw [t2 2 (by decide) (by decide) (by decide) (by decide)]; exact h2, by rw [t2 3 (by decide) (by decide) (by decide) (by decide)]; exact h3, t3, t4, t5, t6, by rw [t2 8 (by decide) (by decide) (by decide) (by decide)]; exact h8, by rw [t1 26 (by decide)]; exact h26⟩, ⟨fun k a _ => t1 k a, fun j a => t2 j (by omega) (by omega) (by omega) (by omega)⟩⟩
theorem X_refuse {f : Nat → Int32} {n p : Nat} {c0 : List Int32} {M : Mi} (L : Ml) (h : XS f n p c0 M) : ∃ M', F_X2_refuse M L = some (M', L) ∧ XB (ta f n p) n M' ∧ XF M M' := by
  obtain ⟨hn, hp, hc, h25, h2, h3, h4, h5, h6, h7, h8, h26⟩ := h
  unfold F_X2_refuse
  rw [if_pos h3]
  refine ⟨_, rfl, ⟨ta_n hp, hn, ?_, ?_, c0.length, by omega, ?_⟩, ?_, ?_⟩
  · simp [up2, h5]
  · simp [up2]
  · simp [up2, h8]
  · intro k a b; funext j; simp [up2, a]
  · intro j a; have : j ≠ 3 := by omega
    have : j ≠ 4 := by omega
    simp [up2, *]
theorem XB.tok {q n : Nat} {M : Mi} (h : XB q n M) : M 24 4 = 258 := h.2.2.2.1
theorem X_refuseB {q n : Nat} {M : Mi} (L : Ml) (h : XB q n M) : F_X2_refuse M L = some (M, L) := by
  unfold F_X2_refuse
  rw [if_neg h.ne, up2_id h.tok]
theorem X_needB {q n : Nat} {M : Mi} (L : Ml) (h : XB q n M) {x : Int32} (hx : x ≠ 258) : F_X2_need M L x = some (M, L) := by
  unfold F_X2_need
  rw [if_neg (by rw [h.tok]; exact fun e => hx e.symm), X_refuseB L h]; rfl
theorem X_write {f : Nat → Int32} {n p : Nat} {c0 : List Int32} {M : Mi} (L : Ml) (h : XS f n p c0 M) (hc : c0.length < p) (x : Int32) : ∃ M', F_X2_write M L x = some (M', L) ∧ XS f n p (c0 ++ [x]) M' ∧ XF M M' := by
  obtain ⟨hn, hp, hcp, h25, h2, h3, h4, h5, h6, h7, h8, h26⟩ := h
  unfold F_X2_write
  rw [h8, if_neg (show ¬ (160 : Int32) ≤ nI c0.length from nI_ge (b := 160) (by omega) (by omega)), if_pos (ix_nI (by omega) (by decide)), nI_clamp (by omega)]
  refine ⟨_, rfl, ⟨hn, hp, by simp; omega, ?_, ?_, ?_, ?_, ?_, ?_, ?_, ?_, ?_⟩, ?_, ?_⟩
  · rw [up2_ne (by decide), up2_ne (by decide)]; exact h25
  · rw [up2_b (by decide), up2_a (by decide)]; exact h2
  · rw [up2_b (by decide), up2_a (by decide)]; exact h3
  · rw [up2_b (by decide), up2_a (by decide)]; exact h4
  · rw [up2_b (by decide), up2_a (by decide)]; exact h5
  · rw [up2_b (by decide), up2_a (by decide)]; exact h6
  · intro e; rw [up2_b (by decide), up2_a (by decide)]; exact h7 e
  · rw [up2_at, up2_a (by decide), h8, nI_1]; simp
  · intro i hi
    rw [up2_a (by decide)]
    simp only [List.length_append, List.length_cons, List.length_nil] at hi
    by_cases e : i = c0.length
    · subst e; rw [up2_at]; simp
    · rw [up2_b e, h26 i (by omega)]
      simp only [List.getD_eq_getElem?_getD]
      rw [List.getElem?_append_left (by omega)]
  · intro k a b; funext j; simp [up2, a, b]
  · intro j a; have : j ≠ 8 := by omega
    simp [up2, *]
theorem X_writeB {q n : Nat} {M : Mi} (L : Ml) (h : XB q n M) (x : Int32) : ∃ M', F_X2_write M L x = some (M', L) ∧ XB q n M' ∧ XF M M' := by
  obtain ⟨hq, hn, h3, h4, w, hw, h8⟩ := h
  unfold F_X2_write
  by_cases hc : w < 160
  · rw [h8, if_neg (show ¬ (160 : Int32) ≤ nI w from nI_ge (b := 160) (by omega) (by omega)), if_pos (ix_nI (by omega) (by decide)), nI_clamp (by omega)]
    refine ⟨_, rfl, ⟨hq, hn, ?_, ?_, w + 1, by omega, ?_⟩, ?_, ?_⟩
    · rw [up2_b (by decide), up2_a (by decide)]; exact h3
    · rw [up2_b (by decide), up2_a (by decide)]; exact h4
    · rw [up2_at, up2_a (by decide), h8, nI_1]
    · intro k a b; funext j; simp [up2, a, b]
    · intro j a; have : j ≠ 8 := by omega
      simp [up2, *]
  · rw [h8, if_pos (show (160 : Int32) ≤ nI w from nI_le (a := 160) (by omega) (by omega))]
    exact ⟨M, rfl, ⟨hq, hn, h3, h4, w, hw, h8⟩, XF.rfl' M⟩
/-- a reading does as the parser says, from a good reader; a reader with a fault it leaves so -/
def XD (f : Nat → Int32) (n : Nat) (g : Mi → Ml → Option (Mi × Ml)) (r : Nat → PR) : Prop :=
  (∀ p c0 M L, XS f n p c0 M → ∃ M', g M L = some (M', L) ∧ XF M M' ∧ match r p with
    | .inl q => XB q n M'
    | .inr x => XS f n x.1 (c0 ++ x.2) M') ∧
  ∀ q M L, XB q n M → ∃ M', g M L = some (M', L) ∧ XB q n M' ∧ XF M M'
/-- a loop of a reading -/
def XL (f : Nat → Int32) (n : Nat) (op : Int32 → Option Int32) (sub : Mi → Ml → Option (Mi × Ml)) (g : Nat → Mi → Ml → Int32 → Option (Mi × Ml)) : Prop :=
  ∀ m M L x, g (m + 1) M L x = if (160 : Int32) ≤ x then some (M, L) else match op (M 24 4) with
    | none => some (M, L)
    | some o => (F_X2_advance M L).bind fun r => (sub r.1 r.2).bind fun r => (F_X2_write r.1 r.2 o).bind fun r => g m r.1 r.2 (x + 1)
theorem XL_B {f : Nat → Int32} {n : Nat} {op : Int32 → Option Int32} {sub : Mi → Ml → Option (Mi × Ml)} {g : Nat → Mi → Ml → Int32 → Option (Mi × Ml)} (hl : XL f n op sub g) (ho : op 258 = none) (m : Nat) (M : Mi) (L : Ml) (x : Int32) {q : Nat} (h : XB q n M) : g (m + 1) M L x = some (M, L) := by
  rw [hl, h.tok, ho]; split <;> rfl
theorem XL_S {f : Nat → Int32} {n : Nat} {op : Int32 → Option Int32} {sub : Mi → Ml → Option (Mi × Ml)} {g : Nat → Mi → Ml → Int32 → Option (Mi × Ml)} {r : Nat → PR} (hl : XL f n op sub g) (ho : op 256 = none) (hob : op 258 = none) (hs : XD f n sub r) (hr : ∀ p, p ≤ n → PP n (r p) p) :
    ∀ (m p k : Nat) (c0 c : List Int32) (M : Mi) (L : Ml), XS f n p (c0 ++ c) M → k ≤ p → n - p < m → ∃ M', g m M L (nI k) = some (M', L) ∧ XF M M' ∧ match chn f n op r m p c with
      | .inl q => XB q n M'
      | .inr x => XS f n x.1 (c0 ++ x.2) M' := by
  intro m
  induction m with
  | zero => intro p k c0 c M L h hk hm; omega
  | succ m ih =>
    intro p k c0 c M L h hk hm
    rw [hl, chn, h.2.2.2.2.2.2.1]
    by_cases h160 : (160 : Int32) ≤ nI k
    · have : 160 ≤ k := by
        rw [i_le, nI_toInt (by have := h.1; have := h.2.1; omega)] at h160
        have h1 : (160 : Int32).toInt = 160 := rfl
        omega
      rw [if_pos h160, tc_end (by have := h.1; omega) h.2.1, ho]
      exact ⟨M, rfl, XF.rfl' M, h⟩
    · rw [if_neg h160]
      cases e : op (tc f n p) with
      | none => exact ⟨M, rfl, XF.rfl' M, h⟩
      | some o =>
        have hne : tc f n p ≠ 256 := fun q => by rw [q, ho] at e; cases e
        have hg := te_go h.2.1 hne
        obtain ⟨M1, a1, a2, a3⟩ := X_advance L h hne
        obtain ⟨M2, b1, b2, b3⟩ := hs.1 _ _ M1 L a2
        have hpp := hr (te f n p) (te_n h.2.1)
        simp only [a1, b1, Option.bind_some]
        cases er : r (te f n p) with
        | inl q =>
          rw [er] at b3
          obtain ⟨M3, c1, c2, c3⟩ := X_writeB L b3 o
          obtain ⟨m', rfl⟩ : ∃ m', m = m' + 1 := ⟨m - 1, by have := te_n (f := f) h.2.1; omega⟩
          rw [c1, Option.bind_some, XL_B hl hob m' M3 L _ c2]
          exact ⟨M3, rfl, (a3.trans b2).trans c3, c2⟩
        | inr x =>
          rw [er] at b3 hpp
          obtain ⟨g1, g2, g3⟩ := hpp
          have hcl := h.2.2.1
          obtain ⟨M3, c1, c2, c3⟩ := X_write L b3 (by simp only [List.length_append] at hcl ⊢; omega) o
          rw [c1, Option.bind_some, nI_1]
          obtain ⟨M4, d1, d2, d3⟩ := ih x.1 (k + 1) c0 (c ++ x.2 ++ [o]) M3 L (by simpa only [List.append_assoc] using c2) (by omega) (by omega)
          exact ⟨M4, d1, ((a3.trans b2).trans c3).trans d2, d3⟩
theorem XD_chn {f : Nat → Int32} {n : Nat} {op : Int32 → Option Int32} {sub : Mi → Ml → Option (Mi × Ml)} {g : Nat → Mi → Ml → Int32 → Option (Mi × Ml)} {r : Nat → PR} (hl : XL f n op sub g) (ho : op 256 = none) (hob : op 258 = none) (hs : XD f n sub r) (hr : ∀ p, p ≤ n → PP n (r p) p) {r0 : Nat → PR} {first : Mi → Ml → Option (Mi × Ml)} (h0 : XD f n first r0) (hr0 : ∀ p, p ≤ n → PP n (r0 p) p) :
    XD f n (fun M L => (first M L).bind fun x => g FU x.1 x.2 0) (fun p => pbd (r0 p) fun p c => chn f n op r FU p c) := by
  refine ⟨fun p c0 M L h => ?_, fun q M L h => ?_⟩
  · obtain ⟨M1, a1, a2, a3⟩ := h0.1 p c0 M L h
    have hpp := hr0 p h.2.1
    simp only [a1, Option.bind_some]
    cases er : r0 p with
    | inl q =>
      rw [er] at a3
      rw [show FU = 999 + 1 from rfl, XL_B hl hob 999 M1 L 0 a3]
      exact ⟨M1, rfl, a2, a3⟩
    | inr x =>
      rw [er] at a3 hpp
      obtain ⟨M2, b1, b2, b3⟩ := XL_S hl ho hob hs hr FU x.1 0 c0 x.2 M1 L a3 (Nat.zero_le _) (by have := h.1; unfold FU; omega)
      exact ⟨M2, b1, a2.trans b2, b3⟩
  · obtain ⟨M1, a1, a2, a3⟩ := h0.2 q M L h
    simp only [a1, Option.bind_some]
    rw [show FU = 999 + 1 from rfl, XL_B hl hob 999 M1 L 0 a2]
    exact ⟨M1, rfl, a2, a3⟩
