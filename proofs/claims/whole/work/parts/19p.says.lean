/-! PURE: both say the same of a party -/
theorem VV.one {ρ : Int32 → Int32} {c : List Int32} {v v' : Int32} (h : VV ρ c 31 v) (h' : VV ρ c 31 v') : v = v' := by
  have := (h [] (by simp)).symm.trans (h' [] (by simp))
  simpa using this
theorem TY.keep {M M' : Mi} {r n : Nat} {f : Nat → Int32} {c : List Int32} {e1 e2 : Nat} (h : TY M r f n c e1 e2) (h1 : M' 1 = M 1) (h2 : M' 2 = M 2) : TY M' r f n c e1 e2 :=
  ⟨h.1, by rw [h2]; exact h.2.1, by rw [h1]; exact h.2.2.1, h.2.2.2.1, h.2.2.2.2⟩
theorem nmR_RH {M M' : Mi} {L L' : Ml} (h : RH M M' L L') (p : Nat) : nmR M' L' p = nmR M L p := by
  funext x; unfold nmR
  rw [h.1 4 (by decide), h.2.1 7 (by decide), h.2.2.2 0 9 (Or.inr (by decide))]
theorem CR_of {R : Mi} {S : Ml} {p r n : Nat} {f : Nat → Int32} {c : List Int32} {e1 e2 : Nat} (hp : p < 5) (h4 : R 0 4 = nI r) (hr : r < 6) (hy : TY R r f n c e1 e2) :
    ∃ v0 v1 v2, CR R S p v0 v1 v2 ∧ VV (nmR R S p) (seg c (segA (nI 0) e1 e2) (segB (nI 0) e1 e2 c.length)) 31 v0 ∧ VV (nmR R S p) (seg c (segA (nI 1) e1 e2) (segB (nI 1) e1 e2 c.length)) 31 v1 ∧ VV (nmR R S p) (seg c (segA (nI 2) e1 e2) (segB (nI 2) e1 e2 c.length)) 31 v2 := by
  obtain ⟨v0, _, _, _, _, V0⟩ := R_says R S hp (show 0 < 3 by decide) h4 hr hy
  obtain ⟨v1, _, _, _, _, V1⟩ := R_says R S hp (show 1 < 3 by decide) h4 hr hy
  obtain ⟨v2, _, _, _, _, V2⟩ := R_says R S hp (show 2 < 3 by decide) h4 hr hy
  refine ⟨v0, v1, v2, fun M1 L1 h1 => ?_, V0, V1, V2⟩
  have h4' : M1 0 4 = nI r := (h1.2.1 4 (by decide)).trans h4
  have hy' := hy.keep (h1.1 1 (by decide)) (h1.1 2 (by decide))
  obtain ⟨u0, A0, B0, a0, b0, W0⟩ := R_says M1 L1 hp (show 0 < 3 by decide) h4' hr hy'
  obtain ⟨u1, A1, B1, a1, b1, W1⟩ := R_says M1 L1 hp (show 1 < 3 by decide) h4' hr hy'
  obtain ⟨u2, A2, B2, a2, b2, W2⟩ := R_says M1 L1 hp (show 2 < 3 by decide) h4' hr hy'
  rw [nmR_RH h1] at W0 W1 W2
  rw [W0.one V0] at a0
  rw [W1.one V1] at a1
  rw [W2.one V2] at a2
  exact ⟨⟨A0, B0, a0, b0⟩, ⟨A1, B1, a1, b1⟩, ⟨A2, B2, a2, b2⟩⟩
theorem TX.keep {E : Ev} {M M' : Mi} {t : Nat} {c : List Int32} {e1 e2 : Nat} (h : TX E M t c e1 e2) (hk : ∀ k, 28 ≤ k → M' k = M k) : TX E M' t c e1 e2 :=
  ⟨h.1, h.2.1, h.2.2.1, by rw [hk t h.1]; exact h.2.2.2.1, by rw [hk t h.1]; exact h.2.2.2.2.1, h.2.2.2.2.2.1, h.2.2.2.2.2.2.1, by rw [hk (t + 1) (by have := h.1; omega)]; exact h.2.2.2.2.2.2.2⟩
theorem CS_of {E : Ev} {b : Nat} (hb : b + 4 < 21) {M : Mi} {L : Ml} {p r T t : Nat} {c : List Int32} {e1 e2 : Nat} {v0 v1 v2 : Int32} (hp : p < 5) (h4 : M b 4 = nI r) (h2 : M 21 2 = nI T) (hr : r < T) (hT : T ≤ 6) (ht : E.2.2 22 r = some t) (hx : TX E M t c e1 e2)
    (V0 : VV (nmX b M L p) (seg c (segA (nI 0) e1 e2) (segB (nI 0) e1 e2 c.length)) 31 v0) (V1 : VV (nmX b M L p) (seg c (segA (nI 1) e1 e2) (segB (nI 1) e1 e2 c.length)) 31 v1) (V2 : VV (nmX b M L p) (seg c (segA (nI 2) e1 e2) (segB (nI 2) e1 e2 c.length)) 31 v2) : CS E b M L p v0 v1 v2 := by
  intro M1 h1
  have en : nmX b M1 L p = nmX b M L p := by
    funext x; unfold nmX
    rw [h1 b (by omega), h1 (b + 2) (by omega), h1 (b + 3) (by omega), h1 (b + 4) (by omega)]
  have h4' : M1 b 4 = nI r := by rw [h1 b (by omega)]; exact h4
  have h2' : M1 21 2 = nI T := by rw [h1 21 (by decide)]; exact h2
  have hx' := hx.keep (M' := M1) (fun k hk => h1 k (by omega))
  rw [← en] at V0 V1 V2
  obtain ⟨A0, a0, b0⟩ := C_value E b hb M1 L hp (show 0 < 3 by decide) h4' h2' hr hT ht hx' V0
  obtain ⟨A1, a1, b1⟩ := C_value E b hb M1 L hp (show 1 < 3 by decide) h4' h2' hr hT ht hx' V1
  obtain ⟨A2, a2, b2⟩ := C_value E b hb M1 L hp (show 2 < 3 by decide) h4' h2' hr hT ht hx' V2
  exact ⟨⟨A0, a0, fun k hk => (b0 k hk).trans (h1 k hk)⟩, ⟨A1, a1, fun k hk => (b1 k hk).trans (h1 k hk)⟩, ⟨A2, a2, fun k hk => (b2 k hk).trans (h1 k hk)⟩⟩
