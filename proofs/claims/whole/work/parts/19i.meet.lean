/-! PURE: what a text says of a party: class -/
def nmX (b : Nat) (M : Mi) (L : Ml) (p : Nat) (x : Int32) : Int32 := if x = -5 then M b 2 else if x = -4 then M (b + 2) p else if x = -3 then M (b + 3) p / 8 else if x = -2 then irm (M (b + 3) p) 8 else if x = -1 then M (b + 4) p else nI (pcn 64 (vN (L b 1)))
theorem F_namedX (b : Nat) (M : Mi) (L : Ml) {p : Nat} (hp : p < 5) (x : Int32) : F_X0_named b M L x (nI p) = some (nmX b M L p x) := by
  unfold F_X0_named nmX
  rw [if_pos (ix_nI hp (by decide)), if_pos (ix_nI hp (by decide)), if_pos (ix_nI hp (by decide)), if_pos (ix_nI hp (by decide)), nI_clamp (by omega), F_bitCount]
  by_cases h5 : x = -5
  · rw [if_pos h5, if_pos h5]
  rw [if_neg h5, if_neg h5]
  by_cases h4 : x = -4
  · rw [if_pos h4, if_pos h4]
  rw [if_neg h4, if_neg h4]
  by_cases h3 : x = -3
  · rw [if_pos h3, if_pos h3]
  rw [if_neg h3, if_neg h3]
  by_cases h2 : x = -2
  · rw [if_pos h2, if_pos h2]
  rw [if_neg h2, if_neg h2]
  by_cases h1 : x = -1
  · rw [if_pos h1, if_pos h1]
  rw [if_neg h1, if_neg h1]; rfl
/-- the class' text t holds the code c, whose parts end at e1, e2 -/
def TX (E : Ev) (M : Mi) (t : Nat) (c : List Int32) (e1 e2 : Nat) : Prop :=
  28 ≤ t ∧ tlen E t = c.length ∧ c.length ≤ 160 ∧ M t 1 = nI e1 ∧ M t 2 = nI e2 ∧ e1 ≤ e2 ∧ e2 ≤ c.length ∧ ∀ i, i < c.length → M (t + 1) i = c.getD i 0
theorem seg_len {c : List Int32} {a b : Nat} (h : b ≤ c.length) : (seg c a b).length = b - a := by
  unfold seg; rw [List.length_take, List.length_drop]; omega
theorem seg_get {c : List Int32} {a b i : Nat} (hi : i < b - a) : (seg c a b).getD i 0 = c.getD (a + i) 0 := by
  unfold seg
  simp only [List.getD_eq_getElem?_getD]
  rw [List.getElem?_take_of_lt hi, List.getElem?_drop]
theorem C_value (E : Ev) (b : Nat) (hb : b + 4 < 21) (M : Mi) (L : Ml) {p r T t w : Nat} {c : List Int32} {e1 e2 : Nat} {v : Int32} (hp : p < 5) (hw : w < 3) (h4 : M b 4 = nI r) (h2 : M 21 2 = nI T) (hr : r < T) (hT : T ≤ 6) (ht : E.2.2 22 r = some t) (hx : TX E M t c e1 e2)
    (hv : VV (nmX b M L p) (seg c (segA (nI w) e1 e2) (segB (nI w) e1 e2 c.length)) 31 v) : ∃ M', F_X1_value E b M L (nI p) (nI w) = some (v, M', L) ∧ ∀ k, k ≠ 23 → M' k = M k := by
  obtain ⟨t28, x1, x2, x3, x4, x5, x6, x7⟩ := hx
  unfold F_X1_value
  rw [h4, h2, F_isWithinP _ (by omega), ix_nI hr (by omega), Option.bind_some, zb_if, if_pos rfl, if_pos (ix_nI (by omega) (by decide)), nI_clamp (by omega), ht]
  have go : ∀ a e, a ≤ e → e ≤ c.length → VV (nmX b M L p) (seg c a e) 31 v → ∃ M', F_X1_value_k57 E b FU M L (nI p) t (nI e) 0 (nI a) = some (v, M', L) ∧ ∀ k, k ≠ 23 → M' k = M k := by
    intro a e hae hec hvv
    obtain ⟨M', q1, q2, q3⟩ := ev_loop E b t (by omega) L (nI p) (nmX b M L p) M e (by omega) (by omega) (fun M1 hM1 x _ _ => by
      rw [F_namedX b M1 L hp]
      unfold nmX
      rw [hM1 b (by omega), hM1 (b + 2) (by omega), hM1 (b + 3) (by omega), hM1 (b + 4) (by omega)]) (seg c a e) [] [v] a FU M (fun _ _ => rfl) (fun i hi => by
      rw [seg_len hec] at hi
      rw [seg_get hi]; exact x7 _ (by omega)) trivial (by simp) (hvv [] (by simp)) (by rw [seg_len hec]; unfold FU; omega) (by rw [seg_len hec]; omega)
    refine ⟨M', ?_, q2⟩
    rw [show (0 : Int32) = nI ([] : List Int32).length from rfl, q1]
    rw [show M' 23 0 = v from q3.1]
  unfold F_X4_end F_X4_start
  dsimp only
  rcases (show w = 0 ∨ w = 1 ∨ w = 2 by omega) with rfl | rfl | rfl
  · rw [if_pos (show nI 0 = 0 from rfl), if_pos (show nI 0 = 0 from rfl), x3]
    exact go 0 e1 (Nat.zero_le _) (by omega) hv
  · rw [if_neg (show ¬ nI 1 = 0 by decide), if_neg (show ¬ nI 1 = 0 by decide), if_pos (show nI 1 = 1 from rfl), if_pos (show nI 1 = 1 from rfl), x3, x4]
    exact go e1 e2 x5 x6 hv
  · rw [if_neg (show ¬ nI 2 = 0 by decide), if_neg (show ¬ nI 2 = 0 by decide), if_neg (show ¬ nI 2 = 1 by decide), if_neg (show ¬ nI 2 = 1 by decide), x4, x1]
    exact go e2 c.length x6 (Nat.le_refl _) hv
