/-! PURE: tells, the reference -/
theorem aSet_aSet (A : Af) (p w : Nat) (v v' : Int32) : aSet (aSet A p w v) p w v' = aSet A p w v' := by
  unfold aSet
  have : upQ (upQ (aQ A) p (ptset w v)) p (ptset w v') = upQ (aQ A) p (ptset w v') := by
    funext j
    unfold upQ
    by_cases e : j = p
    · rw [if_pos e, if_pos e, if_pos e]
      unfold ptset
      by_cases h3 : w = 3
      · rw [if_pos h3, if_pos h3, if_pos h3]
      rw [if_neg h3, if_neg h3, if_neg h3]
      by_cases h4 : w = 4
      · rw [if_pos h4, if_pos h4, if_pos h4]
      rw [if_neg h4, if_neg h4, if_neg h4]
      by_cases h5 : w = 5
      · rw [if_pos h5, if_pos h5, if_pos h5]
      rw [if_neg h5, if_neg h5, if_neg h5]
    · rw [if_neg e, if_neg e, if_neg e]
  show (aR A, aH A, aM A, aP A, aU A, upQ (upQ (aQ A) p (ptset w v)) p (ptset w v')) = _
  rw [this]
def fldw (w : Nat) (q : Pt) : Int32 := if w = 3 then q.2.1 else if w = 4 then q.2.2.1 else if w = 5 then q.2.2.2 else q.1
theorem aSet_back (A : Af) (p w : Nat) : aSet A p w (fldw w (aQ A p)) = A := by
  unfold aSet
  have : upQ (aQ A) p (ptset w (fldw w (aQ A p))) = aQ A := by
    funext j
    unfold upQ
    by_cases e : j = p
    · rw [if_pos e, e]
      unfold ptset fldw
      by_cases h3 : w = 3
      · rw [if_pos h3, if_pos h3]
      rw [if_neg h3, if_neg h3]
      by_cases h4 : w = 4
      · rw [if_pos h4, if_pos h4]
      rw [if_neg h4, if_neg h4]
      by_cases h5 : w = 5
      · rw [if_pos h5, if_pos h5]
      rw [if_neg h5, if_neg h5]
    · rw [if_neg e]
  rw [this]
theorem aVar_var (p w : Nat) (A : Af) (v v' : Nat) : aVar p w (aVar p w A v) v' = aVar p w A v' := by
  unfold aVar
  by_cases h : w = 7
  · rw [if_pos h, if_pos h, if_pos h]; rfl
  · rw [if_neg h, if_neg h, if_neg h]; exact aSet_aSet A p w _ _
theorem Y_lays {R : Mi} {S : Ml} {σ : Sg} {B : Af} {p w v : Nat} (h : YI R S (B, σ.2)) (hp : p < 5) (hw : w = 3 ∨ w = 5 ∨ w = 6 ∨ w = 7) : ∃ R', F_X6_lays R S (nI w) (nI p) (nI v) = some (R', S) ∧ YI R' S (aVar p w B v, σ.2) := by
  unfold F_X6_lays
  have put : ∀ w, (w = 3 ∨ w = 5 ∨ w = 6) → ∃ R', (if ix (4 * nI p + nI w - 3) 20 = true then some (up2 R 4 (4 * nI p + nI w - 3).toNatClampNeg (nI v), S) else none) = some (R', S) ∧ YI R' S (aSet B p w (nI v), σ.2) := by
    intro w hw
    have e : 4 * nI p + nI w - 3 = nI (4 * p + w - 3) := by rw [i4p, nI_add]; exact pk_sub (a := 4 * p + w) (b := 3) (by omega)
    rw [e, if_pos (ix_nI (by omega) (by decide)), nI_clamp (by omega)]
    exact ⟨_, rfl, h.now (YFl_set h.1 (by omega)) (fun k _ hk _ => up2_ne hk) (fun j _ => up2_a (by decide)) (fun _ _ => rfl)⟩
  unfold aVar
  rcases hw with rfl | rfl | rfl | rfl
  · rw [if_neg (show ¬ nI 3 = 0 by decide), if_neg (show ¬ nI 3 = 1 by decide), if_neg (show ¬ nI 3 = 2 by decide), if_neg (show ¬ (7 : Int32) ≤ nI 3 by decide), if_neg (show ¬ (3 : Nat) = 7 by decide)]
    exact put 3 (by decide)
  · rw [if_neg (show ¬ nI 5 = 0 by decide), if_neg (show ¬ nI 5 = 1 by decide), if_neg (show ¬ nI 5 = 2 by decide), if_neg (show ¬ (7 : Int32) ≤ nI 5 by decide), if_neg (show ¬ (5 : Nat) = 7 by decide)]
    exact put 5 (by decide)
  · rw [if_neg (show ¬ nI 6 = 0 by decide), if_neg (show ¬ nI 6 = 1 by decide), if_neg (show ¬ nI 6 = 2 by decide), if_neg (show ¬ (7 : Int32) ≤ nI 6 by decide), if_neg (show ¬ (6 : Nat) = 7 by decide)]
    exact put 6 (by decide)
  · rw [if_neg (show ¬ nI 7 = 0 by decide), if_neg (show ¬ nI 7 = 1 by decide), if_neg (show ¬ nI 7 = 2 by decide), if_pos (show (7 : Int32) ≤ nI 7 by decide), if_pos (show (7 : Nat) = 7 from rfl)]
    exact ⟨_, rfl, h.now (YFl_rul h.1 v) (fun k hk _ _ => up2_ne hk) (fun j hj => up2_b (by omega)) (fun _ _ => rfl)⟩
def selW (what : Int32) (t : Int32 × Int32 × Int32) : Int32 := if what = 3 then t.2.1 else if what = 4 then t.2.2 else t.1
theorem Y_tells_k {σ : Sg} (hS : WS σ) {s p size w bf N : Nat} {it : Nat → Int32} {what : Int32} (hs : s < 4) (hz : size ≤ 40) (hp : p < aP (uA σ)) (hw : (w = 3 ∧ N ≤ 10) ∨ (w = 5 ∧ N ≤ 100) ∨ (w = 6 ∧ N ≤ 6) ∨ (w = 7 ∧ N ≤ uT σ)) (hT : uT σ ≤ 6) (hb : aVar p w (uA σ) bf = uA σ)
    (hsh : ∀ R S B, YI R S (B, σ.2) → R 9 s = nI size ∧ ∀ i, i < size → R 10 (40 * s + i) = it i) :
    ∀ d m R S B t, d ≤ N → d < m → YI R S (B, σ.2) → (∀ v, aVar p w B v = aVar p w (uA σ) v) → ∃ R' S', F_X6_tells_k195 m R S (nI s) (nI p) what (nI w) (nI bf) t.1 t.2.1 t.2.2 (nI d + (-1)) = some (selW what (dsG (gdB (uX σ) (uA σ) p w it size) d t), R', S') ∧ YI R' S' σ := by
  have hP := hS.1.1
  have hw4 : w = 3 ∨ w = 5 ∨ w = 6 ∨ w = 7 := by rcases hw with ⟨e, _⟩ | ⟨e, _⟩ | ⟨e, _⟩ | ⟨e, _⟩ <;> simp [e]
  intro d
  induction d with
  | zero =>
    intro m R S B t hd hm hX hB
    obtain ⟨m, rfl⟩ : ∃ q, m = q + 1 := ⟨m - 1, by omega⟩
    obtain ⟨R1, a1, a2⟩ := Y_lays (v := bf) hX (show p < 5 by omega) hw4
    rw [hB bf, hb] at a2
    rw [F_X6_tells_k195, if_pos (show nI 0 + (-1) < 0 by decide), a1]
    simp only [Option.bind_some]
    unfold selW
    by_cases e3 : what = 3
    · rw [if_pos e3, if_pos e3]; exact ⟨R1, S, rfl, a2⟩
    rw [if_neg e3, if_neg e3]
    by_cases e4 : what = 4
    · rw [if_pos e4, if_pos e4]; exact ⟨R1, S, rfl, a2⟩
    rw [if_neg e4, if_neg e4]; exact ⟨R1, S, rfl, a2⟩
  | succ d ih =>
    intro m R S B t hd hm hX hB
    obtain ⟨m, rfl⟩ : ∃ q, m = q + 1 := ⟨m - 1, by omega⟩
    have hd2 : d < 100 := by rcases hw with ⟨_, q⟩ | ⟨_, q⟩ | ⟨_, q⟩ | ⟨_, q⟩ <;> omega
    have W := wfA_var (p := p) (w := w) (v := d) hS.1 (by rcases hw with ⟨e, q⟩ | ⟨e, q⟩ | ⟨e, q⟩ | ⟨e, q⟩ <;> simp [e] <;> omega)
    obtain ⟨R1, a1, a2⟩ := Y_lays (v := d) hX (show p < 5 by omega) hw4
    rw [hB d] at a2
    obtain ⟨g1, g2⟩ := hsh _ _ _ a2
    obtain ⟨R2, S2, b1, b2⟩ := Y_first (σ := (aVar p w (uA σ) d, σ.2)) W.1 (by show aM (aVar p w (uA σ) d) ≤ 999; rw [W.2.1]; exact hS.2.1) hs hz a2 (by show p < aP (aVar p w (uA σ) d); rw [W.2.2]; exact hp) g1 g2
    replace b1 : F_X6_firstOther R1 S (nI s) (nI p) = some (fst1 (uX σ) (aVar p w (uA σ) d) p it size, R2, S2) := b1
    rw [F_X6_tells_k195, pk_m1, if_neg (nI_pos (by omega)), a1]
    simp only [Option.bind_some]
    rw [b1]
    simp only [Option.bind_some]
    unfold F_X6_tells_k236 F_X6_tells_k246
    rw [dsG]
    unfold gdB
    by_cases e : fst1 (uX σ) (aVar p w (uA σ) d) p it size = -1
    · rw [if_pos e, if_pos (decide_eq_true e)]
      by_cases h10 : d < 10
      · rw [if_neg (show ¬ (10 : Int32) ≤ nI d from nI_ge (b := 10) h10 (by decide)), if_pos h10]
        exact ih m R2 S2 _ (t.1 ||| ishl 1 (nI d), t.2.1 + 1, nI d) (by omega) (by omega) b2 (fun v => aVar_var p w (uA σ) d v)
      · rw [if_pos (show (10 : Int32) ≤ nI d from nI_le (a := 10) (by omega) (by omega)), if_neg h10]
        exact ih m R2 S2 _ (t.1 ||| 0, t.2.1 + 1, nI d) (by omega) (by omega) b2 (fun v => aVar_var p w (uA σ) d v)
    · rw [if_neg e, if_neg (by rw [decide_eq_true_iff]; exact e)]
      exact ih m R2 S2 _ t (by omega) (by omega) b2 (fun v => aVar_var p w (uA σ) d v)
theorem Y_like {σ : Sg} (hS : WS σ) {s size : Nat} {it : Nat → Int32} (hs : s < 4) (hz : size ≤ 40)
    (hsh : ∀ R S, YI R S σ → R 9 s = nI size ∧ ∀ i, i < size → R 10 (40 * s + i) = it i) :
    ∀ d v m R S x, v + d = aP (uA σ) → d < m → YI R S σ → ∃ R' S', F_X6_likeSet_k4 m R S (nI s) x (nI v) = some (fo (upB (fun v => decide (fst1 (uX σ) (uA σ) v it size = -1))) d v x, R', S') ∧ YI R' S' σ := by
  have hP := hS.1.1
  intro d
  induction d with
  | zero =>
    intro v m R S x hv hm hX
    obtain ⟨m, rfl⟩ : ∃ q, m = q + 1 := ⟨m - 1, by omega⟩
    rw [F_X6_likeSet_k4, hX.1.2.2.2.1, if_pos (nI_le (by omega) (by omega))]
    exact ⟨R, S, rfl, hX⟩
  | succ d ih =>
    intro v m R S x hv hm hX
    obtain ⟨m, rfl⟩ : ∃ q, m = q + 1 := ⟨m - 1, by omega⟩
    obtain ⟨g1, g2⟩ := hsh _ _ hX
    obtain ⟨R2, S2, b1, b2⟩ := Y_first hS.1 hS.2.1 hs hz hX (show v < aP (uA σ) by omega) g1 g2
    rw [F_X6_likeSet_k4, hX.1.2.2.2.1, if_neg (nI_ge (by omega) (by omega)), b1]
    simp only [Option.bind_some]
    unfold F_X6_likeSet_k28
    rw [nI_1]
    have es : fo (upB (fun v => decide (fst1 (uX σ) (uA σ) v it size = -1))) (d + 1) v x = fo (upB (fun v => decide (fst1 (uX σ) (uA σ) v it size = -1))) d (v + 1) (upB (fun v => decide (fst1 (uX σ) (uA σ) v it size = -1)) v x) := rfl
    rw [es]
    unfold upB
    by_cases e : fst1 (uX σ) (uA σ) v it size = -1
    · rw [if_pos e, if_pos (decide_eq_true e)]; exact ih (v + 1) m R2 S2 _ (by omega) (by omega) b2
    · rw [if_neg e, if_neg (by rw [decide_eq_true_iff]; exact e), ishl0 v (by omega), ior_comm, ior_0]; exact ih (v + 1) m R2 S2 _ (by omega) (by omega) b2
theorem tld_w {C : Cd} {A : Af} {p w : Nat} (hp : p < aP A) (hP : aP A ≤ 5) (hw : w = 3 ∨ w = 5 ∨ w = 6) : tld C A (nI p) (nI w) = fldw w (aQ A p) := by
  unfold tld ptl fldw
  rcases hw with rfl | rfl | rfl
  · rw [if_neg (show ¬ nI 3 = 0 by decide), if_neg (show ¬ (nI 3 = 1 ∨ nI 3 = 2 ∨ nI 3 = 11) by decide), if_pos (ix_nI hp (by omega)), if_pos (show nI 3 = 3 from rfl), nI_clamp (by omega)]; rfl
  · rw [if_neg (show ¬ nI 5 = 0 by decide), if_neg (show ¬ (nI 5 = 1 ∨ nI 5 = 2 ∨ nI 5 = 11) by decide), if_pos (ix_nI hp (by omega)), if_neg (show ¬ nI 5 = 3 by decide), if_neg (show ¬ nI 5 = 4 by decide), if_pos (show nI 5 = 5 from rfl), nI_clamp (by omega)]; rfl
  · rw [if_neg (show ¬ nI 6 = 0 by decide), if_neg (show ¬ (nI 6 = 1 ∨ nI 6 = 2 ∨ nI 6 = 11) by decide), if_pos (ix_nI hp (by omega)), if_neg (show ¬ nI 6 = 3 by decide), if_neg (show ¬ nI 6 = 4 by decide), if_neg (show ¬ nI 6 = 5 by decide), if_pos (show nI 6 = 6 from rfl), nI_clamp (by omega)]; rfl
theorem fldw_nI {q : Pt} (h : wfp q) {w : Nat} (hw : w = 3 ∨ w = 5 ∨ w = 6) : fldw w q = nI (fldw w q).toNatClampNeg := by
  rcases hw with rfl | rfl | rfl
  · exact (ix_self h.2.1 (by decide)).1
  · exact (ix_self h.2.2.2 (by decide)).1
  · exact (ix_self h.1 (by decide)).1
theorem Y_tellsP {σ : Sg} (hS : WS σ) {R : Mi} {S : Ml} {s p size w N : Nat} {it : Nat → Int32} {what : Int32} (hs : s < 4) (hz : size ≤ 40) (hp : p < aP (uA σ)) (hX : YI R S σ) (hw : (w = 3 ∧ N = 10) ∨ (w = 5 ∧ N = 100) ∨ (w = 6 ∧ N = 6)) (hsh : ∀ R S B, YI R S (B, σ.2) → R 9 s = nI size ∧ ∀ i, i < size → R 10 (40 * s + i) = it i) :
    ∃ R' S', F_X6_tells_k115 R S (nI s) (nI p) what (nI w) = some (selW what (dsG (gdB (uX σ) (uA σ) p w it size) N (0, 0, -1)), R', S') ∧ YI R' S' σ := by
  have hP := hS.1.1
  have hT := hX.2.2.1.2.1
  have hw3 : w = 3 ∨ w = 5 ∨ w = 6 := by rcases hw with ⟨e, _⟩ | ⟨e, _⟩ | ⟨e, _⟩ <;> simp [e]
  obtain ⟨R1, S1, a1, a2⟩ := Y_told (S := S) hS.1 hX.2.2.1 hX.1 (nI p) (nI w)
  have I1 := hX.rh a2
  rw [tld_w hp hP hw3, fldw_nI (hS.1.2.2 p hp) hw3] at a1
  have hb : aVar p w (uA σ) (fldw w (aQ (uA σ) p)).toNatClampNeg = uA σ := by
    unfold aVar
    rw [if_neg (show ¬ w = 7 by omega), ← fldw_nI (hS.1.2.2 p hp) hw3]
    exact aSet_back (uA σ) p w
  obtain ⟨R2, S2, b1, b2⟩ := Y_tells_k (N := N) (what := what) hS hs hz hp (by omega) hT hb hsh N FU R1 S1 (uA σ) (0, 0, -1) (Nat.le_refl _) (by unfold FU; omega) I1 (fun _ => rfl)
  unfold F_X6_tells_k115 F_X6_tells_k138 F_X6_tells_k180
  have n7 : ¬ nI w = 7 := by rcases hw3 with rfl | rfl | rfl <;> decide
  rw [if_neg n7, a1]
  simp only [Option.bind_some]
  rw [if_neg n7]
  rcases hw with ⟨rfl, rfl⟩ | ⟨rfl, rfl⟩ | ⟨rfl, rfl⟩
  · rw [if_neg (show ¬ nI 3 = 6 by decide), if_pos (show nI 3 = 3 from rfl)]; exact ⟨R2, S2, b1, b2⟩
  · rw [if_neg (show ¬ nI 5 = 6 by decide), if_neg (show ¬ nI 5 = 3 by decide)]; exact ⟨R2, S2, b1, b2⟩
  · rw [if_pos (show nI 6 = 6 from rfl)]; exact ⟨R2, S2, b1, b2⟩
theorem Y_tells {R : Mi} {S : Ml} {σ : Sg} (hS : WS σ) (h : YI R S σ) (s one what : Int32) : ∃ R' S', F_X6_tells R S s one what = some (s_tells σ s one what, R', S') ∧ YI R' S' σ := by
  have hP := hS.1.1
  have hT := h.2.2.1.2.1
  unfold F_X6_tells F_X6_isSheet s_tells
  rw [F_inN s 3 rfl, Option.bind_some, rz_zb, Option.bind_some, zb_if, Y_isOne h.1.2.2.2.1 hP, Option.bind_some, zb_if, F_inN what 6 rfl, Option.bind_some, zb_if]
  by_cases h1 : ix s 4 = true
  · rw [if_pos h1, if_pos h1]
    by_cases h2 : ix one (aP (uA σ)) = true
    · rw [if_pos h2, if_pos h2]
      by_cases h3 : ix what 7 = true
      · rw [if_pos h3, if_pos h3]
        obtain ⟨k, hk, rfl⟩ := ix_of h1 (by decide)
        rw [nI_clamp (show k < 2 ^ 31 by omega)]
        obtain ⟨g1, g2⟩ := h.2.2.2.2.1 k hk
        have hwf := hS.2.2.2.2.2 k hk
        rw [if_pos h1, if_pos h1, g1]
        by_cases h4 : (uS σ k).1 = -1
        · rw [if_pos h4, if_pos h4, if_pos (show (0 : Int32) = 0 from rfl)]; exact ⟨R, S, rfl, h⟩
        · rw [if_neg h4, if_neg h4, if_neg (show ¬ (1 : Int32) = 0 by decide)]
          obtain ⟨-, g3, g4⟩ := g2.resolve_left h4
          have hz := (hwf.resolve_left h4).2
          have hsh : ∀ R S B, YI R S (B, σ.2) → R 9 k = nI (uS σ k).2.1 ∧ ∀ i, i < (uS σ k).2.1 → R 10 (40 * k + i) = (uS σ k).2.2 i := fun R S B hX => ((hX.2.2.2.2.1 k hk).2.resolve_left h4).2
          have hsh1 : ∀ R S, YI R S σ → R 9 k = nI (uS σ k).2.1 ∧ ∀ i, i < (uS σ k).2.1 → R 10 (40 * k + i) = (uS σ k).2.2 i := fun R S hX => hsh R S (uA σ) hX
          rw [g3]
          by_cases h5 : 20 < (uS σ k).2.1
          · rw [if_pos h5, if_neg (show ¬ nI (uS σ k).2.1 ≤ 20 from nI_ge (a := 20) (by omega) (by omega))]; exact ⟨R, S, rfl, h⟩
          · rw [if_neg h5, if_pos (show nI (uS σ k).2.1 ≤ 20 from nI_le (b := 20) (by omega) (by decide))]
            obtain ⟨p, hp, rfl⟩ := ix_of h2 (by omega)
            obtain ⟨w, hw7, rfl⟩ := ix_of h3 (by decide)
            rw [nI_clamp (show p < 2 ^ 31 by omega)]
            rcases (show w = 0 ∨ w = 3 ∨ w = 4 ∨ w = 1 ∨ w = 2 ∨ w = 5 ∨ w = 6 by omega) with rfl | rfl | rfl | rfl | rfl | rfl | rfl
            · obtain ⟨R1, S1, b1, b2⟩ := Y_first hS.1 hS.2.1 hk hz h hp g3 g4
              unfold F_X6_tells_k66
              rw [if_pos (show nI 0 = 0 from rfl), if_pos (show nI 0 = 0 from rfl), if_pos (show nI 0 = 0 from rfl), b1]
              exact ⟨R1, S1, rfl, b2⟩
            · obtain ⟨R1, S1, b1, b2⟩ := Y_tellsP (w := 5) (N := 100) (what := nI 3) hS hk hz hp h (by decide) hsh
              rw [if_neg (show ¬ nI 3 = 0 by decide), if_neg (show ¬ nI 3 = 6 by decide), if_neg (show ¬ nI 3 = 1 by decide), if_neg (show ¬ nI 3 = 2 by decide), if_neg (show ¬ nI 3 = 5 by decide), if_neg (show ¬ nI 3 = 0 by decide), if_neg (show ¬ nI 3 = 6 by decide), if_pos (show nI 3 = 3 from rfl)]
              replace b1 : F_X6_tells_k115 R S (nI k) (nI p) (nI 3) 5 = _ := b1
              rw [b1]
              unfold selW
              rw [if_pos (show nI 3 = 3 from rfl), ds_many]
              exact ⟨R1, S1, by rw [show ((0 : Int32), (0 : Int32), (-1 : Int32)).2.1 = 0 from rfl, Int32.zero_add], b2⟩
            · obtain ⟨R1, S1, b1, b2⟩ := Y_tellsP (w := 5) (N := 100) (what := nI 4) hS hk hz hp h (by decide) hsh
              rw [if_neg (show ¬ nI 4 = 0 by decide), if_neg (show ¬ nI 4 = 6 by decide), if_neg (show ¬ nI 4 = 1 by decide), if_neg (show ¬ nI 4 = 2 by decide), if_neg (show ¬ nI 4 = 5 by decide), if_neg (show ¬ nI 4 = 0 by decide), if_neg (show ¬ nI 4 = 6 by decide), if_neg (show ¬ nI 4 = 3 by decide), if_pos (show nI 4 = 4 from rfl)]
              replace b1 : F_X6_tells_k115 R S (nI k) (nI p) (nI 4) 5 = _ := b1
              rw [b1]
              unfold selW
              rw [if_neg (show ¬ nI 4 = 3 by decide), if_pos (show nI 4 = 4 from rfl), ds_least _ _ (by decide)]
              refine ⟨R1, S1, ?_, b2⟩
              generalize (fo (upC (gdB (uX σ) (uA σ) p 5 (uS σ k).2.2 (uS σ k).2.1)) 100 0 (0, -1)).2 = y
              by_cases e : y = -1
              · rw [if_pos e, e]
              · rw [if_neg e]
            · obtain ⟨R1, S1, b1, b2⟩ := Y_tellsP (w := 6) (N := 6) (what := nI 1) hS hk hz hp h (by decide) hsh
              rw [if_neg (show ¬ nI 1 = 0 by decide), if_neg (show ¬ nI 1 = 6 by decide), if_pos (show nI 1 = 1 from rfl), if_neg (show ¬ nI 1 = 0 by decide), if_neg (show ¬ nI 1 = 6 by decide), if_neg (show ¬ nI 1 = 3 by decide), if_neg (show ¬ nI 1 = 4 by decide), if_pos (show nI 1 = 1 from rfl)]
              replace b1 : F_X6_tells_k115 R S (nI k) (nI p) (nI 1) 6 = _ := b1
              rw [b1]
              unfold selW
              rw [if_neg (show ¬ nI 1 = 3 by decide), if_neg (show ¬ nI 1 = 4 by decide), ds_bits _ _ (by decide)]
              exact ⟨R1, S1, by rw [show ((0 : Int32), (0 : Int32), (-1 : Int32)).1 = 0 from rfl, ior_0], b2⟩
            · obtain ⟨R1, S1, b1, b2⟩ := Y_tellsP (w := 3) (N := 10) (what := nI 2) hS hk hz hp h (by decide) hsh
              rw [if_neg (show ¬ nI 2 = 0 by decide), if_neg (show ¬ nI 2 = 6 by decide), if_neg (show ¬ nI 2 = 1 by decide), if_pos (show nI 2 = 2 from rfl), if_neg (show ¬ nI 2 = 0 by decide), if_neg (show ¬ nI 2 = 6 by decide), if_neg (show ¬ nI 2 = 3 by decide), if_neg (show ¬ nI 2 = 4 by decide), if_neg (show ¬ nI 2 = 1 by decide), if_pos (show nI 2 = 2 from rfl)]
              replace b1 : F_X6_tells_k115 R S (nI k) (nI p) (nI 2) 3 = _ := b1
              rw [b1]
              unfold selW
              rw [if_neg (show ¬ nI 2 = 3 by decide), if_neg (show ¬ nI 2 = 4 by decide), ds_bits _ _ (by decide)]
              exact ⟨R1, S1, by rw [show ((0 : Int32), (0 : Int32), (-1 : Int32)).1 = 0 from rfl, ior_0], b2⟩
            · have hU := hS.1.2.1
              obtain ⟨R1, S1, b1, b2⟩ := Y_tells_k (w := 7) (N := uT σ) (bf := aU (uA σ)) (what := nI 5) hS hk hz hp (by omega) hT rfl hsh (uT σ) FU R S (uA σ) (0, 0, -1) (Nat.le_refl _) (by unfold FU; omega) h (fun _ => rfl)
              rw [if_neg (show ¬ nI 5 = 0 by decide), if_neg (show ¬ nI 5 = 6 by decide), if_neg (show ¬ nI 5 = 1 by decide), if_neg (show ¬ nI 5 = 2 by decide), if_pos (show nI 5 = 5 from rfl), if_neg (show ¬ nI 5 = 0 by decide), if_neg (show ¬ nI 5 = 6 by decide), if_neg (show ¬ nI 5 = 3 by decide), if_neg (show ¬ nI 5 = 4 by decide), if_neg (show ¬ nI 5 = 1 by decide), if_neg (show ¬ nI 5 = 2 by decide)]
              unfold F_X6_tells_k115 F_X6_tells_k138 F_X6_tells_k180
              rw [if_pos (show (7 : Int32) = 7 from rfl), if_pos (show (7 : Int32) = 7 from rfl), h.2.2.1.1, h.1.2.2.2.2.1]
              obtain ⟨t, et⟩ : ∃ t, uT σ = t + 1 := ⟨uT σ - 1, by omega⟩
              have e1 : nI (uT σ) - 1 = nI (uT σ) + (-1) := by rw [et, nI_pred, pk_m1]
              rw [e1]
              replace b1 : F_X6_tells_k195 FU R S (nI k) (nI p) (nI 5) 7 (nI (aU (uA σ))) 0 0 (-1) (nI (uT σ) + (-1)) = _ := b1
              rw [b1]
              unfold selW
              rw [if_neg (show ¬ nI 5 = 3 by decide), if_neg (show ¬ nI 5 = 4 by decide), ds_bits _ _ (by omega)]
              exact ⟨R1, S1, by rw [show ((0 : Int32), (0 : Int32), (-1 : Int32)).1 = 0 from rfl, ior_0], b2⟩
            · obtain ⟨R1, S1, b1, b2⟩ := Y_like hS hk hz hsh1 (aP (uA σ)) 0 FU R S 0 (by omega) (by unfold FU; omega) h
              unfold F_X6_tells_k66 F_X6_likeSet
              rw [if_neg (show ¬ nI 6 = 0 by decide), if_pos (show nI 6 = 6 from rfl), if_neg (show ¬ nI 6 = 0 by decide), if_neg (show ¬ nI 6 = 0 by decide), if_pos (show nI 6 = 6 from rfl)]
              replace b1 : F_X6_likeSet_k4 FU R S (nI k) 0 0 = _ := b1
              rw [b1]
              exact ⟨R1, S1, rfl, b2⟩
      · rw [if_neg h3, if_neg h3]; exact ⟨R, S, by rw [ite_self], h⟩
    · rw [if_neg h2, if_neg h2]; exact ⟨R, S, by rw [ite_self], h⟩
  · rw [if_neg h1, if_neg h1]; exact ⟨R, S, rfl, h⟩
