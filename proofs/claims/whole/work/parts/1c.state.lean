/-! PURE: THE STATE of both objects: floors, texts, tape, sheets; small readings -/
def fo {α : Type} (g : Nat → α → α) : Nat → Nat → α → α
  | 0, _, x => x
  | d + 1, j, x => fo g d (j + 1) (g j x)
abbrev Sh : Type := Int32 × Nat × (Nat → Int32)
abbrev Sg : Type := Af × Option Af × (Nat × (Nat → Cd)) × (Nat × (Nat → Int32)) × (Nat → Sh)
abbrev uA (σ : Sg) : Af := σ.1
abbrev uK (σ : Sg) : Option Af := σ.2.1
abbrev uT (σ : Sg) : Nat := σ.2.2.1.1
abbrev uX (σ : Sg) : Nat → Cd := σ.2.2.1.2
abbrev uN (σ : Sg) : Nat := σ.2.2.2.1.1
abbrev uP (σ : Sg) : Nat → Int32 := σ.2.2.2.1.2
abbrev uS (σ : Sg) : Nat → Sh := σ.2.2.2.2
def wfS (h : Sh) : Prop := h.1 = -1 ∨ (ix h.1 3 = true ∧ h.2.1 ≤ 40)
def WS (σ : Sg) : Prop := wfA (uT σ) (uA σ) ∧ aM (uA σ) ≤ 999 ∧ (∀ k, uK σ = some k → wfA (uT σ) k ∧ aM k ≤ 999) ∧ uN σ ≤ 160 ∧ (∀ i, i < uN σ → ix (uP σ i) 256 = true) ∧ ∀ s, s < 4 → wfS (uS σ s)
def XSh (M : Mi) (s : Nat) (h : Sh) : Prop := M (28 + 2 * s) 1 = h.1 ∧ (h.1 = -1 ∨ (M (28 + 2 * s) 2 = nI h.2.1 ∧ ∀ i, i < h.2.1 → M (28 + 2 * s + 1) i = h.2.2 i))
def YSh (R : Mi) (s : Nat) (h : Sh) : Prop := R 7 s = (if h.1 = -1 then 0 else 1) ∧ (h.1 = -1 ∨ (R 8 s = h.1 ∧ R 9 s = nI h.2.1 ∧ ∀ i, i < h.2.1 → R 10 (40 * s + i) = h.2.2 i))
def XKp (M : Mi) (L : Ml) : Option Af → Prop
  | none => M 0 7 = 0
  | some k => M 0 7 = 1 ∧ XFl 16 M L k
def YKp (R : Mi) (S : Ml) : Option Af → Prop
  | none => R 0 32 = -1
  | some k => R 0 32 = nI (aP k) ∧ R 0 33 = nI (aM k) ∧ R 0 34 = nI (aU k) ∧ S 0 35 = aR k ∧ S 0 36 = aH k ∧ ∀ p, p < aP k → R 6 (4 * p + 3) = (aQ k p).1 ∧ R 6 (4 * p) = (aQ k p).2.1 ∧ R 6 (4 * p + 1) = (aQ k p).2.2.1 ∧ R 6 (4 * p + 2) = (aQ k p).2.2.2
def XI (E : Ev) (M : Mi) (L : Ml) (σ : Sg) : Prop := XFl 1 M L (uA σ) ∧ XKp M L (uK σ) ∧ XT E M (uT σ) (uX σ) ∧ (M 24 2 = nI (uN σ) ∧ M 25 = uP σ) ∧ ∀ s, s < 4 → XSh M s (uS σ s)
def YI (R : Mi) (S : Ml) (σ : Sg) : Prop := YFl R S (uA σ) ∧ YKp R S (uK σ) ∧ YT R (uT σ) (uX σ) ∧ (R 0 6 = nI (uN σ) ∧ ∀ i, i < uN σ → R 3 i = uP σ i) ∧ (∀ s, s < 4 → YSh R s (uS σ s)) ∧ R 0 12 = -1
theorem XFl.keep {b : Nat} {M M' : Mi} {L L' : Ml} {A : Af} (h : XFl b M L A) (h0 : M' b = M b) (h1 : M' (b + 1) = M (b + 1)) (h2 : M' (b + 2) = M (b + 2)) (h3 : M' (b + 3) = M (b + 3)) (h4 : M' (b + 4) = M (b + 4)) (hL : L' b = L b) : XFl b M' L' A := by
  unfold XFl XP at *
  rw [h0, h1, h2, h3, h4, hL]; exact h
theorem XSh.keep {M M' : Mi} {s : Nat} {h : Sh} (g : XSh M s h) (h0 : M' (28 + 2 * s) = M (28 + 2 * s)) (h1 : M' (28 + 2 * s + 1) = M (28 + 2 * s + 1)) : XSh M' s h := by
  unfold XSh at *; rw [h0, h1]; exact g
/-- nothing but the stack, thought and later changes -/
theorem XI.keep {E : Ev} {M M' : Mi} {L L' : Ml} {σ : Sg} (h : XI E M L σ) (hM : ∀ k, k ≠ 23 → (k < 6 ∨ 15 < k) → M' k = M k) (hL : ∀ k, (k < 6 ∨ 15 < k) → L' k = L k) : XI E M' L' σ := by
  obtain ⟨a, b, c, d, e⟩ := h
  refine ⟨a.keep (hM _ (by decide) (by decide)) (hM _ (by decide) (by decide)) (hM _ (by decide) (by decide)) (hM _ (by decide) (by decide)) (hM _ (by decide) (by decide)) (hL _ (by decide)), ?_, c.keep (by rw [hM 21 (by decide) (by decide)]) (fun k hk => hM k (by omega) (by omega)), ?_, fun s hs => (e s hs).keep (hM _ (by omega) (by omega)) (hM _ (by omega) (by omega))⟩
  · cases hk : uK σ with
    | none => rw [hk] at b; show M' 0 7 = 0; rw [hM 0 (by decide) (by decide)]; exact b
    | some k => rw [hk] at b; exact ⟨by rw [hM 0 (by decide) (by decide)]; exact b.1, b.2.keep (hM _ (by decide) (by decide)) (hM _ (by decide) (by decide)) (hM _ (by decide) (by decide)) (hM _ (by decide) (by decide)) (hM _ (by decide) (by decide)) (hL _ (by decide))⟩
  · exact ⟨by rw [hM 24 (by decide) (by decide)]; exact d.1, by rw [hM 25 (by decide) (by decide)]; exact d.2⟩
theorem YP.keep {R R' : Mi} {p : Nat} {q : Pt} (h : YP R p q) (h4 : R' 4 = R 4) : YP R' p q := by unfold YP at *; rw [h4]; exact h
/-- nothing but what one reads with, was and what is best changes -/
theorem YI.keep {R R' : Mi} {S S' : Ml} {σ : Sg} (h : YI R S σ) (hR : ∀ k, k ≠ 0 → k ≠ 5 → R' k = R k) (h0 : ∀ j, j < 13 ∨ 31 < j → R' 0 j = R 0 j) (hS : ∀ j, j ≠ 24 → S' 0 j = S 0 j) : YI R' S' σ := by
  obtain ⟨a, b, c, d, e, f⟩ := h
  refine ⟨?_, ?_, c.keep (h0 3 (by decide)) (hR 1 (by decide) (by decide)) (hR 2 (by decide) (by decide)), ?_, fun s hs => ?_, by rw [h0 12 (by decide)]; exact f⟩
  · unfold YFl YP at *
    rw [hS 8 (by decide), hS 9 (by decide), h0 7 (by decide), h0 11 (by decide), h0 4 (by decide), hR 4 (by decide) (by decide)]; exact a
  · cases hk : uK σ with
    | none => rw [hk] at b; show R' 0 32 = -1; rw [h0 32 (by decide)]; exact b
    | some k => rw [hk] at b; unfold YKp at *; rw [h0 32 (by decide), h0 33 (by decide), h0 34 (by decide), hS 35 (by decide), hS 36 (by decide), hR 6 (by decide) (by decide)]; exact b
  · rw [h0 6 (by decide), hR 3 (by decide) (by decide)]; exact d
  · have := e s hs
    unfold YSh at *
    rw [hR 7 (by decide) (by decide), hR 8 (by decide) (by decide), hR 9 (by decide) (by decide), hR 10 (by decide) (by decide)]; exact this
theorem X_isParty {M : Mi} {L : Ml} {P : Nat} (h : M 1 3 = nI P) (hP : P ≤ 5) (x : Int32) : F_X5_isParty M L x = some (zb (ix x P)) := by
  unfold F_X5_isParty; rw [h, F_isWithinP _ (by omega), Option.bind_some, rz_zb]
theorem Y_isOne {R : Mi} {S : Ml} {P : Nat} (h : R 0 11 = nI P) (hP : P ≤ 5) (x : Int32) : F_X6_isOne R S x = some (zb (ix x P)) := by
  unfold F_X6_isOne; rw [h, F_inP _ (by omega), Option.bind_some, rz_zb]
/-! who is on a tile, what all stand on, what each is found -/
def who (A : Af) (c : Int32) : Int32 := fo (fun j x => x ||| ishl (zb (decide ((aQ A j).2.2.1 = c))) (nI j)) (aP A) 0 0
def std (A : Af) : Int64 := fo (fun j x => x ||| lshl 1 (aQ A j).2.2.1) (aP A) 0 0
def fnd (A : Af) (p : Nat) : Int32 := sp_found (aR A) (aQ A p).1 (aQ A p).2.2.2 (aQ A p).2.2.1
def cnt (A : Af) (f : Int32) : Int32 := fo (fun j x => x + zb (decide (fnd A j = f))) (aP A) 0 0
theorem X_who {b : Nat} {M : Mi} {L : Ml} {A : Af} {T : Nat} (hw : wfA T A) (hF : XFl b M L A) (c : Int32) : F_X0_whoIsOn b M L c = some (who A c) := by
  have hP := hw.1
  have go : ∀ d j m x, j + d = aP A → d < m → F_X0_whoIsOn_k4 b M L m c x (nI j) = some (fo (fun j x => x ||| ishl (zb (decide ((aQ A j).2.2.1 = c))) (nI j)) d j x) := by
    intro d
    induction d with
    | zero =>
      intro j m x hj hm
      obtain ⟨m, rfl⟩ : ∃ q, m = q + 1 := ⟨m - 1, by omega⟩
      rw [F_X0_whoIsOn_k4, hF.2.2.2.1, if_pos (nI_le (by omega) (by omega))]; rfl
    | succ d ih =>
      intro j m x hj hm
      obtain ⟨m, rfl⟩ : ∃ q, m = q + 1 := ⟨m - 1, by omega⟩
      have hq := (hF.2.2.2.2.2 j (by omega)).2.2.1
      rw [F_X0_whoIsOn_k4, hF.2.2.2.1, if_neg (nI_ge (by omega) (by omega)), if_pos (ix_nI (by omega) (by decide)), nI_clamp (by omega), hq]
      unfold F_X0_whoIsOn_k30
      rw [nI_1]
      by_cases e : (aQ A j).2.2.1 = c
      · rw [if_pos e, ih _ _ _ (by omega) (by omega)]
        show _ = some (fo _ d (j + 1) (x ||| ishl (zb (decide ((aQ A j).2.2.1 = c))) (nI j)))
        rw [decide_eq_true e]; rfl
      · rw [if_neg e, ih _ _ _ (by omega) (by omega)]
        show _ = some (fo _ d (j + 1) (x ||| ishl (zb (decide ((aQ A j).2.2.1 = c))) (nI j)))
        rw [decide_eq_false e, show zb false = 0 from rfl, ishl0 j (by omega)]
  exact go (aP A) 0 FU 0 (by omega) (by unfold FU; omega)
theorem Y_on {R : Mi} {S : Ml} {A : Af} {T p : Nat} (hw : wfA T A) (hF : YFl R S A) (hp : p < aP A) (S' : Ml) : F_X6_onOf R S' (nI p) = some (aQ A p).2.2.1 := by
  have hP := hw.1
  rw [F_onOfR _ _ (by omega), (hF.2.2.2.2.2 p hp).2.2.1]
theorem Y_who {R : Mi} {S : Ml} {A : Af} {T : Nat} (hw : wfA T A) (hF : YFl R S A) (c : Int32) : F_X6_whoOn R S c = some (who A c) := by
  have hP := hw.1
  have go : ∀ d j m x, j + d = aP A → d < m → F_X6_whoOn_k4 R S m c x (nI j) = some (fo (fun j x => x ||| ishl (zb (decide ((aQ A j).2.2.1 = c))) (nI j)) d j x) := by
    intro d
    induction d with
    | zero =>
      intro j m x hj hm
      obtain ⟨m, rfl⟩ : ∃ q, m = q + 1 := ⟨m - 1, by omega⟩
      rw [F_X6_whoOn_k4, hF.2.2.2.1, if_pos (nI_le (by omega) (by omega))]; rfl
    | succ d ih =>
      intro j m x hj hm
      obtain ⟨m, rfl⟩ : ∃ q, m = q + 1 := ⟨m - 1, by omega⟩
      rw [F_X6_whoOn_k4, hF.2.2.2.1, if_neg (nI_ge (by omega) (by omega)), Y_on hw hF (by omega) S, Option.bind_some]
      unfold F_X6_whoOn_k27
      rw [nI_1]
      by_cases e : (aQ A j).2.2.1 = c
      · rw [if_pos e, ih _ _ _ (by omega) (by omega)]
        show _ = some (fo _ d (j + 1) (x ||| ishl (zb (decide ((aQ A j).2.2.1 = c))) (nI j)))
        rw [decide_eq_true e]; rfl
      · rw [if_neg e, ih _ _ _ (by omega) (by omega)]
        show _ = some (fo _ d (j + 1) (x ||| ishl (zb (decide ((aQ A j).2.2.1 = c))) (nI j)))
        rw [decide_eq_false e]; rfl
  exact go (aP A) 0 FU 0 (by omega) (by unfold FU; omega)
theorem X_std {b : Nat} {M : Mi} {L : Ml} {A : Af} {T : Nat} (hw : wfA T A) (hF : XFl b M L A) : F_X0_stoodOn b M L = some (std A) := by
  have hP := hw.1
  have go : ∀ d j m x, j + d = aP A → d < m → F_X0_stoodOn_k4 b M L m x (nI j) = some (fo (fun j x => x ||| lshl 1 (aQ A j).2.2.1) d j x) := by
    intro d
    induction d with
    | zero =>
      intro j m x hj hm
      obtain ⟨m, rfl⟩ : ∃ q, m = q + 1 := ⟨m - 1, by omega⟩
      rw [F_X0_stoodOn_k4, hF.2.2.2.1, if_pos (nI_le (by omega) (by omega))]; rfl
    | succ d ih =>
      intro j m x hj hm
      obtain ⟨m, rfl⟩ : ∃ q, m = q + 1 := ⟨m - 1, by omega⟩
      have hq := (hF.2.2.2.2.2 j (by omega)).2.2.1
      rw [F_X0_stoodOn_k4, hF.2.2.2.1, if_neg (nI_ge (by omega) (by omega)), if_pos (ix_nI (by omega) (by decide)), nI_clamp (by omega), hq, Option.bind_some, nI_1, ih _ _ _ (by omega) (by omega)]; rfl
  exact go (aP A) 0 FU 0 (by omega) (by unfold FU; omega)
theorem Y_std {R : Mi} {S : Ml} {A : Af} {T : Nat} (hw : wfA T A) (hF : YFl R S A) : F_X6_stoodOn R S = some (std A) := by
  have hP := hw.1
  have go : ∀ d j m x, j + d = aP A → d < m → F_X6_stoodOn_k4 R S m x (nI j) = some (fo (fun j x => x ||| lshl 1 (aQ A j).2.2.1) d j x) := by
    intro d
    induction d with
    | zero =>
      intro j m x hj hm
      obtain ⟨m, rfl⟩ : ∃ q, m = q + 1 := ⟨m - 1, by omega⟩
      rw [F_X6_stoodOn_k4, hF.2.2.2.1, if_pos (nI_le (by omega) (by omega))]; rfl
    | succ d ih =>
      intro j m x hj hm
      obtain ⟨m, rfl⟩ : ∃ q, m = q + 1 := ⟨m - 1, by omega⟩
      rw [F_X6_stoodOn_k4, hF.2.2.2.1, if_neg (nI_ge (by omega) (by omega)), Y_on hw hF (by omega) S, Option.bind_some, nI_1, ih _ _ _ (by omega) (by omega)]; rfl
  exact go (aP A) 0 FU 0 (by omega) (by unfold FU; omega)
theorem X_fnd {b : Nat} {M : Mi} {L : Ml} {A : Af} {T p : Nat} (hw : wfA T A) (hF : XFl b M L A) (hp : p < aP A) : F_X0_foundOf b M L (nI p) = some (fnd A p) := by
  have hP := hw.1
  obtain ⟨q1, q2, q3, q4⟩ := hF.2.2.2.2.2 p hp
  obtain ⟨c, hc, ec⟩ := ix_of (hw.2.2 p hp).2.2.1 (by decide)
  rw [F_foundOfX b M L (by omega) hc (by rw [q3]; exact ec), hF.1, q1, q4]
  unfold fnd; rw [ec]
theorem Y_fnd {R : Mi} {S : Ml} {A : Af} {T p : Nat} (hw : wfA T A) (hF : YFl R S A) (hp : p < aP A) : F_X6_foundOf R S (nI p) = some (fnd A p) := by
  have hP := hw.1
  obtain ⟨q1, q2, q3, q4⟩ := hF.2.2.2.2.2 p hp
  obtain ⟨c, hc, ec⟩ := ix_of (hw.2.2 p hp).2.2.1 (by decide)
  rw [F_foundOfR R S (by omega) hc (by rw [q3]; exact ec), hF.1, q1, q4]
  unfold fnd; rw [ec]
theorem X_cnt {b : Nat} {M : Mi} {L : Ml} {A : Af} {T : Nat} (hw : wfA T A) (hF : XFl b M L A) (f : Int32) : F_X0_howManyFound b M L f = some (cnt A f) := by
  have hP := hw.1
  have go : ∀ d j m x, j + d = aP A → d < m → F_X0_howManyFound_k4 b M L m f x (nI j) = some (fo (fun j x => x + zb (decide (fnd A j = f))) d j x) := by
    intro d
    induction d with
    | zero =>
      intro j m x hj hm
      obtain ⟨m, rfl⟩ : ∃ q, m = q + 1 := ⟨m - 1, by omega⟩
      rw [F_X0_howManyFound_k4, hF.2.2.2.1, if_pos (nI_le (by omega) (by omega))]; rfl
    | succ d ih =>
      intro j m x hj hm
      obtain ⟨m, rfl⟩ : ∃ q, m = q + 1 := ⟨m - 1, by omega⟩
      rw [F_X0_howManyFound_k4, hF.2.2.2.1, if_neg (nI_ge (by omega) (by omega)), X_fnd hw hF (by omega), Option.bind_some]
      unfold F_X0_howManyFound_k27
      rw [nI_1]
      by_cases e : fnd A j = f
      · rw [if_pos e, ih _ _ _ (by omega) (by omega)]
        show _ = some (fo _ d (j + 1) (x + zb (decide (fnd A j = f))))
        rw [decide_eq_true e]; rfl
      · rw [if_neg e, ih _ _ _ (by omega) (by omega)]
        show _ = some (fo _ d (j + 1) (x + zb (decide (fnd A j = f))))
        rw [decide_eq_false e]; rfl
  exact go (aP A) 0 FU 0 (by omega) (by unfold FU; omega)
theorem Y_cnt {R : Mi} {S : Ml} {A : Af} {T : Nat} (hw : wfA T A) (hF : YFl R S A) (f : Int32) : F_X6_foundMany R S f = some (cnt A f) := by
  have hP := hw.1
  have go : ∀ d j m x, j + d = aP A → d < m → F_X6_foundMany_k4 R S m f x (nI j) = some (fo (fun j x => x + zb (decide (fnd A j = f))) d j x) := by
    intro d
    induction d with
    | zero =>
      intro j m x hj hm
      obtain ⟨m, rfl⟩ : ∃ q, m = q + 1 := ⟨m - 1, by omega⟩
      rw [F_X6_foundMany_k4, hF.2.2.2.1, if_pos (nI_le (by omega) (by omega))]; rfl
    | succ d ih =>
      intro j m x hj hm
      obtain ⟨m, rfl⟩ : ∃ q, m = q + 1 := ⟨m - 1, by omega⟩
      rw [F_X6_foundMany_k4, hF.2.2.2.1, if_neg (nI_ge (by omega) (by omega)), Y_fnd hw hF (by omega), Option.bind_some]
      unfold F_X6_foundMany_k27
      rw [nI_1]
      by_cases e : fnd A j = f
      · rw [if_pos e, ih _ _ _ (by omega) (by omega)]
        show _ = some (fo _ d (j + 1) (x + zb (decide (fnd A j = f))))
        rw [decide_eq_true e]; rfl
      · rw [if_neg e, ih _ _ _ (by omega) (by omega)]
        show _ = some (fo _ d (j + 1) (x + zb (decide (fnd A j = f))))
        rw [decide_eq_false e]; rfl
  exact go (aP A) 0 FU 0 (by omega) (by unfold FU; omega)
