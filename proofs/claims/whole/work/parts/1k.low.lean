/-! PURE: lowest terms, mean, drawn, chance -/
def lowT (a b : Nat) (part : Int32) : Int64 := lN ((if part = 0 then a else b) / Nat.gcd a b)
theorem irm_nI {a d : Nat} (ha : a < 2 ^ 31) (h0 : 0 < d) (hd : d < 2 ^ 31) : irm (nI a) (nI d) = nI (a % d) := pk_rem ha h0 hd
theorem lrm_lN {a d : Nat} (ha : a < 2 ^ 63) (h0 : 0 < d) (hd : d < 2 ^ 63) : lrm (lN a) (lN d) = lN (a % d) := pk_lRem ha h0 hd
theorem gcd_step (c r : Nat) : Nat.gcd c r = Nat.gcd r (c % r) := by rw [Nat.gcd_comm c r, Nat.gcd_rec r c, Nat.gcd_comm]
theorem X_low39 {x0 x1 part : Int32} {a b g : Nat} (h0 : x0 = nI a) (h1 : x1 = nI b) (hg : 0 < g) (ha : a < 2 ^ 30) (hb : b < 2 ^ 30) (hg2 : g < 2 ^ 30) : F_X5_inLowestTerms_k39 x0 x1 part (nI g) = some (lN ((if part = 0 then a else b) / g)) := by
  subst h0; subst h1
  have e : (if (1 : Int32) < nI g then nI g else 1) = nI g := by
    by_cases h : (1 : Int32) < nI g
    · rw [if_pos h]
    · rw [if_neg h]
      have : g = 1 := by
        by_cases h1 : g ≤ 1
        · omega
        · exact absurd (nI_lt (a := 1) (b := g) (by omega) (by omega)) h
      rw [this]; rfl
  unfold F_X5_inLowestTerms_k39 F_X5_inLowestTerms_k48
  rw [e]
  by_cases h : part = 0
  · rw [if_pos h, if_pos h, if_neg (nI_ne0 hg (by omega)), pk_div (by omega) hg (by omega), nI_l (Nat.lt_of_le_of_lt (Nat.div_le_self a g) (by omega))]
  · rw [if_neg h, if_neg h, if_neg (nI_ne0 hg (by omega)), pk_div (by omega) hg (by omega), nI_l (Nat.lt_of_le_of_lt (Nat.div_le_self b g) (by omega))]
theorem X_low_k (x0 x1 part : Int32) : ∀ (r c j m : Nat), r < m → c < 2 ^ 30 → r < 2 ^ 30 → r + j < 64 → F_X5_inLowestTerms_k8 m x0 x1 part (nI c) (nI r) (nI j) = F_X5_inLowestTerms_k39 x0 x1 part (nI (Nat.gcd c r)) := by
  intro r
  induction r using Nat.strongRecOn with
  | ind r ih =>
    intro c j m hm hc hr hj
    obtain ⟨m, rfl⟩ : ∃ q, m = q + 1 := ⟨m - 1, by omega⟩
    rw [F_X5_inLowestTerms_k8, if_neg (show ¬ (64 : Int32) ≤ nI j from nI_ge (b := 64) (by omega) (by decide))]
    by_cases h0 : r = 0
    · subst h0
      rw [if_pos (show nI 0 = 0 from rfl), Nat.gcd_zero_right]
    · have hr0 : ¬ nI r = 0 := nI_ne0 (by omega) (by omega)
      have hlt := Nat.mod_lt c (show r > 0 by omega)
      rw [if_neg hr0, if_neg hr0, irm_nI (by omega) (by omega) (by omega), nI_1, ih (c % r) hlt r (j + 1) m (by omega) hr (by omega) (by omega), gcd_step c r]
theorem X_low {a b : Nat} (ha : a < 2 ^ 20) (hb0 : 0 < b) (hb : b ≤ 40) (part : Int32) : F_X5_inLowestTerms (nI a) (nI b) part = some (lowT a b part) := by
  have hg : 0 < Nat.gcd a b := Nat.gcd_pos_of_pos_right a hb0
  have hg2 : Nat.gcd a b ≤ b := Nat.gcd_le_right a hb0
  unfold F_X5_inLowestTerms
  rw [show (0 : Int32) = nI 0 from rfl]
  by_cases h0 : a = 0
  · subst h0
    rw [X_low_k _ _ _ 0 b 0 FU (by decide) (by omega) (by omega) (by omega), Nat.gcd_comm]
    exact X_low39 rfl rfl hg (by omega) (by omega) (by omega)
  · have hr0 : ¬ nI a = 0 := nI_ne0 (by omega) (by omega)
    have hlt := Nat.mod_le b a
    rw [show FU = 999 + 1 from rfl, F_X5_inLowestTerms_k8, if_neg (show ¬ (64 : Int32) ≤ nI 0 by decide), if_neg hr0, if_neg hr0, irm_nI (by omega) (by omega) (by omega), nI_1, X_low_k _ _ _ (b % a) a (0 + 1) 999 (by omega) (by omega) (by omega) (by omega), ← gcd_step b a, Nat.gcd_comm b a]
    exact X_low39 rfl rfl hg (by omega) (by omega) (by omega)
theorem Y_low_k {a b : Nat} (ha : a < 2 ^ 30) (hb : b < 2 ^ 30) (part : Int32) : ∀ (q p m : Nat), q < m → p < 2 ^ 30 → q < 2 ^ 30 → 0 < Nat.gcd p q → F_X6_lowest_k6 m (lN a) (lN b) part (lN p) (lN q) = some (lN ((if part = 0 then a else b) / Nat.gcd p q)) := by
  intro q
  induction q using Nat.strongRecOn with
  | ind q ih =>
    intro p m hm hp hq hg
    obtain ⟨m, rfl⟩ : ∃ x, m = x + 1 := ⟨m - 1, by omega⟩
    rw [F_X6_lowest_k6]
    simp only [lg_eq0]
    by_cases h0 : q = 0
    · subst h0
      rw [Nat.gcd_zero_right] at hg ⊢
      have hp0 : ¬ lN p = 0 := fun e => by rw [show (0 : Int64) = lN 0 from rfl, lN_eq (by omega) (by decide)] at e; omega
      rw [if_pos (show lN 0 = 0 from rfl), if_neg hp0, if_neg hp0, pk_lDiv (by omega) hg (by omega), pk_lDiv (by omega) hg (by omega)]
      by_cases h : part = 0
      · rw [if_pos h, if_pos h]
      · rw [if_neg h, if_neg h]
    · have hq0 : ¬ lN q = 0 := fun e => by rw [show (0 : Int64) = lN 0 from rfl, lN_eq (by omega) (by decide)] at e; omega
      have hlt := Nat.mod_lt p (show q > 0 by omega)
      rw [if_neg hq0, if_neg hq0, lrm_lN (by omega) (by omega) (by omega), ih (p % q) hlt q m (by omega) hq (by omega) (by rw [← gcd_step]; exact hg), ← gcd_step]
theorem Y_low {a b : Nat} (ha : a < 2 ^ 20) (hb0 : 0 < b) (hb : b ≤ 40) (part : Int32) : F_X6_lowest (lN a) (lN b) part = some (lowT a b part) :=
  Y_low_k (by omega) (by omega) part b a FU (by unfold FU; omega) (by omega) (by omega) (Nat.gcd_pos_of_pos_right a hb0)
/-! mean -/
def wsum (A : Af) : Nat := fo (fun j x => x + (aQ A j).2.2.2.toNatClampNeg) (aP A) 0 0
def s_mean (A : Af) (part : Int32) : Int64 := if ix part 2 = true then (if aP A = 0 then -4611686018427387904 else lowT (wsum A) (aP A) part) else -4611686018427387904
theorem wsum_k {A : Af} {T : Nat} (hw : wfA T A) : ∀ d j x, j + d = aP A → fo (fun j x => x + (aQ A j).2.2.2.toNatClampNeg) d j x ≤ x + 99 * d := by
  intro d
  induction d with
  | zero => intro j x _; exact Nat.le_refl _
  | succ d ih =>
    intro j x hj
    have := (ix_self (hw.2.2 j (by omega)).2.2.2 (by decide)).2
    have := ih (j + 1) (x + (aQ A j).2.2.2.toNatClampNeg) (by omega)
    show fo _ d (j + 1) (x + (aQ A j).2.2.2.toNatClampNeg) ≤ _
    omega
theorem wsum_le {A : Af} {T : Nat} (hw : wfA T A) : wsum A ≤ 495 := by
  have := wsum_k hw (aP A) 0 0 (by omega)
  have := hw.1
  unfold wsum; omega
theorem X_mean {M : Mi} {L : Ml} {A : Af} {T : Nat} (hw : wfA T A) (hF : XFl 1 M L A) (part : Int32) : F_X5_mean M L part = some (s_mean A part) := by
  have hP := hw.1
  have hs := wsum_le hw
  have go : ∀ d j m x, j + d = aP A → d < m → 0 < aP A → fo (fun j x => x + (aQ A j).2.2.2.toNatClampNeg) d j x = wsum A → F_X5_mean_k27 M L m part (nI x) (nI j) = some (lowT (wsum A) (aP A) part) := by
    intro d
    induction d with
    | zero =>
      intro j m x hj hm h0 hx
      obtain ⟨m, rfl⟩ : ∃ q, m = q + 1 := ⟨m - 1, by omega⟩
      replace hx : x = wsum A := hx
      rw [F_X5_mean_k27, hF.2.2.2.1, if_pos (nI_le (by omega) (by omega)), hx, X_low (by omega) h0 (by omega), Option.bind_some]
    | succ d ih =>
      intro j m x hj hm h0 hx
      obtain ⟨m, rfl⟩ : ∃ q, m = q + 1 := ⟨m - 1, by omega⟩
      have g := (hF.2.2.2.2.2 j (by omega)).2.2.2
      have e := (ix_self (hw.2.2 j (by omega)).2.2.2 (by decide)).1
      rw [F_X5_mean_k27, hF.2.2.2.1, if_neg (nI_ge (by omega) (by omega)), if_pos (ix_nI (by omega) (by decide)), nI_clamp (by omega), g, e, nI_add, nI_1]
      exact ih (j + 1) m _ (by omega) (by omega) h0 hx
  unfold F_X5_mean s_mean
  rw [show F_X5_isWithin part 1 = some (zb (ix part 2)) from F_isWithinN part (m := 1) (by decide), Option.bind_some, zb_if, hF.2.2.2.1]
  by_cases h1 : ix part 2 = true
  · rw [if_pos h1, if_pos h1]
    by_cases h0 : aP A = 0
    · rw [if_pos h0, h0, if_neg (show ¬ (1 : Int32) ≤ nI 0 by decide)]
    · rw [if_neg h0, if_pos (show (1 : Int32) ≤ nI (aP A) from nI_le (a := 1) (by omega) (by omega))]
      exact go (aP A) 0 FU 0 (by omega) (by unfold FU; omega) (by omega) rfl
  · rw [if_neg h1, if_neg h1]
theorem Y_mean {R : Mi} {S : Ml} {A : Af} {T : Nat} (hw : wfA T A) (hF : YFl R S A) (part : Int32) : F_X6_mean R S part = some (s_mean A part) := by
  have hP := hw.1
  have hs := wsum_le hw
  have go : ∀ d j m x, j + d = aP A → d < m → 0 < aP A → fo (fun j x => x + (aQ A j).2.2.2.toNatClampNeg) d j x = wsum A → F_X6_mean_k25 R S m part (nI x) (nI j) = some (lowT (wsum A) (aP A) part) := by
    intro d
    induction d with
    | zero =>
      intro j m x hj hm h0 hx
      obtain ⟨m, rfl⟩ : ∃ q, m = q + 1 := ⟨m - 1, by omega⟩
      replace hx : x = wsum A := hx
      rw [F_X6_mean_k25, hF.2.2.2.1, if_pos (nI_le (by omega) (by omega)), hx, nI_l (by omega), nI_l (by omega), Y_low (by omega) h0 (by omega), Option.bind_some]
    | succ d ih =>
      intro j m x hj hm h0 hx
      obtain ⟨m, rfl⟩ : ∃ q, m = q + 1 := ⟨m - 1, by omega⟩
      have g := (hF.2.2.2.2.2 j (by omega)).2.2.2
      have e := (ix_self (hw.2.2 j (by omega)).2.2.2 (by decide)).1
      rw [F_X6_mean_k25, hF.2.2.2.1, if_neg (nI_ge (by omega) (by omega)), i4p2, if_pos (ix_nI (by omega) (by decide)), nI_clamp (by omega), g, e, nI_add, nI_1, Option.bind_some]
      exact ih (j + 1) m _ (by omega) (by omega) h0 hx
  unfold F_X6_mean s_mean
  rw [F_inN part 1 rfl, Option.bind_some, zb_if, hF.2.2.2.1]
  by_cases h1 : ix part 2 = true
  · rw [if_pos h1, if_pos h1]
    by_cases h0 : aP A = 0
    · rw [if_pos h0, h0, if_pos (show nI 0 = 0 from rfl)]
    · rw [if_neg h0, if_neg (nI_ne0 (by omega) (by omega))]
      exact go (aP A) 0 FU 0 (by omega) (by unfold FU; omega) (by omega) rfl
  · rw [if_neg h1, if_neg h1]
/-! drawn, chance -/
def zway (z : Int32) : Nat := (z.toBitVec.toNat / 2 ^ 9) % 8
theorem zway_eq (z : Int32) : irm (iushr z 9) 8 = nI (zway z) := by
  have h1 : iushr z 9 = nI (z.toBitVec.toNat / 2 ^ 9) := by
    have h2 := pk_ushr z 9 9 (by decide)
    have hlt : z.toBitVec.toNat / 2 ^ 9 < 2 ^ 32 := Nat.lt_of_le_of_lt (Nat.div_le_self _ _) z.toBitVec.isLt
    apply Int32.toBitVec_inj.mp
    apply BitVec.eq_of_toNat_eq
    rw [pk_tn hlt]
    exact h2
  have hb : z.toBitVec.toNat / 2 ^ 9 < 2 ^ 31 := by have := z.toBitVec.isLt; omega
  rw [h1, show (8 : Int32) = nI 8 from rfl, irm_nI hb (by decide) (by decide)]; rfl
theorem zway_lt (z : Int32) : zway z < 8 := Nat.mod_lt _ (by decide)
def drw (A : Af) (p : Nat) : Nat → Int32 → Int32 → Int32
  | 0, _, t => t
  | d + 1, z, t => drw A p d (z * 1103515245 + 12345) (if plnd A p t (zway (z * 1103515245 + 12345)) = -1 then t else plnd A p t (zway (z * 1103515245 + 12345)))
theorem drw_in (A : Af) (p : Nat) : ∀ d z t, ix t 64 = true → ix (drw A p d z t) 64 = true := by
  intro d
  induction d with
  | zero => intro z t h; exact h
  | succ d ih =>
    intro z t h
    refine ih _ _ ?_
    rcases sp_land_in (aH A) (aQ A p).1 (aQ A p).2.1 (aQ A p).2.2.2 (nI (aM A)) t (zway (z * 1103515245 + 12345)) with e | e
    · rw [show plnd A p t (zway (z * 1103515245 + 12345)) = -1 from e, if_pos rfl]; exact h
    · by_cases q : plnd A p t (zway (z * 1103515245 + 12345)) = -1
      · rw [if_pos q]; exact h
      · rw [if_neg q]; exact e
theorem X_drw {M : Mi} {L : Ml} {A : Af} {T p n : Nat} (hw : wfA T A) (hF : XFl 1 M L A) (hp : p < aP A) (hn : n ≤ 40) (z : Int32) : F_X0_whereDrawn 1 M L z (nI p) (nI n) = some (drw A p n z (aQ A p).2.2.1) := by
  have hP := hw.1
  have go : ∀ d j m z t, j + d = n → d < m → F_X0_whereDrawn_k14 1 M L m (nI p) (nI n) z t (nI j) = some (drw A p d z t) := by
    intro d
    induction d with
    | zero =>
      intro j m z t hj hm
      obtain ⟨m, rfl⟩ : ∃ q, m = q + 1 := ⟨m - 1, by omega⟩
      rw [F_X0_whereDrawn_k14, if_pos (nI_le (by omega) (by omega))]; rfl
    | succ d ih =>
      intro j m z t hj hm
      obtain ⟨m, rfl⟩ : ∃ q, m = q + 1 := ⟨m - 1, by omega⟩
      rw [F_X0_whereDrawn_k14, if_neg (nI_ge (by omega) (by omega)), Option.bind_some, zway_eq, X_land hw hF hp (zway_lt _), Option.bind_some]
      unfold F_X0_whereDrawn_k61
      rw [nI_1]
      unfold drw
      by_cases e : plnd A p t (zway (z * 1103515245 + 12345)) = -1
      · rw [if_pos e, if_pos e]; exact ih _ m _ _ (by omega) (by omega)
      · rw [if_neg e, if_neg e]; exact ih _ m _ _ (by omega) (by omega)
  unfold F_X0_whereDrawn
  rw [if_pos (ix_nI (by omega) (by decide)), nI_clamp (by omega), (hF.2.2.2.2.2 p hp).2.2.1]
  exact go n 0 FU z _ (by omega) (by unfold FU; omega)
theorem Y_drw {R : Mi} {S : Ml} {A : Af} {T p n : Nat} (hw : wfA T A) (hm : aM A < 2 ^ 30) (hF : YFl R S A) (hp : p < aP A) (hn : n ≤ 40) (z : Int32) : F_X6_onDrawn R S z (nI p) (nI n) = some (drw A p n z (aQ A p).2.2.1) := by
  have hP := hw.1
  have go : ∀ d j m z t, j + d = n → d < m → F_X6_onDrawn_k13 R S m (nI p) (nI n) z t (nI j) = some (drw A p d z t) := by
    intro d
    induction d with
    | zero =>
      intro j m z t hj hm
      obtain ⟨m, rfl⟩ : ∃ q, m = q + 1 := ⟨m - 1, by omega⟩
      rw [F_X6_onDrawn_k13, if_pos (nI_le (by omega) (by omega))]; rfl
    | succ d ih =>
      intro j m' z t hj hm'
      obtain ⟨m', rfl⟩ : ∃ q, m' = q + 1 := ⟨m' - 1, by omega⟩
      rw [F_X6_onDrawn_k13, if_neg (nI_ge (by omega) (by omega)), Option.bind_some, zway_eq, Y_land hw hm hF hp (zway_lt _), Option.bind_some]
      unfold F_X6_onDrawn_k61
      rw [nI_1]
      unfold drw
      by_cases e : plnd A p t (zway (z * 1103515245 + 12345)) = -1
      · rw [if_pos e, if_pos e]; exact ih _ m' _ _ (by omega) (by omega)
      · rw [if_neg e, if_neg e]; exact ih _ m' _ _ (by omega) (by omega)
  unfold F_X6_onDrawn
  rw [Y_on hw hF hp S, Option.bind_some]
  exact go n 0 FU z _ (by omega) (by unfold FU; omega)
def s_drawn (A : Af) (seed one n : Int32) : Int32 := if ix one (aP A) = true then (if ix n 41 = true then drw A one.toNatClampNeg n.toNatClampNeg seed (aQ A one.toNatClampNeg).2.2.1 else -2) else -2
theorem X_drawn {M : Mi} {L : Ml} {A : Af} {T : Nat} (hw : wfA T A) (hF : XFl 1 M L A) (seed one n : Int32) : F_X5_drawn M L seed one n = some (s_drawn A seed one n) := by
  have hP := hw.1
  unfold F_X5_drawn s_drawn
  rw [X_isParty hF.2.2.2.1 hP, show F_X5_isWithin n 40 = some (zb (ix n 41)) from F_isWithinN n (m := 40) (by decide)]
  simp only [Option.bind_some, zb_if]
  by_cases h1 : ix one (aP A) = true
  · rw [if_pos h1, if_pos h1]
    by_cases h2 : ix n 41 = true
    · rw [if_pos h2, if_pos h2]
      obtain ⟨p, hp, rfl⟩ := ix_of h1 (by omega)
      obtain ⟨k, hk, rfl⟩ := ix_of h2 (by decide)
      rw [X_drw hw hF hp (by omega), nI_clamp (show p < 2 ^ 31 by omega), nI_clamp (show k < 2 ^ 31 by omega)]; rfl
    · rw [if_neg h2, if_neg h2]
  · rw [if_neg h1, if_neg h1]
theorem Y_drawn {R : Mi} {S : Ml} {A : Af} {T : Nat} (hw : wfA T A) (hm : aM A < 2 ^ 30) (hF : YFl R S A) (seed one n : Int32) : F_X6_drawn R S seed one n = some (s_drawn A seed one n) := by
  have hP := hw.1
  unfold F_X6_drawn s_drawn
  rw [Y_isOne hF.2.2.2.1 hP, F_inN n 40 rfl]
  simp only [Option.bind_some, zb_if]
  by_cases h1 : ix one (aP A) = true
  · rw [if_pos h1, if_pos h1]
    by_cases h2 : ix n 41 = true
    · rw [if_pos h2, if_pos h2]
      obtain ⟨p, hp, rfl⟩ := ix_of h1 (by omega)
      obtain ⟨k, hk, rfl⟩ := ix_of h2 (by decide)
      rw [Y_drw hw hm hF hp (by omega), nI_clamp (show p < 2 ^ 31 by omega), nI_clamp (show k < 2 ^ 31 by omega)]; rfl
    · rw [if_neg h2, if_neg h2]
  · rw [if_neg h1, if_neg h1]
def blkOf (A : Af) (t : Int32) : Bool := blk t && !tb (aR A) t
def chn8 (A : Af) (p : Nat) (seed : Int32) : Nat → Nat → Nat → Nat
  | 0, _, x => x
  | d + 1, j, x => chn8 A p seed d (j + 1) (if blkOf A (drw A p 8 (seed + nI j) (aQ A p).2.2.1) = true then x + 1 else x)
theorem chn8_le (A : Af) (p : Nat) (seed : Int32) : ∀ d j x, chn8 A p seed d j x ≤ x + d := by
  intro d
  induction d with
  | zero => intro j x; exact Nat.le_refl _
  | succ d ih =>
    intro j x
    unfold chn8
    by_cases h : blkOf A (drw A p 8 (seed + nI j) (aQ A p).2.2.1) = true
    · rw [if_pos h]; have := ih (j + 1) (x + 1); omega
    · rw [if_neg h]; have := ih (j + 1) x; omega
def ok1 (m : Int32) : Bool := decide (1 ≤ m.toInt ∧ m.toInt ≤ 40)
def s_chance (A : Af) (seed m one part : Int32) : Int64 := if ok1 m = true then (if ix one (aP A) = true then (if ix part 2 = true then lowT (chn8 A one.toNatClampNeg seed m.toNatClampNeg 0 0) m.toNatClampNeg part else -4611686018427387904) else -4611686018427387904) else -4611686018427387904
theorem ok1_of {m : Int32} (h : ok1 m = true) : ∃ k, 0 < k ∧ k ≤ 40 ∧ m = nI k := by
  unfold ok1 at h
  rw [decide_eq_true_iff] at h
  refine ⟨m.toInt.toNat, by omega, by omega, ?_⟩
  rw [i_eq, nI_toInt (by omega)]; omega
theorem X_chance {M : Mi} {L : Ml} {A : Af} {T : Nat} (hw : wfA T A) (hF : XFl 1 M L A) (seed m one part : Int32) : F_X5_chance M L seed m one part = some (s_chance A seed m one part) := by
  have hP := hw.1
  have go : ∀ p, p < aP A → ∀ N, 0 < N → N ≤ 40 → ∀ d j m x, j + d = N → d < m → x ≤ j → F_X5_chance_k38 M L m seed (nI N) (nI p) part (nI x) (nI j) = some (lowT (chn8 A p seed d j x) N part) := by
    intro p hp N hN0 hN d
    induction d with
    | zero =>
      intro j m x hj hm hx
      obtain ⟨m, rfl⟩ : ∃ q, m = q + 1 := ⟨m - 1, by omega⟩
      rw [F_X5_chance_k38, if_pos (nI_le (by omega) (by omega)), X_low (by omega) hN0 hN, Option.bind_some]; rfl
    | succ d ih =>
      intro j m x hj hm hx
      obtain ⟨m, rfl⟩ : ∃ q, m = q + 1 := ⟨m - 1, by omega⟩
      have hin := drw_in A p 8 (seed + nI j) _ (hw.2.2 p hp).2.2.1
      obtain ⟨c, hc, ec⟩ := ix_of hin (by decide)
      rw [F_X5_chance_k38, if_neg (nI_ge (by omega) (by omega)), show (8 : Int32) = nI 8 from rfl, X_drw hw hF hp (by decide), Option.bind_some, ec, F_isFoundByX 1 M L hc, Option.bind_some, hF.1]
      unfold F_X5_chance_k72
      simp only [nI_1]
      unfold chn8 blkOf sp_plain
      rw [ec]
      by_cases h1 : tb (aR A) (nI c) = true
      · rw [h1, if_pos rfl, if_neg (show ¬ (2 : Int32) = 1 by decide)]
        have : ¬ (blk (nI c) && !true) = true := by cases blk (nI c) <;> decide
        rw [if_neg this]
        exact ih (j + 1) m x (by omega) (by omega) (by omega)
      · rw [if_neg h1]
        rw [Bool.not_eq_true] at h1
        rw [h1]
        by_cases h2 : blk (nI c) = true
        · rw [h2, if_pos rfl, if_pos rfl, if_pos (show (true && !false) = true by decide)]
          exact ih (j + 1) m (x + 1) (by omega) (by omega) (by omega)
        · rw [if_neg h2, if_neg (show ¬ (0 : Int32) = 1 by decide)]
          rw [Bool.not_eq_true] at h2
          rw [h2, if_neg (show ¬ (false && !false) = true by decide)]
          exact ih (j + 1) m x (by omega) (by omega) (by omega)
  unfold F_X5_chance s_chance
  rw [X_isParty hF.2.2.2.1 hP, show F_X5_isWithin part 1 = some (zb (ix part 2)) from F_isWithinN part (m := 1) (by decide)]
  simp only [Option.bind_some, zb_if]
  by_cases h1 : ok1 m = true
  · rw [if_pos h1]
    obtain ⟨k, hk0, hk, rfl⟩ := ok1_of h1
    rw [if_neg (show ¬ nI k < 1 from nI_nlt (b := 1) (by omega) (by omega)), if_neg (show ¬ (40 : Int32) < nI k from nI_nlt (a := 40) (by omega) (by decide))]
    by_cases h2 : ix one (aP A) = true
    · rw [if_pos h2, if_pos h2]
      by_cases h3 : ix part 2 = true
      · rw [if_pos h3, if_pos h3]
        obtain ⟨p, hp, rfl⟩ := ix_of h2 (by omega)
        rw [nI_clamp (show p < 2 ^ 31 by omega), nI_clamp (show k < 2 ^ 31 by omega)]
        exact go p hp k hk0 hk k 0 FU 0 (by omega) (by unfold FU; omega) (by omega)
      · rw [if_neg h3, if_neg h3]
    · rw [if_neg h2, if_neg h2]
  · rw [if_neg h1]
    unfold ok1 at h1
    rw [decide_eq_true_iff] at h1
    by_cases h2 : m < 1
    · rw [if_pos h2]
    · rw [if_neg h2, if_pos (show (40 : Int32) < m by rw [i_lt] at h2 ⊢; rw [show (1 : Int32).toInt = 1 from rfl] at h2; rw [show (40 : Int32).toInt = 40 from rfl]; omega)]
theorem Y_chance {R : Mi} {S : Ml} {A : Af} {T : Nat} (hw : wfA T A) (hm : aM A < 2 ^ 30) (hF : YFl R S A) (seed m one part : Int32) : F_X6_chance R S seed m one part = some (s_chance A seed m one part) := by
  have hP := hw.1
  have go : ∀ p, p < aP A → ∀ N, 0 < N → N ≤ 40 → ∀ d j m x, j + d = N → d < m → x ≤ j → F_X6_chance_k41 R S m seed (nI N) (nI p) part (lN x) (nI j) = some (lowT (chn8 A p seed d j x) N part) := by
    intro p hp N hN0 hN d
    induction d with
    | zero =>
      intro j m x hj hm hx
      obtain ⟨m, rfl⟩ : ∃ q, m = q + 1 := ⟨m - 1, by omega⟩
      rw [F_X6_chance_k41, if_pos (nI_le (by omega) (by omega)), nI_l (by omega), Y_low (by omega) hN0 hN, Option.bind_some]; rfl
    | succ d ih =>
      intro j m x hj hm' hx
      obtain ⟨m, rfl⟩ : ∃ q, m = q + 1 := ⟨m - 1, by omega⟩
      have hin := drw_in A p 8 (seed + nI j) _ (hw.2.2 p hp).2.2.1
      obtain ⟨c, hc, ec⟩ := ix_of hin (by decide)
      rw [F_X6_chance_k41, if_neg (nI_ge (by omega) (by omega)), show (8 : Int32) = nI 8 from rfl, Y_drw hw hm hF hp (by decide), Option.bind_some, ec, F_isBlackR, Option.bind_some, zb_if, F_hasR _ hc, hF.1, Option.bind_some, zb_if]
      unfold F_X6_chance_k86 F_X6_chance_k87
      rw [nI_1]
      unfold chn8 blkOf
      rw [ec]
      have e0 : lN x + 0 = lN x := lN_add x 0
      by_cases h2 : blk (nI c) = true
      · rw [h2, if_pos rfl]
        by_cases h1 : tb (aR A) (nI c) = true
        · rw [h1, if_pos rfl, if_neg (show ¬ (true && !true) = true by decide), e0]
          exact ih (j + 1) m x (by omega) (by omega) (by omega)
        · rw [if_neg h1]
          rw [Bool.not_eq_true] at h1
          rw [h1, if_pos (show (true && !false) = true by decide), lN_1]
          exact ih (j + 1) m (x + 1) (by omega) (by omega) (by omega)
      · rw [if_neg h2]
        rw [Bool.not_eq_true] at h2
        rw [h2, if_neg (show ¬ (false && !tb (aR A) (nI c)) = true by rw [Bool.false_and]; decide), e0]
        exact ih (j + 1) m x (by omega) (by omega) (by omega)
  unfold F_X6_chance s_chance
  rw [Y_isOne hF.2.2.2.1 hP, F_inN part 1 rfl, F_in]
  simp only [Option.bind_some, zb_if]
  have e1 : (decide ((1 : Int64).toInt ≤ m.toInt64.toInt ∧ m.toInt64.toInt ≤ (40 : Int64).toInt)) = ok1 m := by
    rw [toL]; rfl
  rw [e1]
  by_cases h1 : ok1 m = true
  · rw [if_pos h1, if_pos h1]
    obtain ⟨k, hk0, hk, rfl⟩ := ok1_of h1
    by_cases h2 : ix one (aP A) = true
    · rw [if_pos h2, if_pos h2]
      by_cases h3 : ix part 2 = true
      · rw [if_pos h3, if_pos h3]
        obtain ⟨p, hp, rfl⟩ := ix_of h2 (by omega)
        rw [nI_clamp (show p < 2 ^ 31 by omega), nI_clamp (show k < 2 ^ 31 by omega)]
        exact go p hp k hk0 hk k 0 FU 0 (by omega) (by unfold FU; omega) (by omega)
      · rw [if_neg h3, if_neg h3]
    · rw [if_neg h2, if_neg h2]
  · rw [if_neg h1, if_neg h1]
