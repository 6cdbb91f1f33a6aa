/-! PURE: the first that is otherwise -/
def fsG (C : Cd) (hol : Int64) (mi : Nat) (q : Pt) (it : Nat → Int32) : Nat → Nat → Int32
  | 0, _ => -1
  | d + 1, k => if it k = (wk C hol mi false (k + 1) q).2.2.1 then fsG C hol mi q it d (k + 1) else nI k
def fst1 (X : Nat → Cd) (B : Af) (p : Nat) (it : Nat → Int32) (size : Nat) : Int32 := fsG (X (aU B)) (aH B) (aM B) (aQ B p) it size 0
theorem X_first {E : Ev} {σ : Sg} {B : Af} (hw : wfA (uT σ) B) {M : Mi} {L : Ml} {s p size : Nat} {it : Nat → Int32} (hs : s < 4) (hz : size ≤ 40) (h : XI E M L σ) (hF : XFl 6 M L B) (hp : p < aP B) (h2 : M (28 + 2 * s) 2 = nI size) (hi : ∀ i, i < size → M (28 + 2 * s + 1) i = it i) :
    ∃ M', F_X5_firstOtherwise E (28 + 2 * s) M L (nI p) = some (fst1 (uX σ) B p it size, M', L) ∧ XI E M' L σ ∧ ∀ k, k ≠ 23 → (k < 6 ∨ 10 < k) → M' k = M k := by
  have hP := hw.1
  obtain ⟨f0, f1, f2, f3, f4, f5⟩ := hF
  have go : ∀ d j m M1, j + d = size → d < m → (∀ k, k ≠ 23 → (k < 6 ∨ 10 < k) → M1 k = M k) → M1 6 2 = nI (aM B + j) → M1 6 4 = nI (aU B) → XP 6 M1 p (wk (uX σ (aU B)) (aH B) (aM B) false j (aQ B p)) → ∃ M', F_X5_firstOtherwise_k2 E (28 + 2 * s) m M1 L (nI p) (nI j) = some (fsG (uX σ (aU B)) (aH B) (aM B) (aQ B p) it d j, M', L) ∧ ∀ k, k ≠ 23 → (k < 6 ∨ 10 < k) → M' k = M k := by
    intro d
    induction d with
    | zero =>
      intro j m M1 hj hm hk q2 q4 hq
      obtain ⟨m, rfl⟩ : ∃ q, m = q + 1 := ⟨m - 1, by omega⟩
      rw [F_X5_firstOtherwise_k2, hk _ (by omega) (by omega), h2, if_pos (nI_le (by omega) (by omega))]
      exact ⟨M1, rfl, hk⟩
    | succ d ih =>
      intro j m M1 hj hm hk q2 q4 hq
      obtain ⟨m, rfl⟩ : ∃ q, m = q + 1 := ⟨m - 1, by omega⟩
      obtain ⟨M2, a1, a2, a3, a4⟩ := X_one (L := L) (b := 6) (by decide) (h.2.2.1.keep (by rw [hk 21 (by decide) (by decide)]) (fun k hk' => hk k (by omega) (by omega))) (show p < 5 by omega) q4 hw.2.1 hq (wfp_wk (hw.2.2 p hp) j) false
      replace a1 : F_X1_passOne E 6 M1 L (nI p) 0 = _ := a1
      rw [f1, q2] at a2
      have k2 : ∀ k, k ≠ 23 → (k < 6 ∨ 10 < k) → up2 M2 6 2 (nI (aM B + j + 1)) k = M k := fun k h1 h3 => by rw [up2_ne (by omega), a3 k h1 (by omega) (by omega), hk k h1 h3]
      have e6 : M2 6 = M1 6 := a3 6 (by decide) (by decide) (by decide)
      rw [F_X5_firstOtherwise_k2, hk _ (by omega) (by omega), h2, if_neg (nI_ge (by omega) (by omega)), a1]
      simp only [Option.bind_some]
      rw [if_pos (ix_nI (by omega) (by decide)), if_pos (ix_nI (by omega) (by decide)), e6, q2, nI_1, nI_1, nI_clamp (show j < 2 ^ 31 by omega), nI_clamp (show p < 2 ^ 31 by omega), k2 (28 + 2 * s + 1) (by omega) (by omega), hi j (by omega), up2_a (show 9 ≠ 6 by decide), a2.2.2.1]
      unfold fsG
      by_cases e : it j = (wk (uX σ (aU B)) (aH B) (aM B) false (j + 1) (aQ B p)).2.2.1
      · rw [if_pos e, if_pos (show it j = (pst (uX σ (aU B)) (aH B) (nI (aM B + j)) false (wk (uX σ (aU B)) (aH B) (aM B) false j (aQ B p))).2.2.1 from e)]
        refine ih (j + 1) m _ (by omega) (by omega) k2 (up2_at _ _ _ _) ?_ ⟨(up2_a (by decide)).trans a2.1, (up2_a (by decide)).trans a2.2.1, (up2_a (by decide)).trans a2.2.2.1, (up2_a (by decide)).trans a2.2.2.2⟩
        rw [up2_b (by decide), e6]; exact q4
      · rw [if_neg e, if_neg (show ¬ it j = (pst (uX σ (aU B)) (aH B) (nI (aM B + j)) false (wk (uX σ (aU B)) (aH B) (aM B) false j (aQ B p))).2.2.1 from e)]
        exact ⟨_, rfl, k2⟩
  obtain ⟨M', a1, a2⟩ := go size 0 FU M (by omega) (by unfold FU; omega) (fun _ _ _ => rfl) f2 f4 (f5 p hp)
  exact ⟨M', a1, h.keep (fun k h1 h3 => a2 k h1 (by omega)) (fun _ _ => rfl), a2⟩
theorem stl_m1 {p : Nat} (hp : p < 5) : stl (-1) p = false := by
  unfold stl
  exact decide_eq_false (fun q => by rw [i_eq, nI_toInt (by omega), show (-1 : Int32).toInt = -1 from rfl] at q; omega)
theorem Aft_on {C : Cd} {A : Af} {p : Nat} (hp : p < 5) (n : Nat) : aQ (Aft C (-1) n A) p = wk C (aH A) (aM A) false n (aQ A p) := by
  show wk C (aH A) (aM A) (stl (-1) p) n (aQ A p) = _
  rw [stl_m1 hp]
theorem Y_first {σ : Sg} (hw : wfA (uT σ) (uA σ)) (hmi : aM (uA σ) ≤ 999) {R : Mi} {S : Ml} {s p size : Nat} {it : Nat → Int32} (hs : s < 4) (hz : size ≤ 40) (h : YI R S σ) (hp : p < aP (uA σ)) (h2 : R 9 s = nI size) (hi : ∀ i, i < size → R 10 (40 * s + i) = it i) :
    ∃ R' S', F_X6_firstOther R S (nI s) (nI p) = some (fst1 (uX σ) (uA σ) p it size, R', S') ∧ YI R' S' σ := by
  have hP := hw.1
  obtain ⟨R0, a1, a2, a3⟩ := Y_aside (S := S) hP h.1
  have fin : ∀ R1 S1 j v, KY R0 R1 S S1 → YFl R1 S1 (Aft (uX σ (aU (uA σ))) (-1) j (uA σ)) → ∃ R' S', F_X6_firstOther_k63 R1 S1 v = some (v, R', S') ∧ YI R' S' σ := by
    intro R1 S1 j v hK hF
    obtain ⟨R3, c1, c2, c3, c4⟩ := Y_lback hP (a2.ky hK) hF rfl rfl rfl rfl
    unfold F_X6_firstOther_k63
    rw [c1]
    exact ⟨R3, S1, rfl, h.kt c2 (KT_of a3 hK c3 c4 c2.2.2.1 h.1.2.2.1)⟩
  have go : ∀ d j m R1 S1, j + d = size → d + 1 < m → KY R0 R1 S S1 → YFl R1 S1 (Aft (uX σ (aU (uA σ))) (-1) j (uA σ)) → ∃ R' S', F_X6_firstOther_k9 m R1 S1 (nI s) (nI p) (-1) (nI j) = some (fsG (uX σ (aU (uA σ))) (aH (uA σ)) (aM (uA σ)) (aQ (uA σ) p) it d j, R', S') ∧ YI R' S' σ := by
    intro d
    induction d with
    | zero =>
      intro j m R1 S1 hj hm hK hF
      obtain ⟨m, rfl⟩ : ∃ q, m = q + 1 := ⟨m - 1, by omega⟩
      rw [F_X6_firstOther_k9, if_pos (ix_nI hs (by decide)), nI_clamp (by omega), hK.1 9 (by decide) (by decide), a3 9 (by decide), h2, if_pos (nI_le (by omega) (by omega))]
      exact fin R1 S1 j (-1) hK hF
    | succ d ih =>
      intro j m R1 S1 hj hm hK hF
      obtain ⟨m, rfl⟩ : ∃ q, m = q + 1 := ⟨m - 1, by omega⟩
      have hwj := wfA_Aft (C := uX σ (aU (uA σ))) (s := -1) hw j
      obtain ⟨R2, S2, b1, b2, b3⟩ := Y_passes (S := S1) hwj (by show aM (uA σ) + j < 2 ^ 30; omega) (hK.yt (h.2.2.1.off5 a3)) hF
      have r12 : R1 0 12 = -1 := (hK.2.1 12 (by decide) (by decide)).trans (by rw [a3 0 (by decide)]; exact h.2.2.2.2.2)
      rw [r12] at b1 b2
      replace b2 : YFl R2 S2 (Aft (uX σ (aU (uA σ))) (-1) (j + 1) (uA σ)) := b2
      have hK2 := hK.trans b3
      have e10 : R2 10 = R 10 := (hK2.1 10 (by decide) (by decide)).trans (a3 10 (by decide))
      have e9 : R2 9 s = nI size := by rw [hK2.1 9 (by decide) (by decide), a3 9 (by decide)]; exact h2
      have i40 : (40 : Int32) * nI s + nI j = nI (40 * s + j) := by rw [show (40 : Int32) = nI 40 from rfl, pk_mul, nI_add]
      rw [F_X6_firstOther_k9, if_pos (ix_nI hs (by decide)), nI_clamp (show s < 2 ^ 31 by omega), hK.1 9 (by decide) (by decide), a3 9 (by decide), h2, if_neg (nI_ge (by omega) (by omega)), if_pos (show (-1 : Int32) = -1 from rfl), b1]
      simp only [Option.bind_some]
      rw [Y_on (wfA_Aft hw (j + 1)) b2 hp S2]
      simp only [Option.bind_some]
      rw [i40, if_pos (ix_nI (by omega) (by decide)), nI_clamp (show 40 * s + j < 2 ^ 31 by omega), e10, hi j (by omega), Aft_on (by omega)]
      unfold F_X6_firstOther_k56
      rw [nI_1]
      unfold fsG
      by_cases e : it j = (wk (uX σ (aU (uA σ))) (aH (uA σ)) (aM (uA σ)) false (j + 1) (aQ (uA σ) p)).2.2.1
      · rw [if_pos e, if_pos e.symm]; exact ih (j + 1) m R2 S2 (by omega) (by omega) hK2 b2
      · rw [if_neg e, if_neg (fun q => e q.symm)]
        obtain ⟨m, rfl⟩ : ∃ q, m = q + 1 := ⟨m - 1, by omega⟩
        rw [F_X6_firstOther_k9, if_pos (ix_nI hs (by decide)), nI_clamp (show s < 2 ^ 31 by omega), e9, if_neg (show ¬ nI j = -1 from fun q => by rw [i_eq, nI_toInt (by omega), show (-1 : Int32).toInt = -1 from rfl] at q; omega), ite_self]
        exact fin R2 S2 (j + 1) (nI j) hK2 b2
  obtain ⟨R', S', c1, c2⟩ := go size 0 FU R0 S (by omega) (by unfold FU; omega) (KY.rfl' _ _) (h.1.off5 a3)
  unfold F_X6_firstOther
  rw [a1]; simp only [Option.bind_some]
  exact ⟨R', S', c1, c2⟩
/-! down and up -/
theorem ior_assoc (a b c : Int32) : (a ||| b) ||| c = a ||| (b ||| c) := by
  rw [← Int32.toBitVec_inj]; simp only [Int32.toBitVec_or, BitVec.or_assoc]
theorem ior_comm (a b : Int32) : a ||| b = b ||| a := by
  rw [← Int32.toBitVec_inj]; simp only [Int32.toBitVec_or]; exact BitVec.or_comm _ _
theorem ior_0 (a : Int32) : (0 : Int32) ||| a = a := by
  rw [← Int32.toBitVec_inj]; simp
def dsG (G : Nat → Bool) : Nat → Int32 × Int32 × Int32 → Int32 × Int32 × Int32
  | 0, t => t
  | d + 1, t => dsG G d (if G d = true then (t.1 ||| (if d < 10 then ishl 1 (nI d) else 0), t.2.1 + 1, nI d) else t)
def upB (G : Nat → Bool) (v : Nat) (x : Int32) : Int32 := if G v = true then x ||| ishl 1 (nI v) else x
def upC (G : Nat → Bool) (v : Nat) (x : Int32 × Int32) : Int32 × Int32 := if G v = true then (x.1 + 1, if x.2 = -1 then nI v else x.2) else x
theorem fo_last {α : Type} (g : Nat → α → α) (N : Nat) (x : α) : fo g (N + 1) 0 x = g N (fo g N 0 x) := by
  rw [fo_add g N 1 0 x, Nat.zero_add]; rfl
theorem ds_bits (G : Nat → Bool) : ∀ N, N ≤ 10 → ∀ t, (dsG G N t).1 = t.1 ||| fo (upB G) N 0 0 := by
  intro N
  induction N with
  | zero => intro _ t; show t.1 = t.1 ||| 0; rw [ior_comm, ior_0]
  | succ N ih =>
    intro hN t
    rw [fo_last, dsG, ih (by omega)]
    unfold upB
    by_cases e : G N = true
    · rw [if_pos e, if_pos e, if_pos (show N < 10 by omega)]
      show (t.1 ||| ishl 1 (nI N)) ||| _ = t.1 ||| (_ ||| ishl 1 (nI N))
      rw [ior_assoc, ior_comm (ishl 1 (nI N))]
    · rw [if_neg e, if_neg e]
theorem ds_many (G : Nat → Bool) : ∀ N t, (dsG G N t).2.1 = t.2.1 + (fo (upC G) N 0 (0, -1)).1 := by
  intro N
  induction N with
  | zero => intro t; show t.2.1 = t.2.1 + 0; rw [Int32.add_zero]
  | succ N ih =>
    intro t
    rw [fo_last, dsG, ih]
    unfold upC
    by_cases e : G N = true
    · rw [if_pos e, if_pos e]
      show (t.2.1 + 1) + _ = t.2.1 + (_ + 1)
      rw [Int32.add_assoc, Int32.add_comm 1]
    · rw [if_neg e, if_neg e]
theorem nI_m1n {N : Nat} (h : N < 2 ^ 31) : ¬ nI N = -1 := fun q => by rw [i_eq, nI_toInt h, show (-1 : Int32).toInt = -1 from rfl] at q; omega
theorem ds_least (G : Nat → Bool) : ∀ N, N ≤ 1000 → ∀ t, (dsG G N t).2.2 = if (fo (upC G) N 0 (0, -1)).2 = -1 then t.2.2 else (fo (upC G) N 0 (0, -1)).2 := by
  intro N
  induction N with
  | zero => intro _ t; show t.2.2 = _; rw [if_pos (show (fo (upC G) 0 0 ((0 : Int32), (-1 : Int32))).2 = -1 from rfl)]
  | succ N ih =>
    intro hN t
    rw [fo_last, dsG, ih (by omega)]
    generalize fo (upC G) N 0 (0, -1) = y
    unfold upC
    by_cases e : G N = true
    · rw [if_pos e, if_pos e]
      dsimp only
      by_cases e2 : y.2 = -1
      · rw [if_pos e2, if_neg (nI_m1n (by omega))]
      · rw [if_neg e2, if_neg e2]
    · rw [if_neg e, if_neg e]
