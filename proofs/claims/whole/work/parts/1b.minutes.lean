/-! PURE: MINUTES: a floor, what it is behind so many minutes; the class' passMinutes, the reference's passes and goes -/
abbrev Af : Type := Int64 × Int64 × Nat × Nat × Nat × (Nat → Pt)
abbrev aR (A : Af) : Int64 := A.1
abbrev aH (A : Af) : Int64 := A.2.1
abbrev aM (A : Af) : Nat := A.2.2.1
abbrev aP (A : Af) : Nat := A.2.2.2.1
abbrev aU (A : Af) : Nat := A.2.2.2.2.1
abbrev aQ (A : Af) : Nat → Pt := A.2.2.2.2.2
def stl (s : Int32) (p : Nat) : Bool := decide (nI p = s)
def Aft (C : Cd) (s : Int32) (n : Nat) (A : Af) : Af := (aR A, aH A, aM A + n, aP A, aU A, fun p => wk C (aH A) (aM A) (stl s p) n (aQ A p))
/-- who leaps in the next minute, as bits: d of them from j on -/
def lft (C : Cd) (s : Int32) (A : Af) : Nat → Nat → Int32 → Int32
  | 0, _, x => x
  | d + 1, j, x => lft C s A d (j + 1) (x ||| ishl (zb (decide (¬ ptile C (aH A) (nI (aM A)) (stl s j) (aQ A j) = -1))) (nI j))
def wfA (T : Nat) (A : Af) : Prop := aP A ≤ 5 ∧ aU A < T ∧ ∀ p, p < aP A → wfp (aQ A p)
def XFl (b : Nat) (M : Mi) (L : Ml) (A : Af) : Prop := L b 0 = aR A ∧ L b 1 = aH A ∧ M b 2 = nI (aM A) ∧ M b 3 = nI (aP A) ∧ M b 4 = nI (aU A) ∧ ∀ p, p < aP A → XP b M p (aQ A p)
def YFl (R : Mi) (S : Ml) (A : Af) : Prop := S 0 8 = aR A ∧ S 0 9 = aH A ∧ R 0 7 = nI (aM A) ∧ R 0 11 = nI (aP A) ∧ R 0 4 = nI (aU A) ∧ ∀ p, p < aP A → YP R p (aQ A p)
theorem wk_front (C : Cd) (hol : Int64) (st : Bool) (mi : Nat) (q : Pt) : ∀ n, wk C hol mi st (n + 1) q = wk C hol (mi + 1) st n (pst C hol (nI mi) st q)
  | 0 => rfl
  | n + 1 => by
    show pst C hol (nI (mi + (n + 1))) st (wk C hol mi st (n + 1) q) = pst C hol (nI (mi + 1 + n)) st (wk C hol (mi + 1) st n (pst C hol (nI mi) st q))
    rw [wk_front C hol st mi q n, show mi + (n + 1) = mi + 1 + n by omega]
theorem Aft_front (C : Cd) (s : Int32) (n : Nat) (A : Af) : Aft C s n (Aft C s 1 A) = Aft C s (n + 1) A := by
  unfold Aft
  simp only [Prod.mk.injEq, true_and]
  refine ⟨show aM A + 1 + n = aM A + (n + 1) by omega, funext fun p => ?_⟩
  rw [wk_front]; rfl
theorem Aft_back (C : Cd) (s : Int32) (n : Nat) (A : Af) : Aft C s 1 (Aft C s n A) = Aft C s (n + 1) A := rfl
theorem wfA_Aft {C : Cd} {s : Int32} {T : Nat} {A : Af} (h : wfA T A) (n : Nat) : wfA T (Aft C s n A) := ⟨h.1, h.2.1, fun p hp => wfp_wk (h.2.2 p hp) n⟩
theorem ishl0 : ∀ j, j < 5 → ishl 0 (nI j) = 0 := by decide
theorem X_in {E : Ev} {b : Nat} (hb : b + 4 < 21) {L : Ml} {T : Nat} {Tx : Nat → Cd} {A : Af} (hw : wfA T A) (s : Int32) (hH : L b 1 = aH A) (kf6 : Mi → Ml → Int32 → Int32 → Int32 → Int32 → Option (Int32 × Mi × Ml)) (x2 x5 : Int32) :
    ∀ (d j m : Nat) (M : Mi) (x : Int32), j + d = aP A → d < m → XT E M T Tx → M b 2 = nI (aM A) → M b 3 = nI (aP A) → M b 4 = nI (aU A) → (∀ p, p < j → XP b M p (pst (Tx (aU A)) (aH A) (nI (aM A)) (stl s p) (aQ A p))) → (∀ p, j ≤ p → p < aP A → XP b M p (aQ A p)) →
      ∃ M', F_X1_passMinutes_k15 E b kf6 m M L x2 s x x5 (nI j) = kf6 (up2 M' b 2 (nI (aM A + 1))) L x2 s (lft (Tx (aU A)) s A d j x) (x5 + 1) ∧ (∀ p, p < aP A → XP b M' p (pst (Tx (aU A)) (aH A) (nI (aM A)) (stl s p) (aQ A p))) ∧ ∀ k, k ≠ 23 → k ≠ b + 3 → k ≠ b + 4 → M' k = M k := by
  intro d
  induction d with
  | zero =>
    intro j m M x hj hm hT h2 h3 h4 hd ho
    obtain ⟨m, rfl⟩ : ∃ q, m = q + 1 := ⟨m - 1, by omega⟩
    have hP := hw.1
    rw [F_X1_passMinutes_k15, h3, if_pos (nI_le (by omega) (by omega)), h2, nI_1]
    exact ⟨M, rfl, fun p hp => hd p (by omega), fun _ _ _ _ => rfl⟩
  | succ d ih =>
    intro j m M x hj hm hT h2 h3 h4 hd ho
    obtain ⟨m, rfl⟩ : ∃ q, m = q + 1 := ⟨m - 1, by omega⟩
    have hP := hw.1
    obtain ⟨M1, a1, a2, a3, a4⟩ := X_one (L := L) hb hT (show j < 5 by omega) h4 hw.2.1 (ho j (Nat.le_refl _) (by omega)) (hw.2.2 j (by omega)) (stl s j)
    rw [hH, h2] at a1 a2
    have e0 : ∀ (g : Int32 → Option (Int32 × Mi × Ml)), (if nI j = s then g 1 else g 0) = g (zb (stl s j)) := by
      intro g; unfold stl
      by_cases e : nI j = s
      · rw [if_pos e, decide_eq_true e]; rfl
      · rw [if_neg e, decide_eq_false e]; rfl
    rw [F_X1_passMinutes_k15, h3, if_neg (nI_ge (by omega) (by omega)), e0 (fun z => F_X1_passMinutes_k41 E b (F_X1_passMinutes_k15 E b kf6 m) M L x2 s x5 (nI j) x (nI j) z)]
    unfold F_X1_passMinutes_k41
    rw [a1]
    simp only [Option.bind_some]
    have e1 : ∀ (l : Bool) (g : Int32 → Option (Int32 × Mi × Ml)), (if zb l = 0 then g 0 else g (ishl 1 (nI j))) = g (ishl (zb l) (nI j)) := by
      intro l g
      cases l with
      | true => rfl
      | false => rw [if_pos (show zb false = 0 from rfl), show zb false = 0 from rfl, ishl0 j (by omega)]
    rw [e1 _ (fun z => F_X1_passMinutes_k55 E b (F_X1_passMinutes_k15 E b kf6 m) M1 L x2 s x5 (nI j) x z)]
    unfold F_X1_passMinutes_k55
    rw [nI_1]
    have q2 := a3 b (by omega) (by omega) (by omega)
    obtain ⟨M', b1, b2, b3⟩ := ih (j + 1) m M1 (x ||| ishl (zb (decide (¬ ptile (Tx (aU A)) (aH A) (nI (aM A)) (stl s j) (aQ A j) = -1))) (nI j)) (by omega) (by omega) (hT.keep (by rw [a3 21 (by omega) (by omega) (by omega)]) (fun k hk => a3 k (by omega) (by omega) (by omega))) (by rw [q2]; exact h2) (by rw [q2]; exact h3) (by rw [q2]; exact h4) (fun p hp => by
        by_cases e : p = j
        · subst e; exact a2
        · have := hd p (by omega)
          exact ⟨by rw [a3 (b + 1) (by omega) (by omega) (by omega)]; exact this.1, by rw [a3 (b + 2) (by omega) (by omega) (by omega)]; exact this.2.1, by rw [(a4 p e).1]; exact this.2.2.1, by rw [(a4 p e).2]; exact this.2.2.2⟩) (fun p hp hp2 => by
        have := ho p (by omega) hp2
        have e : p ≠ j := by omega
        exact ⟨by rw [a3 (b + 1) (by omega) (by omega) (by omega)]; exact this.1, by rw [a3 (b + 2) (by omega) (by omega) (by omega)]; exact this.2.1, by rw [(a4 p e).1]; exact this.2.2.1, by rw [(a4 p e).2]; exact this.2.2.2⟩)
    exact ⟨M', b1, b2, fun k h1 h2 h3 => (b3 k h1 h2 h3).trans (a3 k h1 h2 h3)⟩
theorem X_minutes {E : Ev} {b : Nat} (hb : b + 4 < 21) {L : Ml} {T : Nat} {Tx : Nat → Cd} (s : Int32) : ∀ (n k m : Nat) (M : Mi) (A : Af) (x : Int32), wfA T A → XT E M T Tx → XFl b M L A → n < m → k + n < 2 ^ 30 →
    ∃ M' x', F_X1_passMinutes_k6 E b m M L (nI (k + n)) s x (nI k) = some (x', M', L) ∧ XFl b M' L (Aft (Tx (aU A)) s n A) ∧ (∀ i, i ≠ 23 → (i < b ∨ b + 4 < i) → M' i = M i) ∧ (n = 1 → x' = lft (Tx (aU A)) s A (aP A) 0 x) ∧ ∀ j, j ≠ 2 → M' b j = M b j := by
  intro n
  induction n with
  | zero =>
    intro k m M A x hw hT hF hm hk
    obtain ⟨m, rfl⟩ : ∃ q, m = q + 1 := ⟨m - 1, by omega⟩
    rw [F_X1_passMinutes_k6, if_pos (nI_le (by omega) (by omega))]
    exact ⟨M, x, rfl, hF, fun _ _ _ => rfl, fun h => absurd h (by decide), fun _ _ => rfl⟩
  | succ n ih =>
    intro k m M A x hw hT hF hm hk
    obtain ⟨m, rfl⟩ : ∃ q, m = q + 1 := ⟨m - 1, by omega⟩
    obtain ⟨f0, f1, f2, f3, f4, f5⟩ := hF
    obtain ⟨M1, a1, a2, a3⟩ := X_in hb hw s f1 (F_X1_passMinutes_k6 E b m) (nI (k + (n + 1))) (nI k) (aP A) 0 FU M x (by omega) (by have := hw.1; unfold FU; omega) hT f2 f3 f4 (fun p hp => absurd hp (by omega)) (fun p _ hp => f5 p hp)
    rw [F_X1_passMinutes_k6, if_neg (nI_ge (by omega) (by omega)), show (0 : Int32) = nI 0 from rfl, a1, nI_1]
    have q1 := a3 b (by omega) (by omega) (by omega)
    have g : XFl b (up2 M1 b 2 (nI (aM A + 1))) L (Aft (Tx (aU A)) s 1 A) := by
      refine ⟨f0, f1, up2_at _ _ _ _, ?_, ?_, fun p hp => ?_⟩
      · rw [up2_b (by decide), q1]; exact f3
      · rw [up2_b (by decide), q1]; exact f4
      · have := a2 p hp
        exact ⟨by rw [up2_a (by omega)]; exact this.1, by rw [up2_a (by omega)]; exact this.2.1, by rw [up2_a (by omega)]; exact this.2.2.1, by rw [up2_a (by omega)]; exact this.2.2.2⟩
    obtain ⟨M', x', b1, b2, b3, b4, b5⟩ := ih (k + 1) m _ _ (lft (Tx (aU A)) s A (aP A) 0 x) (wfA_Aft hw 1) (hT.keep (by rw [up2_a (by omega), a3 21 (by omega) (by omega) (by omega)]) (fun i hi => by rw [up2_ne (by omega), a3 i (by omega) (by omega) (by omega)])) g (by omega) (by omega)
    rw [show k + 1 + n = k + (n + 1) by omega] at b1
    refine ⟨M', x', b1, by rw [← Aft_front]; exact b2, fun i h1 h2 => ?_, fun h => ?_, fun j hj => ?_⟩
    · rw [b3 i h1 h2, up2_ne (by omega), a3 i h1 (by omega) (by omega)]
    · have : n = 0 := by omega
      subst this
      obtain ⟨m, rfl⟩ : ∃ q, m = q + 1 := ⟨m - 1, by omega⟩
      rw [F_X1_passMinutes_k6, if_pos (nI_le (by omega) (by omega))] at b1
      simp only [Option.some.injEq, Prod.mk.injEq] at b1
      exact b1.1.symm
    · rw [b5 j hj, up2_b hj, q1]
/-- what passing minutes leaves of the reference -/
def KY (R R' : Mi) (S S' : Ml) : Prop := (∀ k, k ≠ 0 → k ≠ 4 → R' k = R k) ∧ (∀ j, j < 13 → j ≠ 7 → R' 0 j = R 0 j) ∧ (∀ j, 27 < j → R' 0 j = R 0 j) ∧ ∀ k j, (k ≠ 0 ∨ j ≠ 24) → S' k j = S k j
theorem KY.rfl' (R : Mi) (S : Ml) : KY R R S S := ⟨fun _ _ _ => rfl, fun _ _ _ => rfl, fun _ _ => rfl, fun _ _ _ => rfl⟩
theorem KY.trans {R R' R'' : Mi} {S S' S'' : Ml} (h : KY R R' S S') (g : KY R' R'' S' S'') : KY R R'' S S'' :=
  ⟨fun k a b => (g.1 k a b).trans (h.1 k a b), fun j a b => (g.2.1 j a b).trans (h.2.1 j a b), fun j a => (g.2.2.1 j a).trans (h.2.2.1 j a), fun k j a => (g.2.2.2 k j a).trans (h.2.2.2 k j a)⟩
theorem KY.yt {R R' : Mi} {S S' : Ml} {T : Nat} {Tx : Nat → Cd} (h : KY R R' S S') (g : YT R T Tx) : YT R' T Tx := g.keep (h.2.1 3 (by decide) (by decide)) (h.1 1 (by decide) (by decide)) (h.1 2 (by decide) (by decide))
theorem Y_in {T : Nat} {Tx : Nat → Cd} {A : Af} (hw : wfA T A) (s : Int32) (hmi : aM A < 2 ^ 30) :
    ∀ (d j m : Nat) (R : Mi) (S : Ml) (x : Int32), j + d = aP A → d < m → YT R T Tx → R 0 12 = s → S 0 9 = aH A → R 0 7 = nI (aM A) → R 0 11 = nI (aP A) → R 0 4 = nI (aU A) → (∀ p, p < j → YP R p (pst (Tx (aU A)) (aH A) (nI (aM A)) (stl s p) (aQ A p))) → (∀ p, j ≤ p → p < aP A → YP R p (aQ A p)) →
      ∃ R' S', F_X6_passes_k4 m R S x (nI j) = some (lft (Tx (aU A)) s A d j x, R', S') ∧ R' 0 7 = nI (aM A + 1) ∧ (∀ p, p < aP A → YP R' p (pst (Tx (aU A)) (aH A) (nI (aM A)) (stl s p) (aQ A p))) ∧ KY R R' S S' := by
  intro d
  induction d with
  | zero =>
    intro j m R S x hj hm hT h12 hH h7 h11 h4 hd ho
    obtain ⟨m, rfl⟩ : ∃ q, m = q + 1 := ⟨m - 1, by omega⟩
    have hP := hw.1
    rw [F_X6_passes_k4, h11, if_pos (nI_le (by omega) (by omega)), h7, nI_1]
    refine ⟨up2 R 0 7 (nI (aM A + 1)), S, rfl, up2_at _ _ _ _, fun p hp => ?_, fun k h1 h2 => up2_ne h1, fun j _ h2 => up2_b h2, fun j h1 => up2_b (by omega), fun _ _ _ => rfl⟩
    have := hd p (by omega)
    exact ⟨by rw [up2_a (by decide)]; exact this.1, by rw [up2_a (by decide)]; exact this.2.1, by rw [up2_a (by decide)]; exact this.2.2.1, by rw [up2_a (by decide)]; exact this.2.2.2⟩
  | succ d ih =>
    intro j m R S x hj hm hT h12 hH h7 h11 h4 hd ho
    obtain ⟨m, rfl⟩ : ∃ q, m = q + 1 := ⟨m - 1, by omega⟩
    obtain ⟨R1, S1, a1, a2, a3, a4, a5, a6, a7⟩ := Y_one (S := S) hT (show j < aP A by omega) hw.1 h11 (by rw [h7]; exact nI_pos' (by omega)) h4 hw.2.1 (ho j (Nat.le_refl _) (by omega)) (hw.2.2 j (by omega)) m x
    rw [hH, h7, h12] at a1 a2
    obtain ⟨R', S', b1, b2, b3, b4⟩ := ih (j + 1) m R1 S1 (x ||| ishl (zb (decide (¬ ptile (Tx (aU A)) (aH A) (nI (aM A)) (stl s j) (aQ A j) = -1))) (nI j)) (by omega) (by omega) (hT.keep (a5 3 (by decide)) (a3 1 (by decide) (by decide)) (a3 2 (by decide) (by decide))) (by rw [a5 12 (by decide)]; exact h12) (by rw [a7 0 9 (Or.inr (by decide))]; exact hH) (by rw [a5 7 (by decide)]; exact h7) (by rw [a5 11 (by decide)]; exact h11) (by rw [a5 4 (by decide)]; exact h4) (fun p hp => by
        by_cases e : p = j
        · subst e; exact a2
        · have := hd p (by omega)
          exact ⟨by rw [a4 _ (by omega) (by omega)]; exact this.1, by rw [a4 _ (by omega) (by omega)]; exact this.2.1, by rw [a4 _ (by omega) (by omega)]; exact this.2.2.1, by rw [a4 _ (by omega) (by omega)]; exact this.2.2.2⟩) (fun p hp hp2 => by
        have := ho p (by omega) hp2
        exact ⟨by rw [a4 _ (by omega) (by omega)]; exact this.1, by rw [a4 _ (by omega) (by omega)]; exact this.2.1, by rw [a4 _ (by omega) (by omega)]; exact this.2.2.1, by rw [a4 _ (by omega) (by omega)]; exact this.2.2.2⟩)
    exact ⟨R', S', a1.trans b1, b2, b3, KY.trans ⟨fun k h1 h2 => a3 k h1 h2, fun j h1 _ => a5 j h1, a6, a7⟩ b4⟩
theorem Y_passes {T : Nat} {Tx : Nat → Cd} {A : Af} {R : Mi} {S : Ml} (hw : wfA T A) (hmi : aM A < 2 ^ 30) (hT : YT R T Tx) (hF : YFl R S A) :
    ∃ R' S', F_X6_passes R S = some (lft (Tx (aU A)) (R 0 12) A (aP A) 0 0, R', S') ∧ YFl R' S' (Aft (Tx (aU A)) (R 0 12) 1 A) ∧ KY R R' S S' := by
  obtain ⟨f0, f1, f2, f3, f4, f5⟩ := hF
  obtain ⟨R', S', a1, a2, a3, a4⟩ := Y_in hw (R 0 12) hmi (aP A) 0 FU R S 0 (by omega) (by have := hw.1; unfold FU; omega) hT rfl f1 f2 f3 f4 (fun p hp => absurd hp (by omega)) (fun p _ hp => f5 p hp)
  refine ⟨R', S', a1, ⟨?_, ?_, a2, ?_, ?_, a3⟩, a4⟩
  · rw [a4.2.2.2 0 8 (Or.inr (by decide))]; exact f0
  · rw [a4.2.2.2 0 9 (Or.inr (by decide))]; exact f1
  · rw [a4.2.1 11 (by decide) (by decide)]; exact f3
  · rw [a4.2.1 4 (by decide) (by decide)]; exact f4
theorem Y_goes_k {T : Nat} {Tx : Nat → Cd} (s : Int32) : ∀ (n k m : Nat) (R : Mi) (S : Ml) (A : Af), wfA T A → aM A + n < 2 ^ 30 → YT R T Tx → YFl R S A → R 0 12 = s → n < m → k + n < 2 ^ 30 →
    ∃ R' S', F_X6_goes_k2 m R S (nI (k + n)) (nI k) = some (R', S') ∧ YFl R' S' (Aft (Tx (aU A)) s n A) ∧ KY R R' S S' := by
  intro n
  induction n with
  | zero =>
    intro k m R S A hw hmi hT hF hs hm hk
    obtain ⟨m, rfl⟩ : ∃ q, m = q + 1 := ⟨m - 1, by omega⟩
    rw [F_X6_goes_k2, if_pos (nI_le (by omega) (by omega))]
    exact ⟨R, S, rfl, hF, KY.rfl' R S⟩
  | succ n ih =>
    intro k m R S A hw hmi hT hF hs hm hk
    obtain ⟨m, rfl⟩ : ∃ q, m = q + 1 := ⟨m - 1, by omega⟩
    obtain ⟨R1, S1, a1, a2, a3⟩ := Y_passes hw (by omega) hT hF
    rw [hs] at a1 a2
    rw [F_X6_goes_k2, if_neg (nI_ge (by omega) (by omega)), a1]
    simp only [Option.bind_some, nI_1]
    obtain ⟨R', S', b1, b2, b3⟩ := ih (k + 1) m R1 S1 _ (wfA_Aft hw 1) (by show aM A + 1 + n < 2 ^ 30; omega) (a3.yt hT) a2 (by rw [a3.2.1 12 (by decide) (by decide)]; exact hs) (by omega) (by omega)
    rw [show k + 1 + n = k + (n + 1) by omega] at b1
    exact ⟨R', S', b1, by rw [← Aft_front]; exact b2, a3.trans b3⟩
theorem Y_goes {T : Nat} {Tx : Nat → Cd} {A : Af} {R : Mi} {S : Ml} {n : Nat} (hw : wfA T A) (hmi : aM A + n < 2 ^ 30) (hT : YT R T Tx) (hF : YFl R S A) (hn : n < 900) :
    ∃ R' S', F_X6_goes R S (nI n) = some (R', S') ∧ YFl R' S' (Aft (Tx (aU A)) (R 0 12) n A) ∧ KY R R' S S' := by
  obtain ⟨R', S', a, b, c⟩ := Y_goes_k (R 0 12) n 0 FU R S A hw hmi hT hF rfl (by unfold FU; omega) (by omega)
  rw [Nat.zero_add] at a
  exact ⟨R', S', a, b, c⟩
theorem X_pass {E : Ev} {b : Nat} (hb : b + 4 < 21) {T : Nat} {Tx : Nat → Cd} {A : Af} {M : Mi} {L : Ml} {n : Nat} (hw : wfA T A) (hT : XT E M T Tx) (hF : XFl b M L A) (hn : n < 900) (s : Int32) :
    ∃ M' x', F_X1_passMinutes E b M L (nI n) s = some (x', M', L) ∧ XFl b M' L (Aft (Tx (aU A)) s n A) ∧ (∀ i, i ≠ 23 → (i < b ∨ b + 4 < i) → M' i = M i) ∧ (n = 1 → x' = lft (Tx (aU A)) s A (aP A) 0 0) ∧ ∀ j, j ≠ 2 → M' b j = M b j := by
  obtain ⟨M', x', a⟩ := X_minutes hb s n 0 FU M A 0 hw hT hF (by unfold FU; omega) (by omega)
  rw [Nat.zero_add] at a
  exact ⟨M', x', a⟩
