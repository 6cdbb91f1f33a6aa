/-! PURE: THE MODEL: a party, a rule's code, a party's walk; the class' and the reference's pass of one party in its words -/
abbrev Pt : Type := Int32 × Int32 × Int32 × Int32
abbrev Cd : Type := List Int32 × Nat × Nat
def nmA (hol : Int64) (mi : Int32) (q : Pt) (x : Int32) : Int32 := if x = -5 then mi else if x = -4 then q.2.1 else if x = -3 then q.2.2.1 / 8 else if x = -2 then irm q.2.2.1 8 else if x = -1 then q.2.2.2 else nI (pcn 64 (vN hol))
def sgC (C : Cd) (w : Nat) : List Int32 := seg C.1 (segA (nI w) C.2.1 C.2.2) (segB (nI w) C.2.1 C.2.2 C.1.length)
/-- what part w of a code tells under names -/
def vw (C : Cd) (w : Nat) (ρ : Int32 → Int32) : Int32 := match rnn ρ (sgC C w) [] with
  | some (v :: _) => v
  | _ => 0
/-- a code that some text says -/
def TV (C : Cd) : Prop := ∃ (f : Nat → Int32) (n : Nat), n ≤ 160 ∧ (∀ i, i < n → 0 ≤ (f i).toInt) ∧ ptext f n = .inr C
theorem VV.vw_eq {C : Cd} {w : Nat} {ρ : Int32 → Int32} {v : Int32} (h : VV ρ (sgC C w) 31 v) : vw C w ρ = v := by
  unfold vw; rw [h [] (by simp)]
theorem TV.vv {C : Cd} (h : TV C) (hol : Int64) (mi : Int32) (q : Pt) {w : Nat} (hw : w < 3) : VV (nmA hol mi q) (sgC C w) 31 (vw C w (nmA hol mi q)) := by
  obtain ⟨f, n, hn, hf, hp⟩ := h
  obtain ⟨c, e1, e2⟩ := C
  obtain ⟨v, M', L', a1, a2, a3⟩ := R_says (fun k j => if k = 0 then (if j = 4 then 0 else if j = 7 then mi else 0) else if k = 1 then f j else if k = 2 then nI n else if j = 0 then q.2.1 else if j = 1 then q.2.2.1 else if j = 2 then q.2.2.2 else q.1) (fun _ _ => hol) (p := 0) (r := 0) (w := w) (n := n) (f := f) (c := c) (e1 := e1) (e2 := e2) (by decide) hw rfl (by decide) ⟨hn, rfl, fun i hi => by show f (160 * 0 + i) = f i; rw [Nat.mul_zero, Nat.zero_add], hf, hp⟩
  replace a3 : VV (nmA hol mi q) (sgC (c, e1, e2) w) 31 v := a3
  rw [a3.vw_eq]; exact a3
def wfp (q : Pt) : Prop := ix q.1 6 = true ∧ ix q.2.1 10 = true ∧ ix q.2.2.1 64 = true ∧ ix q.2.2.2 100 = true
def ptile (C : Cd) (hol : Int64) (mi : Int32) (st : Bool) (q : Pt) : Int32 := sp_tile st hol q.1 q.2.1 q.2.2.2 mi q.2.2.1 (vw C 0 (nmA hol mi q))
def pst (C : Cd) (hol : Int64) (mi : Int32) (st : Bool) (q : Pt) : Pt :=
  (q.1, q.2.1, if ptile C hol mi st q = -1 then q.2.2.1 else ptile C hol mi st q, sp_wear (ptile C hol mi st q) q.1 q.2.1 q.2.2.2 (vw C 1 (nmA hol mi q)) (vw C 2 (nmA hol mi q)))
/-- where a party is behind so many minutes -/
def wk (C : Cd) (hol : Int64) (mi : Nat) (st : Bool) : Nat → Pt → Pt
  | 0, q => q
  | t + 1, q => pst C hol (nI (mi + t)) st (wk C hol mi st t q)
theorem ix_r {x : Int32} {n : Nat} (h : ix x n = true) : 0 ≤ x.toInt ∧ x.toInt < n := (ix_iff x n).mp h
theorem ix99 {x : Int32} (h : ix x 100 = true) : 0 ≤ x ∧ x ≤ 99 := by
  have := ix_r h
  rw [i_le, i_le]
  have e0 : (0 : Int32).toInt = 0 := rfl
  have e1 : (99 : Int32).toInt = 99 := rfl
  omega
theorem ix99' {x : Int32} (h : 0 ≤ x ∧ x ≤ 99) : ix x 100 = true := by
  rw [i_le, i_le] at h
  have e0 : (0 : Int32).toInt = 0 := rfl
  have e1 : (99 : Int32).toInt = 99 := rfl
  rw [ix_iff]; omega
theorem ix9 {x : Int32} (h : ix x 10 = true) : 0 ≤ x ∧ x ≤ 99 := by
  have := ix_r h
  rw [i_le, i_le]
  have e0 : (0 : Int32).toInt = 0 := rfl
  have e1 : (99 : Int32).toInt = 99 := rfl
  omega
theorem sp_go_in (hol : Int64) (t dx dy : Int32) : sp_go hol t dx dy = -1 ∨ ix (sp_go hol t dx dy) 64 = true := by
  unfold sp_go
  by_cases h : ix (irm t 8 + dx) 8 = true ∧ ix (t / 8 + dy) 8 = true ∧ ¬ tb hol (8 * (t / 8 + dy) + (irm t 8 + dx)) = true
  · rw [if_pos h]; right
    obtain ⟨h1, h2, h3⟩ := h
    obtain ⟨a, ha, ea⟩ := ix_of h1 (by decide)
    obtain ⟨b, hb, eb⟩ := ix_of h2 (by decide)
    rw [ea, eb, i8ab]
    exact ix_nI (by omega) (by decide)
  · rw [if_neg h]; left; rfl
theorem sp_land_in (hol : Int64) (k num w mi t : Int32) (v : Nat) : sp_land hol k num w mi t v = -1 ∨ ix (sp_land hol k num w mi t v) 64 = true := by
  unfold sp_land
  by_cases h : sp_leaps k num w mi (nI v) = true
  · rw [if_pos h]; exact sp_go_in _ _ _ _
  · rw [if_neg h]; left; rfl
theorem ptile_in (C : Cd) (hol : Int64) (mi : Int32) (st : Bool) (q : Pt) : ptile C hol mi st q = -1 ∨ ix (ptile C hol mi st q) 64 = true := by
  unfold ptile sp_tile
  by_cases h : st = true
  · rw [if_pos h]; left; rfl
  · rw [if_neg h]; exact sp_land_in _ _ _ _ _ _ _
theorem sp_wear_in (t k num w v1 v2 : Int32) : ix (sp_wear t k num w v1 v2) 100 = true := by
  unfold sp_wear
  by_cases h : t = -1
  · rw [if_pos h]; exact ix99' (bnd_in _ _ _ (by decide))
  · rw [if_neg h]; exact ix99' (bnd_in _ _ _ (by decide))
theorem wfp_pst {C : Cd} {hol : Int64} {mi : Int32} {st : Bool} {q : Pt} (h : wfp q) : wfp (pst C hol mi st q) := by
  refine ⟨h.1, h.2.1, ?_, sp_wear_in _ _ _ _ _ _⟩
  show ix (if ptile C hol mi st q = -1 then q.2.2.1 else ptile C hol mi st q) 64 = true
  by_cases e : ptile C hol mi st q = -1
  · rw [if_pos e]; exact h.2.2.1
  · rw [if_neg e]; exact (ptile_in C hol mi st q).resolve_left e
theorem wfp_wk {C : Cd} {hol : Int64} {mi : Nat} {st : Bool} {q : Pt} (h : wfp q) : ∀ t, wfp (wk C hol mi st t q)
  | 0 => h
  | t + 1 => wfp_pst (wfp_wk h t)
/-! the class -/
def XP (b : Nat) (M : Mi) (p : Nat) (q : Pt) : Prop := M (b + 1) p = q.1 ∧ M (b + 2) p = q.2.1 ∧ M (b + 3) p = q.2.2.1 ∧ M (b + 4) p = q.2.2.2
theorem XP.nm {b : Nat} {M : Mi} {p : Nat} {q : Pt} (h : XP b M p q) (L : Ml) : nmX b M L p = nmA (L b 1) (M b 2) q := by
  funext x; unfold nmX nmA
  rw [h.2.1, h.2.2.1, h.2.2.2]
def XT (E : Ev) (M : Mi) (T : Nat) (Tx : Nat → Cd) : Prop := M 21 2 = nI T ∧ T ≤ 6 ∧ ∀ r, r < T → TV (Tx r) ∧ ∃ t, E.2.2 22 r = some t ∧ 36 ≤ t ∧ TX E M t (Tx r).1 (Tx r).2.1 (Tx r).2.2
theorem XT.keep {E : Ev} {M M' : Mi} {T : Nat} {Tx : Nat → Cd} (h : XT E M T Tx) (h21 : M' 21 2 = M 21 2) (hk : ∀ k, 36 ≤ k → M' k = M k) : XT E M' T Tx := by
  refine ⟨h21.trans h.1, h.2.1, fun r hr => ?_⟩
  obtain ⟨a, t, b, c, d⟩ := h.2.2 r hr
  refine ⟨a, t, b, c, d.1, d.2.1, d.2.2.1, ?_, ?_, d.2.2.2.2.2.1, d.2.2.2.2.2.2.1, ?_⟩
  · rw [hk t c]; exact d.2.2.2.1
  · rw [hk t c]; exact d.2.2.2.2.1
  · rw [hk (t + 1) (by omega)]; exact d.2.2.2.2.2.2.2
theorem X_CS {E : Ev} {b : Nat} (hb : b + 4 < 21) {M : Mi} {L : Ml} {T r p : Nat} {Tx : Nat → Cd} {q : Pt} (hT : XT E M T Tx) (hp : p < 5) (h4 : M b 4 = nI r) (hr : r < T) (hq : XP b M p q) :
    CS E b M L p (vw (Tx r) 0 (nmA (L b 1) (M b 2) q)) (vw (Tx r) 1 (nmA (L b 1) (M b 2) q)) (vw (Tx r) 2 (nmA (L b 1) (M b 2) q)) := by
  obtain ⟨h2, hT6, ht⟩ := hT
  obtain ⟨tv, t, e, _, hx⟩ := ht r hr
  have en := hq.nm L
  exact CS_of hb hp h4 h2 hr hT6 e hx (by rw [en]; exact tv.vv _ _ _ (by decide)) (by rw [en]; exact tv.vv _ _ _ (by decide)) (by rw [en]; exact tv.vv _ _ _ (by decide))
theorem X_one {E : Ev} {b : Nat} (hb : b + 4 < 21) {M : Mi} {L : Ml} {T r p : Nat} {Tx : Nat → Cd} {q : Pt} (hT : XT E M T Tx) (hp : p < 5) (h4 : M b 4 = nI r) (hr : r < T) (hq : XP b M p q) (hw : wfp q) (st : Bool) :
    ∃ M', F_X1_passOne E b M L (nI p) (zb st) = some (zb (decide (¬ ptile (Tx r) (L b 1) (M b 2) st q = -1)), M', L) ∧ XP b M' p (pst (Tx r) (L b 1) (M b 2) st q) ∧ (∀ k, k ≠ 23 → k ≠ b + 3 → k ≠ b + 4 → M' k = M k) ∧ ∀ j, j ≠ p → M' (b + 3) j = M (b + 3) j ∧ M' (b + 4) j = M (b + 4) j := by
  obtain ⟨M', a1, a2⟩ := C_passOne E b hb M L hp (X_CS hb hT hp h4 hr hq) (by rw [hq.2.2.2]; exact ix99 hw.2.2.2) st
  rw [hq.1, hq.2.1, hq.2.2.1, hq.2.2.2] at a1 a2
  refine ⟨M', a1, ⟨?_, ?_, ?_, ?_⟩, fun k h1 h2 h3 => ?_, fun j hj => ⟨?_, ?_⟩⟩
  · rw [a2 _ (by omega), up2_a (by omega), up2_a (by omega)]; exact hq.1
  · rw [a2 _ (by omega), up2_a (by omega), up2_a (by omega)]; exact hq.2.1
  · rw [a2 _ (by omega), up2_at]; rfl
  · rw [a2 _ (by omega), up2_a (by omega), up2_at]; rfl
  · funext j; rw [a2 _ h1, up2_a h2, up2_a h3]
  · rw [a2 _ (by omega), up2_b hj, up2_a (by omega)]
  · rw [a2 _ (by omega), up2_a (by omega), up2_b hj]
/-! the reference -/
def YP (R : Mi) (p : Nat) (q : Pt) : Prop := R 4 (4 * p + 3) = q.1 ∧ R 4 (4 * p) = q.2.1 ∧ R 4 (4 * p + 1) = q.2.2.1 ∧ R 4 (4 * p + 2) = q.2.2.2
theorem YP.nm {R : Mi} {p : Nat} {q : Pt} (h : YP R p q) (S : Ml) : nmR R S p = nmA (S 0 9) (R 0 7) q := by
  funext x; unfold nmR nmA
  rw [h.2.1, h.2.2.1, h.2.2.2]
def YT (R : Mi) (T : Nat) (Tx : Nat → Cd) : Prop := R 0 3 = nI T ∧ T ≤ 6 ∧ ∀ r, r < T → ∃ f n, TY R r f n (Tx r).1 (Tx r).2.1 (Tx r).2.2
theorem YT.keep {R R' : Mi} {T : Nat} {Tx : Nat → Cd} (h : YT R T Tx) (h3 : R' 0 3 = R 0 3) (h1 : R' 1 = R 1) (h2 : R' 2 = R 2) : YT R' T Tx :=
  ⟨h3.trans h.1, h.2.1, fun r hr => by obtain ⟨f, n, g⟩ := h.2.2 r hr; exact ⟨f, n, g.keep h1 h2⟩⟩
theorem Y_CR {R : Mi} {S : Ml} {T r p : Nat} {Tx : Nat → Cd} {q : Pt} (hT : YT R T Tx) (hp : p < 5) (h4 : R 0 4 = nI r) (hr : r < T) (hq : YP R p q) :
    CR R S p (vw (Tx r) 0 (nmA (S 0 9) (R 0 7) q)) (vw (Tx r) 1 (nmA (S 0 9) (R 0 7) q)) (vw (Tx r) 2 (nmA (S 0 9) (R 0 7) q)) := by
  obtain ⟨f, n, hy⟩ := hT.2.2 r hr
  obtain ⟨v0, v1, v2, hs, V0, V1, V2⟩ := CR_of (S := S) hp h4 (Nat.lt_of_lt_of_le hr hT.2.1) hy
  rw [hq.nm S] at V0 V1 V2
  rw [VV.vw_eq (C := Tx r) (w := 0) V0, VV.vw_eq (C := Tx r) (w := 1) V1, VV.vw_eq (C := Tx r) (w := 2) V2]
  exact hs
theorem Y_one {R : Mi} {S : Ml} {T r p P : Nat} {Tx : Nat → Cd} {q : Pt} (hT : YT R T Tx) (hp : p < P) (hP : P ≤ 5) (h11 : R 0 11 = nI P) (h7 : 0 ≤ R 0 7) (h4 : R 0 4 = nI r) (hr : r < T) (hq : YP R p q) (hw : wfp q) (m : Nat) (x : Int32) :
    ∃ R' S', F_X6_passes_k4 (m + 1) R S x (nI p) = F_X6_passes_k4 m R' S' (x ||| ishl (zb (decide (¬ ptile (Tx r) (S 0 9) (R 0 7) (decide (nI p = R 0 12)) q = -1))) (nI p)) (nI (p + 1)) ∧ YP R' p (pst (Tx r) (S 0 9) (R 0 7) (decide (nI p = R 0 12)) q) ∧
      (∀ k, k ≠ 0 → k ≠ 4 → R' k = R k) ∧ (∀ j, j ≠ 4 * p + 1 → j ≠ 4 * p + 2 → R' 4 j = R 4 j) ∧ (∀ j, j < 13 → R' 0 j = R 0 j) ∧ (∀ j, 27 < j → R' 0 j = R 0 j) ∧ ∀ k j, (k ≠ 0 ∨ j ≠ 24) → S' k j = S k j := by
  obtain ⟨R', S', t, ht, a1, a2⟩ := R_passOne R S hp hP h11 (Y_CR hT (Nat.lt_of_lt_of_le hp hP) h4 hr hq) h7 (by rw [hq.2.1]; exact ix9 hw.2.1) m x
  rw [hq.1, hq.2.1, hq.2.2.1, hq.2.2.2] at ht a2
  replace ht : t = ptile (Tx r) (S 0 9) (R 0 7) (decide (nI p = R 0 12)) q := ht
  subst ht
  obtain ⟨b1, b2, b3, b4⟩ := a2
  refine ⟨R', S', a1, ⟨?_, ?_, ?_, ?_⟩, fun k h1 h2 => ?_, fun j h1 h2 => ?_, fun j hj => ?_, fun j hj => ?_, b4⟩
  · rw [b1 4 (by decide), up2_b (by omega), up2_b (by omega)]; exact hq.1
  · rw [b1 4 (by decide), up2_b (by omega), up2_b (by omega)]; exact hq.2.1
  · rw [b1 4 (by decide), up2_at]; rfl
  · rw [b1 4 (by decide), up2_b (by omega), up2_at]; rfl
  · rw [b1 k h1]; funext j; rw [up2_a h2, up2_a h2]
  · rw [b1 4 (by decide), up2_b h1, up2_b h2]
  · rw [b2 j hj, up2_a (by decide), up2_a (by decide)]
  · rw [b3 j hj, up2_a (by decide), up2_a (by decide)]
