/-! PURE: told, leap, floor, count -/
def pway (C : Cd) (hol : Int64) (mi : Int32) (q : Pt) : Int32 := sp_way (bnd (vw C 0 (nmA hol mi q)) (-99) 99)
def ptir (C : Cd) (hol : Int64) (mi : Int32) (q : Pt) : Int32 := bnd (sp_tires q.1 q.2.1 (bnd (vw C 1 (nmA hol mi q)) 0 99)) 0 99
def pres (C : Cd) (hol : Int64) (mi : Int32) (q : Pt) : Int32 := bnd (sp_rests q.1 q.2.1 (bnd (vw C 2 (nmA hol mi q)) 0 99)) 0 99
theorem X_ways {E : Ev} {b : Nat} (hb : b + 4 < 21) {M : Mi} {L : Ml} {T r p : Nat} {Tx : Nat → Cd} {q : Pt} (hT : XT E M T Tx) (hp : p < 5) (h4 : M b 4 = nI r) (hr : r < T) (hq : XP b M p q) :
    (∃ M', F_X1_wayOf E b M L (nI p) = some (pway (Tx r) (L b 1) (M b 2) q, M', L) ∧ ∀ k, k ≠ 23 → M' k = M k) ∧ (∃ M', F_X1_tiresOf E b M L (nI p) = some (ptir (Tx r) (L b 1) (M b 2) q, M', L) ∧ ∀ k, k ≠ 23 → M' k = M k) ∧ (∃ M', F_X1_restsOf E b M L (nI p) = some (pres (Tx r) (L b 1) (M b 2) q, M', L) ∧ ∀ k, k ≠ 23 → M' k = M k) := by
  obtain ⟨⟨M1, a1, a2⟩, ⟨M2, b1, b2⟩, ⟨M3, c1, c2⟩⟩ := X_CS (L := L) hb hT hp h4 hr hq M (fun _ _ => rfl)
  have B := C_tires hp b1
  have D := C_rests hp c1
  rw [b2 (b + 1) (by omega), b2 (b + 2) (by omega), hq.1, hq.2.1] at B
  rw [c2 (b + 1) (by omega), c2 (b + 2) (by omega), hq.1, hq.2.1] at D
  exact ⟨⟨M1, C_way a1, a2⟩, ⟨M2, B, b2⟩, ⟨M3, D, c2⟩⟩
theorem Y_ways {R : Mi} {S : Ml} {T r p : Nat} {Tx : Nat → Cd} {q : Pt} (hT : YT R T Tx) (hp : p < 5) (h4 : R 0 4 = nI r) (hr : r < T) (hq : YP R p q) (hw : wfp q) :
    (∃ R' S', F_X6_turnOf R S (nI p) = some (pway (Tx r) (S 0 9) (R 0 7) q, R', S') ∧ RH R R' S S') ∧ (∃ R' S', F_X6_tiresOf R S (nI p) = some (ptir (Tx r) (S 0 9) (R 0 7) q, R', S') ∧ RH R R' S S') ∧ (∃ R' S', F_X6_restsOf R S (nI p) = some (pres (Tx r) (S 0 9) (R 0 7) q, R', S') ∧ RH R R' S S') := by
  obtain ⟨⟨M1, L1, a1, a2⟩, ⟨M2, L2, b1, b2⟩, ⟨M3, L3, c1, c2⟩⟩ := Y_CR (S := S) hT hp h4 hr hq R S (RH.rfl' R S)
  have B := R_tires hp b1 (b2.1 4 (by decide))
  obtain ⟨M4, L4, D, d⟩ := R_rests hp c1 c2 (by rw [hq.2.1]; exact ix9 hw.2.1)
  rw [hq.1, hq.2.1] at B D
  exact ⟨⟨M1, L1, R_way a1, a2⟩, ⟨M2, L2, B, b2⟩, ⟨M4, L4, D, d⟩⟩
def ptl (C : Cd) (A : Af) (q : Pt) (what : Int32) : Int32 := if what = 3 then q.2.1 else if what = 4 then q.2.2.1 else if what = 5 then q.2.2.2 else if what = 6 then q.1 else if what = 7 then pway C (aH A) (nI (aM A)) q else if what = 8 then ptir C (aH A) (nI (aM A)) q else if what = 9 then pres C (aH A) (nI (aM A)) q else if what = 10 then sp_found (aR A) q.1 q.2.2.2 q.2.2.1 else -1000
def ttl (A : Af) (of what : Int32) : Int32 := if what = 1 then zb (tb (aR A) of) else if what = 2 then zb (tb (aH A) of) else who A of
def tld (C : Cd) (A : Af) (of what : Int32) : Int32 :=
  if what = 0 then nI (aM A) else if what = 1 ∨ what = 2 ∨ what = 11 then (if ix of 64 = true then ttl A of what else -1000)
  else if ix of (aP A) = true then ptl C A (aQ A of.toNatClampNeg) what else -1000
theorem X_ptl {E : Ev} {M : Mi} {L : Ml} {T p : Nat} {Tx : Nat → Cd} {A : Af} (hw : wfA T A) (hT : XT E M T Tx) (hF : XFl 1 M L A) (hp : p < aP A) (x : Int32) :
    ∃ M', F_X5_toldOfParty E M L (nI p) x = some (ptl (Tx (aU A)) A (aQ A p) x, M', L) ∧ ∀ k, k ≠ 23 → M' k = M k := by
  have hP := hw.1
  have hq := hF.2.2.2.2.2 p hp
  have i5 := ix_nI (show p < 5 by omega) (show 5 < 2 ^ 31 by decide)
  obtain ⟨⟨M1, a1, a2⟩, ⟨M2, b1, b2⟩, ⟨M3, c1, c2⟩⟩ := X_ways (L := L) (b := 1) (by decide) hT (show p < 5 by omega) hF.2.2.2.2.1 hw.2.1 hq
  rw [hF.2.1, hF.2.2.1] at a1 b1 c1
  have hf := X_fnd hw hF hp
  unfold F_X5_toldOfParty ptl
  rw [if_pos i5, if_pos i5, if_pos i5, if_pos i5, nI_clamp (by omega), a1, b1, c1, hf]
  simp only [Option.bind_some]
  by_cases h3 : x = 3
  · rw [if_pos h3, if_pos h3]; exact ⟨M, by rw [hq.2.1], fun _ _ => rfl⟩
  rw [if_neg h3, if_neg h3]
  by_cases h4 : x = 4
  · rw [if_pos h4, if_pos h4]; exact ⟨M, by rw [hq.2.2.1], fun _ _ => rfl⟩
  rw [if_neg h4, if_neg h4]
  by_cases h5 : x = 5
  · rw [if_pos h5, if_pos h5]; exact ⟨M, by rw [hq.2.2.2], fun _ _ => rfl⟩
  rw [if_neg h5, if_neg h5]
  by_cases h6 : x = 6
  · rw [if_pos h6, if_pos h6]; exact ⟨M, by rw [hq.1], fun _ _ => rfl⟩
  rw [if_neg h6, if_neg h6]
  by_cases h7 : x = 7
  · rw [if_pos h7, if_pos h7]; exact ⟨M1, rfl, a2⟩
  rw [if_neg h7, if_neg h7]
  by_cases h8 : x = 8
  · rw [if_pos h8, if_pos h8]; exact ⟨M2, rfl, b2⟩
  rw [if_neg h8, if_neg h8]
  by_cases h9 : x = 9
  · rw [if_pos h9, if_pos h9]; exact ⟨M3, rfl, c2⟩
  rw [if_neg h9, if_neg h9]
  by_cases h10 : x = 10
  · rw [if_pos h10, if_pos h10]; exact ⟨M, rfl, fun _ _ => rfl⟩
  rw [if_neg h10, if_neg h10]
  exact ⟨M, rfl, fun _ _ => rfl⟩
theorem X_ttl {M : Mi} {L : Ml} {T c : Nat} {A : Af} (hw : wfA T A) (hF : XFl 1 M L A) (hc : c < 64) (x : Int32) : F_X5_toldOfTile M L (nI c) x = some (ttl A (nI c) x) := by
  unfold F_X5_toldOfTile ttl
  rw [F_isRedX 1 M L hc, F_isHollowX 1 M L hc, X_who hw hF, hF.1, hF.2.1]
  simp only [Option.bind_some, zb_if]
  by_cases h1 : x = 1
  · rw [if_pos h1, if_pos h1]; cases tb (aR A) (nI c) <;> rfl
  rw [if_neg h1, if_neg h1]
  by_cases h2 : x = 2
  · rw [if_pos h2, if_pos h2]; cases tb (aH A) (nI c) <;> rfl
  rw [if_neg h2, if_neg h2]
theorem X_told {E : Ev} {M : Mi} {L : Ml} {T : Nat} {Tx : Nat → Cd} {A : Af} (hw : wfA T A) (hT : XT E M T Tx) (hF : XFl 1 M L A) (of x : Int32) :
    ∃ M', F_X5_told E M L of x = some (tld (Tx (aU A)) A of x, M', L) ∧ ∀ k, k ≠ 23 → M' k = M k := by
  have k28 : F_X5_told_k28 E M L of x = some (if ix of 64 = true then ttl A of x else -1000, M, L) := by
    unfold F_X5_told_k28
    rw [F_isTileX, Option.bind_some, zb_if]
    by_cases h : ix of 64 = true
    · rw [if_pos h, if_pos h]
      obtain ⟨c, hc, rfl⟩ := ix_of h (by decide)
      rw [X_ttl hw hF hc]; rfl
    · rw [if_neg h, if_neg h]
  unfold F_X5_told tld
  by_cases h0 : x = 0
  · rw [if_pos h0, if_pos h0, hF.2.2.1]; exact ⟨M, rfl, fun _ _ => rfl⟩
  rw [if_neg h0, if_neg h0]
  by_cases h1 : x = 1
  · rw [if_pos h1, if_pos (Or.inl h1), k28]; exact ⟨M, rfl, fun _ _ => rfl⟩
  rw [if_neg h1]
  by_cases h2 : x = 2
  · rw [if_pos h2, if_pos (Or.inr (Or.inl h2)), k28]; exact ⟨M, rfl, fun _ _ => rfl⟩
  rw [if_neg h2]
  by_cases h11 : x = 11
  · rw [if_pos h11, if_pos (Or.inr (Or.inr h11)), k28]; exact ⟨M, rfl, fun _ _ => rfl⟩
  rw [if_neg h11, if_neg (fun q => by rcases q with q | q | q; exact h1 q; exact h2 q; exact h11 q), X_isParty hF.2.2.2.1 hw.1, Option.bind_some, zb_if]
  by_cases h : ix of (aP A) = true
  · rw [if_pos h, if_pos h]
    have hP := hw.1
    obtain ⟨p, hp, rfl⟩ := ix_of h (by omega)
    obtain ⟨M', a, b⟩ := X_ptl hw hT hF hp x
    rw [a, nI_clamp (by omega)]
    exact ⟨M', rfl, b⟩
  · rw [if_neg h, if_neg h]; exact ⟨M, rfl, fun _ _ => rfl⟩
theorem ix_no {x : Int32} {n w : Nat} (h : ¬ ix x n = true) (hw : w < n) (hn : n < 2 ^ 31) : ¬ x = nI w := fun e => h (by rw [e]; exact ix_nI hw hn)
theorem ptl_7 (C : Cd) (A : Af) (q : Pt) : ptl C A q (nI 7) = pway C (aH A) (nI (aM A)) q := by
  unfold ptl
  rw [if_neg (show ¬ nI 7 = 3 by decide), if_neg (show ¬ nI 7 = 4 by decide), if_neg (show ¬ nI 7 = 5 by decide), if_neg (show ¬ nI 7 = 6 by decide), if_pos (show nI 7 = 7 by decide)]
theorem ptl_8 (C : Cd) (A : Af) (q : Pt) : ptl C A q (nI 8) = ptir C (aH A) (nI (aM A)) q := by
  unfold ptl
  rw [if_neg (show ¬ nI 8 = 3 by decide), if_neg (show ¬ nI 8 = 4 by decide), if_neg (show ¬ nI 8 = 5 by decide), if_neg (show ¬ nI 8 = 6 by decide), if_neg (show ¬ nI 8 = 7 by decide), if_pos (show nI 8 = 8 by decide)]
theorem ptl_9 (C : Cd) (A : Af) (q : Pt) : ptl C A q (nI 9) = pres C (aH A) (nI (aM A)) q := by
  unfold ptl
  rw [if_neg (show ¬ nI 9 = 3 by decide), if_neg (show ¬ nI 9 = 4 by decide), if_neg (show ¬ nI 9 = 5 by decide), if_neg (show ¬ nI 9 = 6 by decide), if_neg (show ¬ nI 9 = 7 by decide), if_neg (show ¬ nI 9 = 8 by decide), if_pos (show nI 9 = 9 by decide)]
theorem ptl_10 (C : Cd) (A : Af) (q : Pt) : ptl C A q (nI 10) = sp_found (aR A) q.1 q.2.2.2 q.2.2.1 := by
  unfold ptl
  rw [if_neg (show ¬ nI 10 = 3 by decide), if_neg (show ¬ nI 10 = 4 by decide), if_neg (show ¬ nI 10 = 5 by decide), if_neg (show ¬ nI 10 = 6 by decide), if_neg (show ¬ nI 10 = 7 by decide), if_neg (show ¬ nI 10 = 8 by decide), if_neg (show ¬ nI 10 = 9 by decide), if_pos (show nI 10 = 10 by decide)]
theorem told_tile {R : Mi} {S : Ml} {of : Int32} {K : Option (Int32 × Mi × Ml)} {G : Int32} (hK : ∀ c, c < 64 → of = nI c → K = some (G, R, S)) : ∃ R' S', (if ix of 64 = true then K else some (-1000, R, S)) = some (if ix of 64 = true then G else -1000, R', S') ∧ RH R R' S S' := by
  by_cases h : ix of 64 = true
  · rw [if_pos h, if_pos h]
    obtain ⟨c, hc, e⟩ := ix_of h (by decide)
    rw [hK c hc e]; exact ⟨R, S, rfl, RH.rfl' R S⟩
  · rw [if_neg h, if_neg h]; exact ⟨R, S, rfl, RH.rfl' R S⟩
theorem told_one {R : Mi} {S : Ml} {of : Int32} {P : Nat} (hP : P ≤ 5) {Q : Nat → Pt} {K : Option (Int32 × Mi × Ml)} (G : Pt → Int32) (hK : ∀ p, p < P → of = nI p → ∃ R' S', K = some (G (Q p), R', S') ∧ RH R R' S S') : ∃ R' S', (if ix of P = true then K else some (-1000, R, S)) = some (if ix of P = true then G (Q of.toNatClampNeg) else -1000, R', S') ∧ RH R R' S S' := by
  by_cases h : ix of P = true
  · rw [if_pos h, if_pos h]
    obtain ⟨p, hp, e⟩ := ix_of h (by omega)
    obtain ⟨R', S', a, b⟩ := hK p hp e
    rw [a, e, nI_clamp (by omega)]; exact ⟨R', S', rfl, b⟩
  · rw [if_neg h, if_neg h]; exact ⟨R, S, rfl, RH.rfl' R S⟩
theorem isOf_tile (R : Mi) (S : Ml) (of : Int32) : F_X6_isOf_k15 R S of = some (zb (ix of 64)) := by
  unfold F_X6_isOf_k15 F_X6_isOf_k33
  rw [F_isTileR, Option.bind_some, zb_if]
  by_cases h : ix of 64 = true
  · rw [if_pos h, h]; rfl
  · rw [if_neg h]; rw [Bool.not_eq_true] at h; rw [h]; rfl
theorem isOf_one {R : Mi} {S : Ml} {P : Nat} (h11 : R 0 11 = nI P) (hP : P ≤ 5) (of : Int32) : ((F_X6_isOne R S of).bind fun v27 => if v27 = 0 then rz 0 else F_X6_isOf_k33 R S) = some (zb (ix of P)) := by
  unfold F_X6_isOf_k33
  rw [Y_isOne h11 hP, Option.bind_some, zb_if]
  by_cases h : ix of P = true
  · rw [if_pos h, h]; rfl
  · rw [if_neg h]; rw [Bool.not_eq_true] at h; rw [h]; rfl
theorem Y_told_0 {R : Mi} {S : Ml} {T : Nat} {Tx : Nat → Cd} {A : Af} (hw : wfA T A) (hT : YT R T Tx) (hF : YFl R S A) (of : Int32) : ∃ R' S', F_X6_told R S of (nI 0) = some (tld (Tx (aU A)) A of (nI 0), R', S') ∧ RH R R' S S' := by
  have hP := hw.1
  unfold F_X6_told F_X6_isOf tld
  rw [F_inN (nI 0) 11 rfl, Option.bind_some, zb_if, if_pos (ix_nI (show 0 < 12 by decide) (by decide))]
  simp only [if_pos (show nI 0 = 0 by decide), if_pos (show nI 0 < 3 by decide), if_neg (show ¬ (nI 0 = 11) by decide), if_neg (show ¬ ((3 : Int32) ≤ nI 0) by decide), if_neg (show ¬ ((7 : Int32) ≤ nI 0) by decide), if_neg (show ¬ (nI 0 = 7) by decide), if_neg (show ¬ (nI 0 = 8) by decide), if_neg (show ¬ (nI 0 = 9) by decide), if_neg (show ¬ (nI 0 = 10) by decide), if_neg (show ¬ (nI 0 = 1) by decide), if_neg (show ¬ (nI 0 = 2) by decide), if_neg (show ¬ (nI 0 = 1 ∨ nI 0 = 2 ∨ nI 0 = 11) by decide)]
  unfold F_X6_isOf_k33
  rw [rz_1, Option.bind_some, zb_if, if_pos rfl, hF.2.2.1]
  exact ⟨R, S, rfl, RH.rfl' R S⟩
theorem Y_told_1 {R : Mi} {S : Ml} {T : Nat} {Tx : Nat → Cd} {A : Af} (hw : wfA T A) (hT : YT R T Tx) (hF : YFl R S A) (of : Int32) : ∃ R' S', F_X6_told R S of (nI 1) = some (tld (Tx (aU A)) A of (nI 1), R', S') ∧ RH R R' S S' := by
  have hP := hw.1
  unfold F_X6_told F_X6_isOf tld
  rw [F_inN (nI 1) 11 rfl, Option.bind_some, zb_if, if_pos (ix_nI (show 1 < 12 by decide) (by decide))]
  simp only [if_neg (show ¬ (nI 1 = 0) by decide), if_pos (show nI 1 < 3 by decide), if_neg (show ¬ (nI 1 = 11) by decide), if_neg (show ¬ ((3 : Int32) ≤ nI 1) by decide), if_neg (show ¬ ((7 : Int32) ≤ nI 1) by decide), if_neg (show ¬ (nI 1 = 7) by decide), if_neg (show ¬ (nI 1 = 8) by decide), if_neg (show ¬ (nI 1 = 9) by decide), if_neg (show ¬ (nI 1 = 10) by decide), if_pos (show nI 1 = 1 by decide), if_neg (show ¬ (nI 1 = 2) by decide), if_pos (show nI 1 = 1 ∨ nI 1 = 2 ∨ nI 1 = 11 by decide)]
  rw [isOf_tile, Option.bind_some, zb_if]
  refine told_tile (fun c hc e => ?_)
  unfold F_X6_told_k57 ttl
  rw [e, F_hasR _ hc, Option.bind_some, zb_if, hF.1]
  cases tb (aR A) (nI c) <;> rfl
theorem Y_told_2 {R : Mi} {S : Ml} {T : Nat} {Tx : Nat → Cd} {A : Af} (hw : wfA T A) (hT : YT R T Tx) (hF : YFl R S A) (of : Int32) : ∃ R' S', F_X6_told R S of (nI 2) = some (tld (Tx (aU A)) A of (nI 2), R', S') ∧ RH R R' S S' := by
  have hP := hw.1
  unfold F_X6_told F_X6_isOf tld
  rw [F_inN (nI 2) 11 rfl, Option.bind_some, zb_if, if_pos (ix_nI (show 2 < 12 by decide) (by decide))]
  simp only [if_neg (show ¬ (nI 2 = 0) by decide), if_pos (show nI 2 < 3 by decide), if_neg (show ¬ (nI 2 = 11) by decide), if_neg (show ¬ ((3 : Int32) ≤ nI 2) by decide), if_neg (show ¬ ((7 : Int32) ≤ nI 2) by decide), if_neg (show ¬ (nI 2 = 7) by decide), if_neg (show ¬ (nI 2 = 8) by decide), if_neg (show ¬ (nI 2 = 9) by decide), if_neg (show ¬ (nI 2 = 10) by decide), if_neg (show ¬ (nI 2 = 1) by decide), if_pos (show nI 2 = 2 by decide), if_pos (show nI 2 = 1 ∨ nI 2 = 2 ∨ nI 2 = 11 by decide)]
  rw [isOf_tile, Option.bind_some, zb_if]
  refine told_tile (fun c hc e => ?_)
  unfold F_X6_told_k57 ttl
  rw [e, F_hasR _ hc, Option.bind_some, zb_if, hF.2.1]
  cases tb (aH A) (nI c) <;> rfl
theorem Y_told_3 {R : Mi} {S : Ml} {T : Nat} {Tx : Nat → Cd} {A : Af} (hw : wfA T A) (hT : YT R T Tx) (hF : YFl R S A) (of : Int32) : ∃ R' S', F_X6_told R S of (nI 3) = some (tld (Tx (aU A)) A of (nI 3), R', S') ∧ RH R R' S S' := by
  have hP := hw.1
  unfold F_X6_told F_X6_isOf tld
  rw [F_inN (nI 3) 11 rfl, Option.bind_some, zb_if, if_pos (ix_nI (show 3 < 12 by decide) (by decide))]
  simp only [if_neg (show ¬ (nI 3 = 0) by decide), if_neg (show ¬ (nI 3 < 3) by decide), if_neg (show ¬ (nI 3 = 11) by decide), if_pos (show (3 : Int32) ≤ nI 3 by decide), if_neg (show ¬ ((7 : Int32) ≤ nI 3) by decide), if_neg (show ¬ (nI 3 = 7) by decide), if_neg (show ¬ (nI 3 = 8) by decide), if_neg (show ¬ (nI 3 = 9) by decide), if_neg (show ¬ (nI 3 = 10) by decide), if_neg (show ¬ (nI 3 = 1) by decide), if_neg (show ¬ (nI 3 = 2) by decide), if_neg (show ¬ (nI 3 = 1 ∨ nI 3 = 2 ∨ nI 3 = 11) by decide)]
  rw [isOf_one hF.2.2.2.1 hP, Option.bind_some, zb_if]
  refine told_one hP (fun q => ptl (Tx (aU A)) A q (nI 3)) (fun p hp e => ?_)
  rw [e, i4p, nI_add, show nI (4 * p + 3) - 3 = nI (4 * p) from pk_sub (a := 4 * p + 3) (b := 3) (by omega), if_pos (ix_nI (by omega) (by decide)), nI_clamp (by omega), (hF.2.2.2.2.2 p hp).2.1]; exact ⟨R, S, rfl, RH.rfl' R S⟩
theorem Y_told_4 {R : Mi} {S : Ml} {T : Nat} {Tx : Nat → Cd} {A : Af} (hw : wfA T A) (hT : YT R T Tx) (hF : YFl R S A) (of : Int32) : ∃ R' S', F_X6_told R S of (nI 4) = some (tld (Tx (aU A)) A of (nI 4), R', S') ∧ RH R R' S S' := by
  have hP := hw.1
  unfold F_X6_told F_X6_isOf tld
  rw [F_inN (nI 4) 11 rfl, Option.bind_some, zb_if, if_pos (ix_nI (show 4 < 12 by decide) (by decide))]
  simp only [if_neg (show ¬ (nI 4 = 0) by decide), if_neg (show ¬ (nI 4 < 3) by decide), if_neg (show ¬ (nI 4 = 11) by decide), if_pos (show (3 : Int32) ≤ nI 4 by decide), if_neg (show ¬ ((7 : Int32) ≤ nI 4) by decide), if_neg (show ¬ (nI 4 = 7) by decide), if_neg (show ¬ (nI 4 = 8) by decide), if_neg (show ¬ (nI 4 = 9) by decide), if_neg (show ¬ (nI 4 = 10) by decide), if_neg (show ¬ (nI 4 = 1) by decide), if_neg (show ¬ (nI 4 = 2) by decide), if_neg (show ¬ (nI 4 = 1 ∨ nI 4 = 2 ∨ nI 4 = 11) by decide)]
  rw [isOf_one hF.2.2.2.1 hP, Option.bind_some, zb_if]
  refine told_one hP (fun q => ptl (Tx (aU A)) A q (nI 4)) (fun p hp e => ?_)
  rw [e, i4p, nI_add, show nI (4 * p + 4) - 3 = nI (4 * p + 1) from pk_sub (a := 4 * p + 4) (b := 3) (by omega), if_pos (ix_nI (by omega) (by decide)), nI_clamp (by omega), (hF.2.2.2.2.2 p hp).2.2.1]; exact ⟨R, S, rfl, RH.rfl' R S⟩
theorem Y_told_5 {R : Mi} {S : Ml} {T : Nat} {Tx : Nat → Cd} {A : Af} (hw : wfA T A) (hT : YT R T Tx) (hF : YFl R S A) (of : Int32) : ∃ R' S', F_X6_told R S of (nI 5) = some (tld (Tx (aU A)) A of (nI 5), R', S') ∧ RH R R' S S' := by
  have hP := hw.1
  unfold F_X6_told F_X6_isOf tld
  rw [F_inN (nI 5) 11 rfl, Option.bind_some, zb_if, if_pos (ix_nI (show 5 < 12 by decide) (by decide))]
  simp only [if_neg (show ¬ (nI 5 = 0) by decide), if_neg (show ¬ (nI 5 < 3) by decide), if_neg (show ¬ (nI 5 = 11) by decide), if_pos (show (3 : Int32) ≤ nI 5 by decide), if_neg (show ¬ ((7 : Int32) ≤ nI 5) by decide), if_neg (show ¬ (nI 5 = 7) by decide), if_neg (show ¬ (nI 5 = 8) by decide), if_neg (show ¬ (nI 5 = 9) by decide), if_neg (show ¬ (nI 5 = 10) by decide), if_neg (show ¬ (nI 5 = 1) by decide), if_neg (show ¬ (nI 5 = 2) by decide), if_neg (show ¬ (nI 5 = 1 ∨ nI 5 = 2 ∨ nI 5 = 11) by decide)]
  rw [isOf_one hF.2.2.2.1 hP, Option.bind_some, zb_if]
  refine told_one hP (fun q => ptl (Tx (aU A)) A q (nI 5)) (fun p hp e => ?_)
  rw [e, i4p, nI_add, show nI (4 * p + 5) - 3 = nI (4 * p + 2) from pk_sub (a := 4 * p + 5) (b := 3) (by omega), if_pos (ix_nI (by omega) (by decide)), nI_clamp (by omega), (hF.2.2.2.2.2 p hp).2.2.2]; exact ⟨R, S, rfl, RH.rfl' R S⟩
theorem Y_told_6 {R : Mi} {S : Ml} {T : Nat} {Tx : Nat → Cd} {A : Af} (hw : wfA T A) (hT : YT R T Tx) (hF : YFl R S A) (of : Int32) : ∃ R' S', F_X6_told R S of (nI 6) = some (tld (Tx (aU A)) A of (nI 6), R', S') ∧ RH R R' S S' := by
  have hP := hw.1
  unfold F_X6_told F_X6_isOf tld
  rw [F_inN (nI 6) 11 rfl, Option.bind_some, zb_if, if_pos (ix_nI (show 6 < 12 by decide) (by decide))]
  simp only [if_neg (show ¬ (nI 6 = 0) by decide), if_neg (show ¬ (nI 6 < 3) by decide), if_neg (show ¬ (nI 6 = 11) by decide), if_pos (show (3 : Int32) ≤ nI 6 by decide), if_neg (show ¬ ((7 : Int32) ≤ nI 6) by decide), if_neg (show ¬ (nI 6 = 7) by decide), if_neg (show ¬ (nI 6 = 8) by decide), if_neg (show ¬ (nI 6 = 9) by decide), if_neg (show ¬ (nI 6 = 10) by decide), if_neg (show ¬ (nI 6 = 1) by decide), if_neg (show ¬ (nI 6 = 2) by decide), if_neg (show ¬ (nI 6 = 1 ∨ nI 6 = 2 ∨ nI 6 = 11) by decide)]
  rw [isOf_one hF.2.2.2.1 hP, Option.bind_some, zb_if]
  refine told_one hP (fun q => ptl (Tx (aU A)) A q (nI 6)) (fun p hp e => ?_)
  rw [e, i4p, nI_add, show nI (4 * p + 6) - 3 = nI (4 * p + 3) from pk_sub (a := 4 * p + 6) (b := 3) (by omega), if_pos (ix_nI (by omega) (by decide)), nI_clamp (by omega), (hF.2.2.2.2.2 p hp).1]; exact ⟨R, S, rfl, RH.rfl' R S⟩
theorem Y_told_7 {R : Mi} {S : Ml} {T : Nat} {Tx : Nat → Cd} {A : Af} (hw : wfA T A) (hT : YT R T Tx) (hF : YFl R S A) (of : Int32) : ∃ R' S', F_X6_told R S of (nI 7) = some (tld (Tx (aU A)) A of (nI 7), R', S') ∧ RH R R' S S' := by
  have hP := hw.1
  unfold F_X6_told F_X6_isOf tld
  rw [F_inN (nI 7) 11 rfl, Option.bind_some, zb_if, if_pos (ix_nI (show 7 < 12 by decide) (by decide))]
  simp only [if_neg (show ¬ (nI 7 = 0) by decide), if_neg (show ¬ (nI 7 < 3) by decide), if_neg (show ¬ (nI 7 = 11) by decide), if_pos (show (3 : Int32) ≤ nI 7 by decide), if_pos (show (7 : Int32) ≤ nI 7 by decide), if_pos (show nI 7 = 7 by decide), if_neg (show ¬ (nI 7 = 8) by decide), if_neg (show ¬ (nI 7 = 9) by decide), if_neg (show ¬ (nI 7 = 10) by decide), if_neg (show ¬ (nI 7 = 1) by decide), if_neg (show ¬ (nI 7 = 2) by decide), if_neg (show ¬ (nI 7 = 1 ∨ nI 7 = 2 ∨ nI 7 = 11) by decide)]
  rw [isOf_one hF.2.2.2.1 hP, Option.bind_some, zb_if]
  refine told_one hP (fun q => ptl (Tx (aU A)) A q (nI 7)) (fun p hp e => ?_)
  obtain ⟨⟨R', S', a, b⟩, -, -⟩ := Y_ways (S := S) hT (show p < 5 by omega) hF.2.2.2.2.1 hw.2.1 (hF.2.2.2.2.2 p hp) (hw.2.2 p hp)
  rw [hF.2.1, hF.2.2.1] at a
  rw [e, a]; refine ⟨R', S', ?_, b⟩
  rw [ptl_7]; rfl
theorem Y_told_8 {R : Mi} {S : Ml} {T : Nat} {Tx : Nat → Cd} {A : Af} (hw : wfA T A) (hT : YT R T Tx) (hF : YFl R S A) (of : Int32) : ∃ R' S', F_X6_told R S of (nI 8) = some (tld (Tx (aU A)) A of (nI 8), R', S') ∧ RH R R' S S' := by
  have hP := hw.1
  unfold F_X6_told F_X6_isOf tld
  rw [F_inN (nI 8) 11 rfl, Option.bind_some, zb_if, if_pos (ix_nI (show 8 < 12 by decide) (by decide))]
  simp only [if_neg (show ¬ (nI 8 = 0) by decide), if_neg (show ¬ (nI 8 < 3) by decide), if_neg (show ¬ (nI 8 = 11) by decide), if_pos (show (3 : Int32) ≤ nI 8 by decide), if_pos (show (7 : Int32) ≤ nI 8 by decide), if_neg (show ¬ (nI 8 = 7) by decide), if_pos (show nI 8 = 8 by decide), if_neg (show ¬ (nI 8 = 9) by decide), if_neg (show ¬ (nI 8 = 10) by decide), if_neg (show ¬ (nI 8 = 1) by decide), if_neg (show ¬ (nI 8 = 2) by decide), if_neg (show ¬ (nI 8 = 1 ∨ nI 8 = 2 ∨ nI 8 = 11) by decide)]
  rw [isOf_one hF.2.2.2.1 hP, Option.bind_some, zb_if]
  refine told_one hP (fun q => ptl (Tx (aU A)) A q (nI 8)) (fun p hp e => ?_)
  obtain ⟨-, ⟨R', S', a, b⟩, -⟩ := Y_ways (S := S) hT (show p < 5 by omega) hF.2.2.2.2.1 hw.2.1 (hF.2.2.2.2.2 p hp) (hw.2.2 p hp)
  rw [hF.2.1, hF.2.2.1] at a
  rw [e, a]; refine ⟨R', S', ?_, b⟩
  rw [ptl_8]; rfl
theorem Y_told_9 {R : Mi} {S : Ml} {T : Nat} {Tx : Nat → Cd} {A : Af} (hw : wfA T A) (hT : YT R T Tx) (hF : YFl R S A) (of : Int32) : ∃ R' S', F_X6_told R S of (nI 9) = some (tld (Tx (aU A)) A of (nI 9), R', S') ∧ RH R R' S S' := by
  have hP := hw.1
  unfold F_X6_told F_X6_isOf tld
  rw [F_inN (nI 9) 11 rfl, Option.bind_some, zb_if, if_pos (ix_nI (show 9 < 12 by decide) (by decide))]
  simp only [if_neg (show ¬ (nI 9 = 0) by decide), if_neg (show ¬ (nI 9 < 3) by decide), if_neg (show ¬ (nI 9 = 11) by decide), if_pos (show (3 : Int32) ≤ nI 9 by decide), if_pos (show (7 : Int32) ≤ nI 9 by decide), if_neg (show ¬ (nI 9 = 7) by decide), if_neg (show ¬ (nI 9 = 8) by decide), if_pos (show nI 9 = 9 by decide), if_neg (show ¬ (nI 9 = 10) by decide), if_neg (show ¬ (nI 9 = 1) by decide), if_neg (show ¬ (nI 9 = 2) by decide), if_neg (show ¬ (nI 9 = 1 ∨ nI 9 = 2 ∨ nI 9 = 11) by decide)]
  rw [isOf_one hF.2.2.2.1 hP, Option.bind_some, zb_if]
  refine told_one hP (fun q => ptl (Tx (aU A)) A q (nI 9)) (fun p hp e => ?_)
  obtain ⟨-, -, ⟨R', S', a, b⟩⟩ := Y_ways (S := S) hT (show p < 5 by omega) hF.2.2.2.2.1 hw.2.1 (hF.2.2.2.2.2 p hp) (hw.2.2 p hp)
  rw [hF.2.1, hF.2.2.1] at a
  rw [e, a]; refine ⟨R', S', ?_, b⟩
  rw [ptl_9]; rfl
theorem Y_told_10 {R : Mi} {S : Ml} {T : Nat} {Tx : Nat → Cd} {A : Af} (hw : wfA T A) (hT : YT R T Tx) (hF : YFl R S A) (of : Int32) : ∃ R' S', F_X6_told R S of (nI 10) = some (tld (Tx (aU A)) A of (nI 10), R', S') ∧ RH R R' S S' := by
  have hP := hw.1
  unfold F_X6_told F_X6_isOf tld
  rw [F_inN (nI 10) 11 rfl, Option.bind_some, zb_if, if_pos (ix_nI (show 10 < 12 by decide) (by decide))]
  simp only [if_neg (show ¬ (nI 10 = 0) by decide), if_neg (show ¬ (nI 10 < 3) by decide), if_neg (show ¬ (nI 10 = 11) by decide), if_pos (show (3 : Int32) ≤ nI 10 by decide), if_pos (show (7 : Int32) ≤ nI 10 by decide), if_neg (show ¬ (nI 10 = 7) by decide), if_neg (show ¬ (nI 10 = 8) by decide), if_neg (show ¬ (nI 10 = 9) by decide), if_pos (show nI 10 = 10 by decide), if_neg (show ¬ (nI 10 = 1) by decide), if_neg (show ¬ (nI 10 = 2) by decide), if_neg (show ¬ (nI 10 = 1 ∨ nI 10 = 2 ∨ nI 10 = 11) by decide)]
  rw [isOf_one hF.2.2.2.1 hP, Option.bind_some, zb_if]
  refine told_one hP (fun q => ptl (Tx (aU A)) A q (nI 10)) (fun p hp e => ?_)
  rw [e, Y_fnd hw hF hp]; refine ⟨R, S, ?_, RH.rfl' R S⟩
  rw [ptl_10]; rfl
theorem Y_told_11 {R : Mi} {S : Ml} {T : Nat} {Tx : Nat → Cd} {A : Af} (hw : wfA T A) (hT : YT R T Tx) (hF : YFl R S A) (of : Int32) : ∃ R' S', F_X6_told R S of (nI 11) = some (tld (Tx (aU A)) A of (nI 11), R', S') ∧ RH R R' S S' := by
  have hP := hw.1
  unfold F_X6_told F_X6_isOf tld
  rw [F_inN (nI 11) 11 rfl, Option.bind_some, zb_if, if_pos (ix_nI (show 11 < 12 by decide) (by decide))]
  simp only [if_neg (show ¬ (nI 11 = 0) by decide), if_neg (show ¬ (nI 11 < 3) by decide), if_pos (show nI 11 = 11 by decide), if_pos (show (3 : Int32) ≤ nI 11 by decide), if_pos (show (7 : Int32) ≤ nI 11 by decide), if_neg (show ¬ (nI 11 = 7) by decide), if_neg (show ¬ (nI 11 = 8) by decide), if_neg (show ¬ (nI 11 = 9) by decide), if_neg (show ¬ (nI 11 = 10) by decide), if_neg (show ¬ (nI 11 = 1) by decide), if_neg (show ¬ (nI 11 = 2) by decide), if_pos (show nI 11 = 1 ∨ nI 11 = 2 ∨ nI 11 = 11 by decide)]
  rw [isOf_tile, Option.bind_some, zb_if]
  refine told_tile (fun c hc e => ?_)
  unfold ttl
  rw [e, Y_who hw hF]; rfl
theorem Y_told {R : Mi} {S : Ml} {T : Nat} {Tx : Nat → Cd} {A : Af} (hw : wfA T A) (hT : YT R T Tx) (hF : YFl R S A) (of x : Int32) :
    ∃ R' S', F_X6_told R S of x = some (tld (Tx (aU A)) A of x, R', S') ∧ RH R R' S S' := by
  by_cases hx : ix x 12 = true
  · obtain ⟨w, hw12, rfl⟩ := ix_of hx (by decide)
    rcases (show w = 0 ∨ w = 1 ∨ w = 2 ∨ w = 3 ∨ w = 4 ∨ w = 5 ∨ w = 6 ∨ w = 7 ∨ w = 8 ∨ w = 9 ∨ w = 10 ∨ w = 11 by omega) with rfl | rfl | rfl | rfl | rfl | rfl | rfl | rfl | rfl | rfl | rfl | rfl
    · exact Y_told_0 hw hT hF of
    · exact Y_told_1 hw hT hF of
    · exact Y_told_2 hw hT hF of
    · exact Y_told_3 hw hT hF of
    · exact Y_told_4 hw hT hF of
    · exact Y_told_5 hw hT hF of
    · exact Y_told_6 hw hT hF of
    · exact Y_told_7 hw hT hF of
    · exact Y_told_8 hw hT hF of
    · exact Y_told_9 hw hT hF of
    · exact Y_told_10 hw hT hF of
    · exact Y_told_11 hw hT hF of
  · have ne : ∀ w, w < 12 → ¬ x = nI w := fun w h => ix_no hx h (by decide)
    have n0 : ¬ x = 0 := ne 0 (by decide)
    have nt : ¬ (x = 1 ∨ x = 2 ∨ x = 11) := fun q => by rcases q with q | q | q; exact ne 1 (by decide) q; exact ne 2 (by decide) q; exact ne 11 (by decide) q
    have n3 : ¬ x = 3 := ne 3 (by decide)
    have n4 : ¬ x = 4 := ne 4 (by decide)
    have n5 : ¬ x = 5 := ne 5 (by decide)
    have n6 : ¬ x = 6 := ne 6 (by decide)
    have n7 : ¬ x = 7 := ne 7 (by decide)
    have n8 : ¬ x = 8 := ne 8 (by decide)
    have n9 : ¬ x = 9 := ne 9 (by decide)
    have n10 : ¬ x = 10 := ne 10 (by decide)
    unfold F_X6_told
    rw [F_inN x 11 rfl, Option.bind_some, zb_if, if_neg hx]
    have : tld (Tx (aU A)) A of x = -1000 := by
      unfold tld ptl
      rw [if_neg n0, if_neg nt, if_neg n3, if_neg n4, if_neg n5, if_neg n6, if_neg n7, if_neg n8, if_neg n9, if_neg n10, ite_self]
    rw [this]; exact ⟨R, S, rfl, RH.rfl' R S⟩
