/-! PURE: the reference's whole reading -/
theorem rc0 {f : Nat → Int32} {n p : Nat} : rc f n p = 0 ↔ tc f n p = 256 := by
  unfold rc tc
  by_cases ha : n ≤ ta f n p
  · rw [if_pos ha, if_pos ha]; exact ⟨fun _ => rfl, fun _ => rfl⟩
  · rw [if_neg ha, if_neg ha]
    by_cases hl : isLet (f (ta f n p)) = true
    · rw [if_pos hl, if_pos hl]
      refine ⟨fun h => absurd h (by decide), fun h => ?_⟩
      exfalso
      rcases wc_cases f (ta f n p) (te f n p) with ⟨v, hv, g1, g2, g3⟩ | ⟨g1, g2⟩
      · exact (cw_258 v hv g1).2.1 (g3.symm.trans h)
      · rw [g2] at h; exact absurd h (by decide)
    · rw [if_neg hl, if_neg hl]
      by_cases hd : isDig (f (ta f n p)) = true
      · rw [if_pos hd, if_pos hd]
        by_cases h4 : te f n p - ta f n p ≤ 4
        · rw [if_pos h4, if_pos h4]; decide
        · rw [if_neg h4, if_neg h4]; decide
      · rw [if_neg hd, if_neg hd]
        by_cases hs : isSgn (f (ta f n p)) = true
        · rw [if_pos hs, if_pos hs]
          refine ⟨fun h => absurd h (by decide), fun h => ?_⟩
          exfalso
          rcases sgn_lit _ hs with e | e | e | e | e | e | e | e <;> rw [e] at h <;> exact absurd h (by decide)
        · rw [if_neg hs, if_neg hs]; decide
theorem R_part {f : Nat → Int32} {n o p : Nat} {M : Mi} {L : Ml} (h : RS f n o p M L) (h25 : M 0 25 = 0) (key : Int32) (hk : key ≠ 258) (c0 : List Int32) : ∃ v M' L', F_X6_part M L (zb (decide (tc f n p = key))) = some (v, M', L') ∧ RF M M' L L' ∧ match tpart f n key p c0 with
    | .inl q => RB f n o q M'
    | .inr y => RS f n o y.1 M' L' ∧ ∃ c', y.2 = c0 ++ c' ∧ VV (nm M) c' 31 v := by
  have bad48 : ∀ q (M : Mi) (L : Ml) (x : Int32), RB f n o q M → F_X6_part_k48 M L x = some (x, M, L) := by
    intro q M L x h; unfold F_X6_part_k48; rw [if_neg (by rw [h.2.1]; decide)]
  have bad34 : ∀ q (M : Mi) (L : Ml) (x : Int32), RB f n o q M → F_X6_part_k34 M L x = some (x, M, L) := by
    intro q M L x h; unfold F_X6_part_k34
    rw [F_isSignB h]; simp only [Option.bind_some, zb_if]
    rw [F_failB h]; exact bad48 q M L x h
  unfold F_X6_part tpart
  rw [zb_if]
  simp only [decide_eq_true_eq]
  by_cases e : tc f n p = key
  · rw [if_pos e, if_pos e]
    unfold F_X6_part_k8
    rw [if_pos h.2.2.1]
    obtain ⟨M1, L1, a1, a2, a3⟩ := h.go (rc4 (by rw [e]; exact hk))
    rw [a1]; simp only [Option.bind_some]
    unfold F_X6_part_k19
    rw [if_pos a2.2.2.1]
    obtain ⟨v, M2, L2, b1, b2, b3⟩ := R_either0 f n o _ M1 L1 a2 (a3.o25.trans h25)
    rw [b1]; simp only [Option.bind_some]
    rw [show mkE f n (mkNot f n (some (pl f n 4)) (mkOne f n (some (pl f n 4)))) = (pl f n 5).2.2 from rfl] at b3
    cases er : (pl f n 5).2.2 (te f n p) with
    | inl q =>
      rw [er] at b3
      rw [bad34 q M2 L2 v b3]
      exact ⟨v, M2, L2, rfl, a3.trans b2, b3⟩
    | inr x =>
      rw [er] at b3
      obtain ⟨b3, b4⟩ := b3
      rw [show (x : Nat × List Int32) = (x.1, x.2) from rfl, pbd_r]
      unfold F_X6_part_k34
      rw [F_isSignS b3 (by decide)]
      simp only [Option.bind_some, zb_if, decide_eq_true_eq]
      by_cases e2 : tc f n x.1 = 59
      · rw [if_pos e2, if_pos e2]
        unfold F_X6_part_k48
        rw [if_pos b3.2.2.1]
        obtain ⟨M3, L3, c1, c2, c3⟩ := b3.go (rc4 (by rw [e2]; decide))
        rw [c1]
        exact ⟨v, M3, L3, rfl, (a3.trans b2).trans c3, c2, x.2, rfl, by rw [← a3.nme]; exact b4⟩
      · rw [if_neg e2, if_neg e2]
        obtain ⟨M3, c1, c2, c3⟩ := F_failS b3
        rw [c1]; simp only [Option.bind_some]
        rw [bad48 _ M3 L2 v c2]
        exact ⟨v, M3, L2, rfl, (a3.trans b2).trans c3, c2⟩
  · rw [if_neg e, if_neg e]
    obtain ⟨M1, c1, c2, c3⟩ := F_failS h
    rw [c1]; simp only [Option.bind_some]
    unfold F_X6_part_k8 F_X6_part_k19
    rw [if_neg (by rw [c2.2.1]; decide), if_neg (by rw [c2.2.1]; decide), bad34 _ M1 L 0 c2]
    exact ⟨0, M1, L, rfl, c3, c2⟩
def seg (c : List Int32) (a b : Nat) : List Int32 := (c.drop a).take (b - a)
/-- where part w of a text of code begins and ends -/
def segA (w : Int32) (e1 e2 : Nat) : Nat := if w = 0 then 0 else if w = 1 then e1 else e2
def segB (w : Int32) (e1 e2 e3 : Nat) : Nat := if w = 0 then e1 else if w = 1 then e2 else e3
/-- what a reading of the reference leaves -/
def RG (M M' : Mi) (L L' : Ml) : Prop := (∀ k, k ≠ 0 → M' k = M k) ∧ (∀ j, j ≠ 19 → j ≠ 20 → j ≠ 21 → j ≠ 22 → j ≠ 23 → j ≠ 25 → j ≠ 26 → j ≠ 27 → M' 0 j = M 0 j) ∧ (∀ k j, (k ≠ 0 ∨ j ≠ 24) → L' k j = L k j)
theorem R_read {f : Nat → Int32} {n r : Nat} {M : Mi} (L : Ml) (hr : r < 6) (hn : n ≤ 160) (h2 : M 2 r = nI n) (hf : ∀ i, i < n → M 1 (160 * r + i) = f i) (hf0 : ∀ i, i < n → 0 ≤ (f i).toInt) (w : Int32) :
    ∃ v M' L', F_X6_read M L (nI r) w = some (v, M', L') ∧ RG M M' L L' ∧ match ptext f n with
    | .inl q => M' 0 26 = 1 ∧ M' 0 27 = nI q
    | .inr x => M' 0 26 = 0 ∧ VV (nm M) (seg x.1 (segA w x.2.1 x.2.2) (segB w x.2.1 x.2.2 x.1.length)) 31 v := by
  unfold F_X6_read
  rw [if_pos (ix_nI hr (by decide)), nI_clamp (by omega)]
  generalize hM0 : up2 (up2 (up2 (up2 (up2 M 0 19 (160 * nI r)) 0 20 (up2 M 0 19 (160 * nI r) 2 r)) 0 21 0) 0 25 0) 0 26 0 = M0
  have e160 : (160 : Int32) * nI r = nI (160 * r) := by
    have : ∀ r, r < 6 → (160 : Int32) * nI r = nI (160 * r) := by decide
    exact this r hr
  have k1 : ∀ k, k ≠ 0 → M0 k = M k := by intro k hk; rw [← hM0]; funext j; simp [up2, hk]
  have k2 : ∀ j, j ≠ 19 → j ≠ 20 → j ≠ 21 → j ≠ 25 → j ≠ 26 → M0 0 j = M 0 j := by intro j a b c d e; rw [← hM0]; simp [up2, a, b, c, d, e]
  have hR : RT f n (160 * r) M0 := by
    refine ⟨hn, by omega, ?_, ?_, fun i hi => by rw [k1 1 (by decide)]; exact hf i hi, hf0⟩
    · rw [← hM0]; simp [up2, e160]
    · rw [← hM0]; simp [up2, h2]
  obtain ⟨M1, L1, a1, a2, a3⟩ := F_nextS (p := 0) (L := L) hR (by rw [← hM0]; simp [up2]) (by rw [← hM0]; simp [up2]; rfl) (Nat.zero_le _)
  have h25 : M1 0 25 = 0 := by rw [a3.o25, ← hM0]; simp [up2]
  have enm : nm M0 = nm M := by
    funext x; unfold nm
    rw [k2 13 (by decide) (by decide) (by decide) (by decide) (by decide), k2 14 (by decide) (by decide) (by decide) (by decide) (by decide), k2 15 (by decide) (by decide) (by decide) (by decide) (by decide), k2 16 (by decide) (by decide) (by decide) (by decide) (by decide), k2 17 (by decide) (by decide) (by decide) (by decide) (by decide), k2 18 (by decide) (by decide) (by decide) (by decide) (by decide)]
  have fin : ∀ {M' : Mi} {L' : Ml}, RF M0 M' L L' → RG M M' L L' := fun h => ⟨fun k hk => (h.1 k hk).trans (k1 k hk), fun j b c d e g i l o => (h.2.1 j d e g l o).trans (k2 j b c d i l), h.2.2⟩
  rw [a1]; simp only [Option.bind_some]
  rw [W_turns a2]; simp only [Option.bind_some]
  obtain ⟨v1, M2, L2, b1, b2, b3⟩ := R_part a2 h25 259 (by decide) []
  rw [b1]; simp only [Option.bind_some]
  have F2 := a3.trans b2
  have bad : ∀ (M : Mi) (L : Ml) (q : Nat) (x3 x4 s0 : Int32), RB f n (160 * r) q M → ∃ v, F_X6_read_k126 M L w x3 x4 s0 = some (v, M, L) := by
    intro M L q x3 x4 s0 h
    unfold F_X6_read_k126 F_X6_read_k146
    rw [if_neg (by rw [h.2.1]; decide)]
    by_cases e0 : w = 0
    · exact ⟨x3, by rw [if_pos e0]⟩
    · rw [if_neg e0]; by_cases e1 : w = 1
      · exact ⟨x4, by rw [if_pos e1]⟩
      · exact ⟨s0, by rw [if_neg e1]⟩
  have bad92 : ∀ (M : Mi) (L : Ml) (q : Nat) (x3 s0 : Int32), RB f n (160 * r) q M → ∃ v, F_X6_read_k92 M L w x3 s0 = some (v, M, L) := by
    intro M L q x3 s0 h
    unfold F_X6_read_k92
    rw [if_neg (by rw [h.2.1]; decide)]
    exact bad M L q x3 s0 0 h
  unfold ptext
  cases r1 : tpart f n 259 0 [] with
  | inl q =>
    rw [r1] at b3
    rw [if_neg (by rw [b3.2.1]; decide)]
    obtain ⟨v, e⟩ := bad92 M2 L2 q v1 0 b3
    exact ⟨v, M2, L2, e, fin F2, b3.2.1, b3.2.2⟩
  | inr x =>
    rw [r1] at b3
    obtain ⟨b3, c1, hc1, V1⟩ := b3
    dsimp only
    rw [if_pos b3.2.2.1, W_tires b3]; simp only [Option.bind_some]
    obtain ⟨v2, M3, L3, d1, d2, d3⟩ := R_part b3 (b2.o25.trans h25) 260 (by decide) x.2
    rw [d1]; simp only [Option.bind_some]
    have F3 := F2.trans d2
    cases r2 : tpart f n 260 x.1 x.2 with
    | inl q =>
      rw [r2] at d3
      obtain ⟨v, e⟩ := bad92 M3 L3 q v1 v2 d3
      exact ⟨v, M3, L3, e, fin F3, d3.2.1, d3.2.2⟩
    | inr y =>
      rw [r2] at d3
      obtain ⟨d3, c2, hc2, V2⟩ := d3
      dsimp only
      unfold F_X6_read_k92
      rw [if_pos d3.2.2.1, W_rests d3]; simp only [Option.bind_some]
      obtain ⟨v3, M4, L4, g1, g2, g3⟩ := R_part d3 (d2.o25.trans (b2.o25.trans h25)) 261 (by decide) y.2
      rw [g1]; simp only [Option.bind_some]
      have F4 := F3.trans g2
      cases r3 : tpart f n 261 y.1 y.2 with
      | inl q =>
        rw [r3] at g3
        obtain ⟨v, e⟩ := bad M4 L4 q v1 v2 v3 g3
        exact ⟨v, M4, L4, e, fin F4, g3.2.1, g3.2.2⟩
      | inr z =>
        rw [r3] at g3
        obtain ⟨g3, c3, hc3, V3⟩ := g3
        dsimp only
        by_cases e : tc f n z.1 = 256
        · rw [if_pos e]
          unfold F_X6_read_k126
          rw [if_pos g3.2.2.1, g3.2.2.2.1, if_pos (rc0.mpr e)]
          rw [a3.nme, enm] at V1
          rw [b2.nme, a3.nme, enm] at V2
          rw [d2.nme, b2.nme, a3.nme, enm] at V3
          unfold F_X6_read_k146
          have l1 : x.2 = c1 := hc1
          have s0 : seg z.2 0 x.2.length = c1 := by unfold seg; rw [hc3, hc2, l1]; simp
          have s1 : seg z.2 x.2.length y.2.length = c2 := by
            unfold seg; rw [hc3, hc2, l1]; simp [List.append_assoc]
          have s2 : seg z.2 y.2.length z.2.length = c3 := by
            unfold seg; rw [hc3]; simp
          by_cases e0 : w = 0
          · rw [if_pos e0]
            refine ⟨v1, M4, L4, rfl, fin F4, g3.2.2.1, ?_⟩
            unfold segA segB; rw [if_pos e0, if_pos e0]
            rw [s0]; exact V1
          · rw [if_neg e0]
            by_cases e1 : w = 1
            · rw [if_pos e1]
              refine ⟨v2, M4, L4, rfl, fin F4, g3.2.2.1, ?_⟩
              unfold segA segB; rw [if_neg e0, if_neg e0, if_pos e1, if_pos e1]
              rw [s1]; exact V2
            · rw [if_neg e1]
              refine ⟨v3, M4, L4, rfl, fin F4, g3.2.2.1, ?_⟩
              unfold segA segB; rw [if_neg e0, if_neg e0, if_neg e1, if_neg e1]
              rw [s2]; exact V3
        · rw [if_neg e]
          unfold F_X6_read_k126
          rw [if_pos g3.2.2.1, g3.2.2.2.1, if_neg (fun q => e (rc0.mp q))]
          obtain ⟨M5, i1, i2, i3⟩ := F_failS g3
          rw [i1]; simp only [Option.bind_some]
          have F5 := F4.trans i3
          obtain ⟨v, ev⟩ := bad M5 L4 _ v1 v2 v3 i2
          unfold F_X6_read_k126 at ev
          rw [if_neg (by rw [i2.2.1]; decide)] at ev
          exact ⟨v, M5, L4, ev, fin F5, i2.2.1, i2.2.2⟩
