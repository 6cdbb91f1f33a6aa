/-! PURE: the reference's reading does as the parser, and its value is what the code does -/
def nm (M : Mi) (x : Int32) : Int32 := if x = -1 then M 0 13 else if x = -2 then M 0 14 else if x = -3 then M 0 15 else if x = -4 then M 0 16 else if x = -5 then M 0 17 else M 0 18
theorem RF.nme {M M' : Mi} {L L' : Ml} (h : RF M M' L L') : nm M' = nm M := by
  funext x; unfold nm
  rw [h.2.1 13 (by decide) (by decide) (by decide) (by decide) (by decide), h.2.1 14 (by decide) (by decide) (by decide) (by decide) (by decide), h.2.1 15 (by decide) (by decide) (by decide) (by decide) (by decide), h.2.1 16 (by decide) (by decide) (by decide) (by decide) (by decide), h.2.1 17 (by decide) (by decide) (by decide) (by decide) (by decide), h.2.1 18 (by decide) (by decide) (by decide) (by decide) (by decide)]
theorem RF.o25 {M M' : Mi} {L L' : Ml} (h : RF M M' L L') : M' 0 25 = M 0 25 := h.2.1 25 (by decide) (by decide) (by decide) (by decide) (by decide)
theorem bin15 (x y : Int32) : bin (-15) x y = x * y := by unfold bin; rw [if_neg (by decide), if_neg (by decide), if_neg (by decide), if_neg (by decide), if_neg (by decide), if_neg (by decide)]
theorem bin14 (x y : Int32) : bin (-14) x y = x - y := by unfold bin; rw [if_neg (by decide), if_neg (by decide), if_neg (by decide), if_neg (by decide), if_neg (by decide), if_pos rfl]
theorem bin13 (x y : Int32) : bin (-13) x y = x + y := by unfold bin; rw [if_neg (by decide), if_neg (by decide), if_neg (by decide), if_neg (by decide), if_pos rfl]
theorem bin12 (x y : Int32) : bin (-12) x y = if x = y then 1 else 0 := by unfold bin; rw [if_neg (by decide), if_neg (by decide), if_neg (by decide), if_pos rfl]
theorem bin11 (x y : Int32) : bin (-11) x y = if x < y then 1 else 0 := by unfold bin; rw [if_neg (by decide), if_neg (by decide), if_pos rfl]
theorem bin10 (x y : Int32) : bin (-10) x y = if x = 0 then 0 else if y = 0 then 0 else 1 := by unfold bin; rw [if_neg (by decide), if_pos rfl]
theorem bin9 (x y : Int32) : bin (-9) x y = if x = 0 then (if y = 0 then 0 else 1) else 1 := by unfold bin; rw [if_pos rfl]
theorem un8 (x : Int32) : un (-8) x = -x := by unfold un; rw [if_pos rfl]
theorem un7 (x : Int32) : un (-7) x = if x = 0 then 1 else 0 := by unfold un; rw [if_neg (by decide)]
theorem F_joined (o x y : Int32) : F_X1_joined o x y = some (bin o x y) := by
  unfold F_X1_joined F_X1_joined_k48
  by_cases h14 : o = -14
  · subst h14; rw [if_pos rfl, bin14]
  rw [if_neg h14]
  by_cases h13 : o = -13
  · subst h13; rw [if_pos rfl, bin13]
  rw [if_neg h13]
  by_cases h12 : o = -12
  · subst h12; rw [if_pos rfl, bin12]; by_cases h : x = y <;> simp [h]
  rw [if_neg h12]
  by_cases h11 : o = -11
  · subst h11; rw [if_pos rfl, bin11]
    by_cases h : x < y
    · rw [if_pos h, if_neg (by rw [i_le]; rw [i_lt] at h; omega)]
    · rw [if_neg h, if_pos (by rw [i_le]; rw [i_lt] at h; omega)]
  rw [if_neg h11]
  by_cases h10 : o = -10
  · subst h10; rw [if_pos rfl, bin10]
    by_cases h : x = 0
    · rw [if_pos h, if_pos h]
    · rw [if_neg h, if_neg h]; by_cases h2 : y = 0
      · rw [if_pos h2, if_pos h2]
      · rw [if_neg h2, if_neg h2]
  rw [if_neg h10]
  by_cases h9 : o = -9
  · subst h9; rw [if_pos rfl, bin9]
    by_cases h : x = 0
    · rw [if_pos h, if_pos h]; by_cases h2 : y = 0
      · rw [if_pos h2, if_pos h2]
      · rw [if_neg h2, if_neg h2]
    · rw [if_neg h, if_neg h]
  rw [if_neg h9]; unfold bin; rw [if_neg h9, if_neg h10, if_neg h11, if_neg h12, if_neg h13, if_neg h14]
theorem rc4 {f : Nat → Int32} {n p : Nat} (h : tc f n p ≠ 258) : rc f n p ≠ 4 := by
  intro e; apply h
  unfold rc at e; unfold tc
  by_cases ha : n ≤ ta f n p
  · rw [if_pos ha] at e; exact absurd e (by decide)
  · rw [if_neg ha] at e ⊢
    by_cases hl : isLet (f (ta f n p)) = true
    · rw [if_pos hl] at e; exact absurd e (by decide)
    · rw [if_neg hl] at e ⊢
      by_cases hd : isDig (f (ta f n p)) = true
      · rw [if_pos hd] at e ⊢
        by_cases h4 : te f n p - ta f n p ≤ 4
        · rw [if_pos h4] at e; exact absurd e (by decide)
        · rw [if_neg h4]
      · rw [if_neg hd] at e ⊢
        by_cases hs : isSgn (f (ta f n p)) = true
        · rw [if_pos hs] at e; exact absurd e (by decide)
        · rw [if_neg hs]
theorem rc2 {f : Nat → Int32} {n p : Nat} : rc f n p = 2 ↔ tc f n p = 257 := by
  unfold rc tc
  by_cases ha : n ≤ ta f n p
  · rw [if_pos ha, if_pos ha]; decide
  · rw [if_neg ha, if_neg ha]
    by_cases hl : isLet (f (ta f n p)) = true
    · rw [if_pos hl, if_pos hl]
      refine ⟨fun h => absurd h (by decide), fun h => ?_⟩
      exfalso
      rcases wc_cases f (ta f n p) (te f n p) with ⟨v, hv, g1, g2, g3⟩ | ⟨g1, g2⟩
      · exact (cw_258 v hv g1).2.2.1 (g3.symm.trans h)
      · rw [g2] at h; exact absurd h (by decide)
    · rw [if_neg hl, if_neg hl]
      by_cases hd : isDig (f (ta f n p)) = true
      · rw [if_pos hd, if_pos hd]
        by_cases h4 : te f n p - ta f n p ≤ 4
        · rw [if_pos h4, if_pos h4]; exact ⟨fun _ => rfl, fun _ => rfl⟩
        · rw [if_neg h4, if_neg h4]; decide
      · rw [if_neg hd, if_neg hd]
        by_cases hs : isSgn (f (ta f n p)) = true
        · rw [if_pos hs, if_pos hs]
          refine ⟨fun h => absurd h (by decide), fun h => ?_⟩
          exfalso
          rcases sgn_lit _ hs with e | e | e | e | e | e | e | e <;> rw [e] at h <;> exact absurd h (by decide)
        · rw [if_neg hs, if_neg hs]; decide
theorem tc_neg {f : Nat → Int32} {n p : Nat} (h : tc f n p < 0) : ∃ w, w < 7 ∧ 1 ≤ w ∧ tc f n p = cw w := by
  unfold tc at h ⊢
  by_cases ha : n ≤ ta f n p
  · rw [if_pos ha] at h; exact absurd h (by decide)
  · rw [if_neg ha] at h ⊢
    by_cases hl : isLet (f (ta f n p)) = true
    · rw [if_pos hl] at h ⊢
      rcases wc_cases f (ta f n p) (te f n p) with ⟨v, hv, g1, g2, g3⟩ | ⟨g1, g2⟩
      · rw [g3] at h ⊢
        have : ∀ v, v < 13 → cw v < 0 → v < 7 := by decide
        exact ⟨v, this v hv h, g1, rfl⟩
      · rw [g2] at h; exact absurd h (by decide)
    · rw [if_neg hl] at h ⊢
      by_cases hd : isDig (f (ta f n p)) = true
      · rw [if_pos hd] at h
        by_cases h4 : te f n p - ta f n p ≤ 4
        · rw [if_pos h4] at h; exact absurd h (by decide)
        · rw [if_neg h4] at h; exact absurd h (by decide)
      · rw [if_neg hd] at h
        by_cases hs : isSgn (f (ta f n p)) = true
        · rw [if_pos hs] at h
          rcases sgn_lit _ hs with e | e | e | e | e | e | e | e <;> rw [e] at h <;> exact absurd h (by decide)
        · rw [if_neg hs] at h; exact absurd h (by decide)
theorem tv_nn {f : Nat → Int32} {n p : Nat} (h : tc f n p = 257) : 0 ≤ tv f n p := by
  have h2 := rc2.mpr h
  unfold rc at h2
  by_cases ha : n ≤ ta f n p
  · rw [if_pos ha] at h2; exact absurd h2 (by decide)
  · rw [if_neg ha] at h2
    by_cases hl : isLet (f (ta f n p)) = true
    · rw [if_pos hl] at h2; exact absurd h2 (by decide)
    · rw [if_neg hl] at h2
      by_cases hd : isDig (f (ta f n p)) = true
      · rw [if_pos hd] at h2
        by_cases h4 : te f n p - ta f n p ≤ 4
        · have hte : te f n p = rto isDig f n (ta f n p) := by unfold te; rw [if_neg ha, if_neg hl, if_pos hd]
          have hall : ∀ j, ta f n p ≤ j → j < te f n p → isDig (f j) = true := by rw [hte]; exact rto_all isDig f n (n - ta f n p) (ta f n p) (Nat.le_refl _)
          have := lval_dval f (ta f n p) (te f n p - ta f n p) h4 (fun j hj => hall _ (by omega) (by omega))
          rw [i_le]; show 0 ≤ (tv f n p).toInt
          unfold tv; rw [this.1]; exact this.2.1
        · rw [if_neg h4] at h2; exact absurd h2 (by decide)
      · rw [if_neg hd] at h2; split at h2 <;> exact absurd h2 (by decide)
/-- a reading of the reference, d more may be opened, D is its code's need of stack -/
def RD (f : Nat → Int32) (n o d D : Nat) (g : Mi → Ml → Option (Int32 × Mi × Ml)) (r : Nat → PR) : Prop :=
  ∀ p M L, RS f n o p M L → M 0 25 = nI (5 - d) → ∃ v M' L', g M L = some (v, M', L') ∧ RF M M' L L' ∧ match r p with
    | .inl q => RB f n o q M'
    | .inr x => RS f n o x.1 M' L' ∧ VV (nm M) x.2 D v
def RLp (f : Nat → Int32) (n o : Nat) (op : Int32 → Option Int32) (sub : Mi → Ml → Option (Int32 × Mi × Ml)) (g : Nat → Mi → Ml → Int32 → Option (Int32 × Mi × Ml)) : Prop :=
  (∀ m q M L x, RB f n o q M → g (m + 1) M L x = some (x, M, L)) ∧
  ∀ m p M L x, RS f n o p M L → g (m + 1) M L x = match op (tc f n p) with
    | none => some (x, M, L)
    | some w => (F_X6_next M L).bind fun r => (sub r.1 r.2).bind fun r => g m r.2.1 r.2.2 (bin w x r.1)
theorem RL_S {f : Nat → Int32} {n o d D K : Nat} {op : Int32 → Option Int32} {sub : Mi → Ml → Option (Int32 × Mi × Ml)} {g : Nat → Mi → Ml → Int32 → Option (Int32 × Mi × Ml)} {r : Nat → PR} (hl : RLp f n o op sub g) (ho : op 256 = none) (hob : op 258 = none) (hop : ∀ t w, op t = some w → w < -8) (hs : RD f n o d D sub r) (hr : ∀ p, p ≤ n → PP n (r p) p) (hK : D + 1 ≤ K) :
    ∀ (m p : Nat) (c : List Int32) (v : Int32) (M : Mi) (L : Ml), RS f n o p M L → M 0 25 = nI (5 - d) → n - p < m → VV (nm M) c K v → ∃ v' M' L', g m M L v = some (v', M', L') ∧ RF M M' L L' ∧ match chn f n op r m p c with
      | .inl q => RB f n o q M'
      | .inr x => RS f n o x.1 M' L' ∧ VV (nm M) x.2 K v' := by
  intro m
  induction m with
  | zero => intro p c v M L h h25 hm; omega
  | succ m ih =>
    intro p c v M L h h25 hm hv
    rw [hl.2 m p M L v h, chn]
    cases e : op (tc f n p) with
    | none => exact ⟨v, M, L, rfl, RF.rfl' M L, h, hv⟩
    | some w =>
      have hne : tc f n p ≠ 256 := fun q => by rw [q, ho] at e; cases e
      have hne8 : tc f n p ≠ 258 := fun q => by rw [q, hob] at e; cases e
      have hg := te_go h.2.1 hne
      have htn := te_n (f := f) h.2.1
      obtain ⟨M1, L1, a1, a2, a3⟩ := h.go (rc4 hne8)
      obtain ⟨v2, M2, L2, b1, b2, b3⟩ := hs _ M1 L1 a2 (a3.o25.trans h25)
      simp only [a1, b1, Option.bind_some]
      have hpp := hr (te f n p) htn
      cases er : r (te f n p) with
      | inl q =>
        rw [er] at b3
        obtain ⟨m', rfl⟩ : ∃ m', m = m' + 1 := ⟨m - 1, by omega⟩
        rw [hl.1 m' q M2 L2 _ b3]
        exact ⟨_, M2, L2, rfl, a3.trans b2, b3⟩
      | inr x =>
        rw [er] at b3 hpp
        obtain ⟨b3, b4⟩ := b3
        obtain ⟨g1, g2, g3⟩ := hpp
        have hF := a3.trans b2
        obtain ⟨v', M', L', c1, c2, c3⟩ := ih x.1 (c ++ x.2 ++ [w]) (bin w v v2) M2 L2 b3 (hF.o25.trans h25) (by omega) (by
          rw [hF.nme]
          exact VV.bin hv (by rw [← a3.nme]; exact b4) (hop _ _ e) (Nat.le_refl _) hK)
        refine ⟨v', M', L', c1, hF.trans c2, ?_⟩
        rw [hF.nme] at c3
        exact c3
theorem RD_chn {f : Nat → Int32} {n o d D D0 K : Nat} {op : Int32 → Option Int32} {sub : Mi → Ml → Option (Int32 × Mi × Ml)} {g : Nat → Mi → Ml → Int32 → Option (Int32 × Mi × Ml)} {r : Nat → PR} (hl : RLp f n o op sub g) (ho : op 256 = none) (hob : op 258 = none) (hop : ∀ t w, op t = some w → w < -8) (hs : RD f n o d D sub r) (hr : ∀ p, p ≤ n → PP n (r p) p) {first : Mi → Ml → Option (Int32 × Mi × Ml)} {r0 : Nat → PR} (h0 : RD f n o d D0 first r0) (hr0 : ∀ p, p ≤ n → PP n (r0 p) p) (hK : D + 1 ≤ K) (hK0 : D0 ≤ K) :
    RD f n o d K (fun M L => (first M L).bind fun x => g FU x.2.1 x.2.2 x.1) (fun p => pbd (r0 p) fun p c => chn f n op r FU p c) := by
  intro p M L h h25
  obtain ⟨v1, M1, L1, a1, a2, a3⟩ := h0 p M L h h25
  have hpp := hr0 p h.2.1
  simp only [a1, Option.bind_some]
  cases er : r0 p with
  | inl q =>
    rw [er] at a3
    rw [show FU = 999 + 1 from rfl, hl.1 999 q M1 L1 v1 a3]
    exact ⟨v1, M1, L1, rfl, a2, a3⟩
  | inr x =>
    rw [er] at a3 hpp
    obtain ⟨a3, a4⟩ := a3
    obtain ⟨v', M', L', c1, c2, c3⟩ := RL_S hl ho hob hop hs hr hK FU x.1 x.2 v1 M1 L1 a3 (a2.o25.trans h25) (by have := h.1.1; unfold FU; omega) (by rw [a2.nme]; exact a4.mono hK0)
    rw [a2.nme] at c3
    exact ⟨v', M', L', c1, a2.trans c2, c3⟩
theorem opT_lt (t w : Int32) (h : opT t = some w) : w < -8 := by unfold opT at h; split at h <;> cases h; decide
theorem opS_lt (t w : Int32) (h : opS t = some w) : w < -8 := by
  unfold opS at h; split at h
  · cases h; decide
  · split at h <;> cases h; decide
theorem opC_lt (t w : Int32) (h : opC t = some w) : w < -8 := by
  unfold opC at h; split at h
  · cases h; decide
  · split at h <;> cases h; decide
theorem opA_lt (t w : Int32) (h : opA t = some w) : w < -8 := by unfold opA at h; split at h <;> cases h; decide
theorem opE_lt (t w : Int32) (h : opE t = some w) : w < -8 := by unfold opE at h; split at h <;> cases h; decide
/-! opening -/
theorem RS_25 {f : Nat → Int32} {n o p : Nat} {M : Mi} {L : Ml} (h : RS f n o p M L) (y : Int32) : RS f n o p (up2 M 0 25 y) L := by
  obtain ⟨hR, hp, h26, h22, h23, h21, hb, h24⟩ := h
  refine ⟨hR.keep (up2_ne (by decide)) (up2_b (by decide)) (up2_b (by decide)), hp, ?_, ?_, ?_, fun e => ?_, hb, h24⟩
  · rw [up2_b (by decide)]; exact h26
  · rw [up2_b (by decide)]; exact h22
  · rw [up2_b (by decide)]; exact h23
  · rw [up2_b (by decide)]; exact h21 e
theorem RB_25 {f : Nat → Int32} {n o q : Nat} {M : Mi} (h : RB f n o q M) (y : Int32) : RB f n o q (up2 M 0 25 y) := by
  obtain ⟨hR, h26, h27⟩ := h
  refine ⟨hR.keep (up2_ne (by decide)) (up2_b (by decide)) (up2_b (by decide)), ?_, ?_⟩
  · rw [up2_b (by decide)]; exact h26
  · rw [up2_b (by decide)]; exact h27
theorem nm_25 (M : Mi) (y : Int32) : nm (up2 M 0 25 y) = nm M := by funext x; simp [nm, up2]
theorem RF_25 {M M' : Mi} {L L' : Ml} {y z : Int32} (h : RF (up2 M 0 25 y) M' L L') (hz : z = M 0 25) : RF M (up2 M' 0 25 z) L L' := by
  refine ⟨fun k hk => ?_, fun j a b c d e => ?_, h.2.2⟩
  · rw [up2_ne hk, h.1 k hk, up2_ne hk]
  · by_cases ej : j = 25
    · subst ej; rw [up2_at]; exact hz
    · rw [up2_b ej, h.2.1 j a b c d e, up2_b ej]
theorem R_opens0 {f : Nat → Int32} {n o p : Nat} {M : Mi} {L : Ml} (h : RS f n o p M L) (h25 : M 0 25 = nI (5 - 0)) : ∃ M', F_X6_opens M L = some (zb false, M', L) ∧ RB f n o (ta f n p) M' ∧ RF M M' L L := by
  obtain ⟨M', a, b⟩ := F_failS h
  refine ⟨M', ?_, b⟩
  unfold F_X6_opens
  rw [if_pos (show M 0 25 = 5 from h25), a]; rfl
theorem R_opens1 {f : Nat → Int32} {n o p d : Nat} {M : Mi} {L : Ml} (h : RS f n o p M L) (h25 : M 0 25 = nI (5 - (d + 1))) (hd : d + 1 ≤ 5) (hne : tc f n p ≠ 258) : ∃ M' L', F_X6_opens M L = some (zb true, M', L') ∧ RS f n o (te f n p) M' L' ∧ M' 0 25 = nI (5 - d) ∧ RF (up2 M 0 25 (nI (5 - d))) M' L L' := by
  obtain ⟨M1, L1, a1, a2, a3⟩ := (RS_25 h (nI (5 - d))).go (rc4 hne)
  refine ⟨M1, L1, ?_, a2, by rw [a3.o25, up2_at], a3⟩
  unfold F_X6_opens
  rw [h25, if_neg (fun e => by
    have := congrArg Int32.toInt e
    rw [nI_toInt (by omega), show ((5 : Int32).toInt) = 5 from rfl] at this
    omega), nI_up hd, a1]; rfl
theorem R_down {d : Nat} (hd : d + 1 ≤ 5) : nI (5 - d) - 1 = nI (5 - (d + 1)) := by
  have : nI (5 - d) - nI 1 = nI (5 - d - 1) := pk_sub (by omega)
  exact this
