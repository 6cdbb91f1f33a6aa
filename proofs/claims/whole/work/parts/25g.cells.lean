/-! TilesOfLaw.<init>: its cells, one by one -/
def KF (E : Ev) (ps : List (Nat × Nat × Nat)) : Prop := ∀ p, p ∈ ps → E.2.2 p.1 p.2.1 = some p.2.2
def KN (E : Ev) (k : Nat) : Prop := ∀ j, E.2.2 k j = none
def AD (E E' : Ev) : Prop := ∀ k, k < E.1.length → E'.2.1 k = E.2.1 k ∧ k < E'.1.length
theorem AD.tr {E E' E'' : Ev} (h : AD E E') (g : AD E' E'') : AD E E'' := fun k hk => ⟨((g k (h k hk).2).1).trans (h k hk).1, (g k (h k hk).2).2⟩
theorem AD_eN {E : Ev} {d : Ds} {q : Nat} : AD E (eN E d q) := fun k hk => ⟨eN_ad hk, by simp [eN]; omega⟩
theorem AD_eR {E : Ev} {k j k' : Nat} : AD E (eR E k j k') := fun _ hk => ⟨rfl, hk⟩
theorem AD_eA {E : Ev} {b j t N q l : Nat} : AD E (eA E b j t N q l) := AD_eN.tr AD_eR
/-- all old references stand, and field j of cell b may be new -/
def OL (E E' : Ev) (l b j : Nat) : Prop := ∀ k i, k < l → (k ≠ b ∨ i ≠ j) → E'.2.2 k i = E.2.2 k i
theorem OL_eN {E : Ev} {d : Ds} {q l : Nat} (hl : E.1.length = l) (b j : Nat) : OL E (eN E d q) l b j := fun k i hk _ => by
  show upr E.2.2 E.1.length (fun _ => none) k i = _
  rw [upr_ne (by omega)]
theorem OL_eR {E : Ev} {l b j k' : Nat} : OL E (eR E b j k') l b j := fun k i _ h => by
  show up2 E.2.2 b j (some k') k i = _
  by_cases e : k = b
  · have e2 : i ≠ j := by rcases h with h1 | h1; exact absurd e h1; exact h1
    rw [e, up2_off e2]
  · rw [up2_ne e]
/-- a new cell's own fields don't count -/
theorem OL_far {E E' : Ev} {l m b j : Nat} (h : OL E E' m b j) (hb : l ≤ b) (hm : l ≤ m) (b' j' : Nat) : OL E E' l b' j' := fun k i hk _ => h k i (by omega) (Or.inl (by omega))
theorem OL.tr {E E' E'' : Ev} {l b j : Nat} (h : OL E E' l b j) (g : OL E' E'' l b j) : OL E E'' l b j := fun k i hk q => (g k i hk q).trans (h k i hk q)
theorem OL_eA {E : Ev} {l m b j t N q b' j' : Nat} (hl : E.1.length = m) (hb : l ≤ b) (hm : l ≤ m) : OL E (eA E b j t N q m) l b' j' := (OL_far (OL_eN hl b j) hb hm b' j').tr (OL_far (OL_eR (l := m)) hb hm b' j')
def kfB (ps : List (Nat × Nat × Nat)) (n b j : Nat) : Bool := ps.all fun p => decide (p.1 < n ∧ (p.1 ≠ b ∨ p.2.1 ≠ j))
theorem KF.old {E E' : Ev} {ps : List (Nat × Nat × Nat)} {l b j : Nat} (h : KF E ps) (g : OL E E' l b j) (hb : kfB ps l b j = true) : KF E' ps := fun p hp => by
  have := of_decide_eq_true (List.all_eq_true.mp hb p hp)
  rw [g p.1 p.2.1 this.1 this.2]; exact h p hp
theorem KF.cons {E : Ev} {ps : List (Nat × Nat × Nat)} {a b c : Nat} (h : KF E ps) (g : E.2.2 a b = some c) : KF E ((a, b, c) :: ps) := fun p hp => by
  rcases List.mem_cons.mp hp with rfl | hp
  · exact g
  · exact h p hp
theorem KN.old {E E' : Ev} {k l b j : Nat} (h : KN E k) (g : OL E E' l b j) (hk : k < l) (hb : k ≠ b) : KN E' k := fun i => by rw [g k i hk (Or.inl hb)]; exact h i
theorem KN_new {E : Ev} {d : Ds} {q n : Nat} (hl : E.1.length = n) : KN (eN E d q) n := fun j => by
  show upr E.2.2 E.1.length (fun _ => none) n j = none
  rw [hl, upr_self]
theorem KN_eR {E : Ev} {k a j k' : Nat} (h : KN E k) (hk : k ≠ a) : KN (eR E a j k') k := fun i => by
  show up2 E.2.2 a j (some k') k i = none
  rw [up2_ne hk]; exact h i
theorem KN_eN {E : Ev} {d : Ds} {q k : Nat} (h : KN E k) (hk : k < E.1.length) : KN (eN E d q) k := fun j => by
  show upr E.2.2 E.1.length (fun _ => none) k j = none
  rw [upr_ne (by omega)]; exact h j
theorem eR_at {E : Ev} {b j k' : Nat} : (eR E b j k').2.2 b j = some k' := up2_at _ _ _ _
theorem eA_at {E : Ev} {b j t N q l : Nat} : (eA E b j t N q l).2.2 b j = some l := up2_at _ _ _ _
theorem eA_off {E : Ev} {b j t N q l i : Nat} (hb : b < E.1.length) (hi : i ≠ j) : (eA E b j t N q l).2.2 b i = E.2.2 b i := by
  show up2 (upr E.2.2 E.1.length (fun _ => none)) b j (some l) b i = _
  rw [up2_off hi, upr_ne (by omega)]
theorem eA_1 {E : Ev} {b j t N q l : Nat} {s : List Ds} (h : E.1 = s) : (eA E b j t N q l).1 = s ++ [.inr (t, N)] := by rw [← h]; rfl
section CE
variable {ρ : Type} {κ : Kx} {P : ρ → State → Prop} {rm : Room} {f : Option ρ} {pc : Nat} {M : Mi} {L : Ml} {cn sn : Nat}
set_option maxRecDepth 100000 in
set_option maxHeartbeats 4000000 in
theorem j_fl (C : Cx κ cX5_init RX5 rm none) (hin : (kmeth κ).name = "<init>") (hrm : 5 ≤ rm.frames ∧ 100 ≤ rm.locals) {i j : Nat} (h1 : decode cX5_init pc = .ok (.new 7, 3)) (h2 : decode cX5_init (pc + 3) = .ok (.dup, 1)) (h3 : decode cX5_init (pc + 3 + 1) = .ok (.invokespecial 9, 3)) (h4 : decode cX5_init (pc + 3 + 1 + 3) = .ok (.putfield i, 3)) (hj : j < 8) (hk : (kinds 5)[j]? = some 2) (hfin : (TX5 j).2.2.2 = true) (hdecl : (TX5 j).1 = RX5) (hnr : ∀ a, narrow (tyX5 j) (.ref a) = .ref a) (hfit : ∀ a, fits (tyX5 j) (.ref a) = true) (hL : Cond.fieldLink RX5 i (TX5 j).1 (TX5 j).2.1 (TX5 j).2.2.1 ∈ TB)
    {E : Ev} {s : List Ds} {l : Nat} {ps : List (Nat × Nat × Nat)} (hs : E.1 = s) (h0 : s[0]? = some (.inl 5)) (hsl : s.length = l) (hF : KF E ps) (hb : kfB ps l 0 j = true) (hZ : Zn l M L) (hR : RW E) (hcs : cn + 5 ≤ rm.cells ∧ sn + 29 ≤ rm.slots)
    (kk : ∀ E', E'.1 = s ++ [.inl 0] ++ [.inr (0, 5)] ++ [.inr (0, 5)] ++ [.inr (0, 5)] ++ [.inr (0, 5)] → KF E' ((0, j, l) :: (l, 8, l + 4) :: (l, 7, l + 3) :: (l, 6, l + 2) :: (l, 5, l + 1) :: ps) → OL E E' l 0 j → RW E' → AD E E' → JF κ P (pc + 3 + 1 + 3 + 3) [some (.ref (E'.2.1 0)), none] [] E' M L (cn + 1 + 4) (sn + 9 + 20) f) : JF κ P pc [some (.ref (E.2.1 0)), none] [.ref (E.2.1 0)] E M L cn sn f := by
  have hl : E.1.length = l := by rw [hs]; exact hsl
  have hl0 : 0 < l := by rw [← hsl]; exact (List.getElem?_eq_some_iff.mp h0).1
  refine j_newQ (c := 0) C h1 FC0 tw_124 tw_125 tw_102 (by decide +kernel) hl hZ hR ⟨by omega, by omega⟩ (fun q hRN => ?_)
  rw [← eN_ad (d := .inl 0) (q := q) (show 0 < E.1.length by omega)]
  have ad1 : AD E (eN E (.inl 0) q) := AD_eN
  have ol1 : OL E (eN E (.inl 0) q) l 0 j := OL_eN hl 0 j
  have s1 : (eN E (.inl 0) q).1 = s ++ [.inl 0] := by rw [← hs]; rfl
  generalize eN E (.inl 0) q = N at *
  refine j_dup C h2 rfl ?_
  have lN : N.1.length = l + 1 := by rw [s1]; simp [hsl]
  have hSN : N.1[l]? = some (.inl 0) := by rw [s1, List.getElem?_append_right (by omega), hsl, Nat.sub_self]; rfl
  refine j_callI (st := [.ref (N.2.1 l), .ref (N.2.1 0)]) C h3 (ct_X0_init (kγ κ) N M L l (l + 1) hSN lN (hZ.s (Nat.le_succ _)) hRN) mi_X0_init tw_126 rfl rfl (Nat.le_of_ble_eq_true rfl) ⟨⟨rfl, rfl⟩, ⟨by dsimp only; omega, by dsimp only; omega⟩, ⟨by omega, by omega⟩⟩ (fun Q M1 L1 hP => ?_)
  obtain ⟨hM1, hL1, hRQ, q1, q2, q3, q4, hQ⟩ := hP
  replace hM1 := hM1.symm
  replace hL1 := hL1.symm
  subst hM1
  subst hL1
  have aQ : AD N Q := by rw [hQ]; exact (((AD_eA).tr AD_eA).tr AD_eA).tr AD_eA
  have sQ : Q.1 = s ++ [.inl 0] ++ [.inr (0, 5)] ++ [.inr (0, 5)] ++ [.inr (0, 5)] ++ [.inr (0, 5)] := by rw [hQ]; exact eA_1 (eA_1 (eA_1 (eA_1 (s1))))
  have lQ : Q.1.length = l + 5 := by rw [sQ]; simp [hsl]
  have oQ : OL N Q l 0 j := by rw [hQ]; exact ((((OL_eA lN (by omega) (by omega)).tr (OL_eA (by simp [eN, eR, lN]) (by omega) (by omega))).tr (OL_eA (by simp [eN, eR, lN]) (by omega) (by omega))).tr (OL_eA (by simp [eN, eR, lN]) (by omega) (by omega)))
  have f3 : Q.2.2 l 8 = some (l + 4) := by rw [hQ]; exact eA_at
  have f2 : Q.2.2 l 7 = some (l + 3) := by rw [hQ, eA_off (by simp [eN, eR, lN] <;> omega) (by decide)]; exact eA_at
  have f1 : Q.2.2 l 6 = some (l + 2) := by rw [hQ, eA_off (by simp [eN, eR, lN] <;> omega) (by decide), eA_off (by simp [eN, eR, lN] <;> omega) (by decide)]; exact eA_at
  have f0 : Q.2.2 l 5 = some (l + 1) := by rw [hQ, eA_off (by simp [eN, eR, lN] <;> omega) (by decide), eA_off (by simp [eN, eR, lN] <;> omega) (by decide), eA_off (by simp [eN, eR, lN] <;> omega) (by decide)]; exact eA_at
  clear hQ
  rw [← (aQ l (by omega)).1, ← (aQ 0 (by omega)).1]
  have hS0 : Q.1[0]? = some (.inl 5) := by rw [sQ]; simp only [List.append_assoc]; rw [List.getElem?_append_left (by omega)]; exact h0
  refine j_putR (t := 0) (j := j) (k' := l) C h4 hin FC5 hS0 hj hk hfin hdecl rfl hnr hfit hL (by omega) hRQ (fun hR2 => ?_)
  have o2 : OL Q (eR Q 0 j l) l 0 j := OL_eR
  have o3 : OL Q (eR Q 0 j l) (l + 1) 0 j := OL_eR
  have oo := (ol1.tr oQ).tr o2
  have g : ∀ i, (eR Q 0 j l).2.2 l i = Q.2.2 l i := fun i => o3 l i (by omega) (Or.inl (by omega))
  exact kk (eR Q 0 j l) sQ ((((((hF.old oo hb).cons (by rw [g]; exact f0)).cons (by rw [g]; exact f1)).cons (by rw [g]; exact f2)).cons (by rw [g]; exact f3)).cons eR_at) oo hR2 ((ad1.tr aQ).tr AD_eR)
set_option maxRecDepth 100000 in
set_option maxHeartbeats 4000000 in
theorem j_lw (C : Cx κ cX5_init RX5 rm none) (hin : (kmeth κ).name = "<init>") (hrm : 5 ≤ rm.frames ∧ 100 ≤ rm.locals) {i j : Nat} (h1 : decode cX5_init pc = .ok (.new 25, 3)) (h2 : decode cX5_init (pc + 3) = .ok (.dup, 1)) (h3 : decode cX5_init (pc + 3 + 1) = .ok (.invokespecial 27, 3)) (h4 : decode cX5_init (pc + 3 + 1 + 3) = .ok (.putfield i, 3)) (hj : j < 8) (hk : (kinds 5)[j]? = some 2) (hfin : (TX5 j).2.2.2 = true) (hdecl : (TX5 j).1 = RX5) (hnr : ∀ a, narrow (tyX5 j) (.ref a) = .ref a) (hfit : ∀ a, fits (tyX5 j) (.ref a) = true) (hL : Cond.fieldLink RX5 i (TX5 j).1 (TX5 j).2.1 (TX5 j).2.2.1 ∈ TB)
    {E : Ev} {s : List Ds} {l : Nat} {ps : List (Nat × Nat × Nat)} (hs : E.1 = s) (h0 : s[0]? = some (.inl 5)) (hsl : s.length = l) (hF : KF E ps) (hb : kfB ps l 0 j = true) (hZ : Zn l M L) (hR : RW E) (hcs : cn + 3 ≤ rm.cells ∧ sn + 49 ≤ rm.slots)
    (kk : ∀ E', E'.1 = s ++ [.inl 1] ++ [.inr (3, 6)] ++ [.inr (0, 40)] → KF E' ((0, j, l) :: (l, 1, l + 2) :: (l, 0, l + 1) :: ps) → KN E' (l + 1) → OL E E' l 0 j → RW E' → AD E E' → JF κ P (pc + 3 + 1 + 3 + 3) [some (.ref (E'.2.1 0)), none] [] E' M L (cn + 1 + 2) (sn + 3 + 46) f) : JF κ P pc [some (.ref (E.2.1 0)), none] [.ref (E.2.1 0)] E M L cn sn f := by
  have hl : E.1.length = l := by rw [hs]; exact hsl
  have hl0 : 0 < l := by rw [← hsl]; exact (List.getElem?_eq_some_iff.mp h0).1
  refine j_newQ (c := 1) C h1 FC1 tw_173 tw_174 tw_103 (by decide +kernel) hl hZ hR ⟨by omega, by omega⟩ (fun q hRN => ?_)
  rw [← eN_ad (d := .inl 1) (q := q) (show 0 < E.1.length by omega)]
  have ad1 : AD E (eN E (.inl 1) q) := AD_eN
  have ol1 : OL E (eN E (.inl 1) q) l 0 j := OL_eN hl 0 j
  have s1 : (eN E (.inl 1) q).1 = s ++ [.inl 1] := by rw [← hs]; rfl
  generalize eN E (.inl 1) q = N at *
  refine j_dup C h2 rfl ?_
  have lN : N.1.length = l + 1 := by rw [s1]; simp [hsl]
  have hSN : N.1[l]? = some (.inl 1) := by rw [s1, List.getElem?_append_right (by omega), hsl, Nat.sub_self]; rfl
  refine j_callI (st := [.ref (N.2.1 l), .ref (N.2.1 0)]) C h3 (ct_X1_init (kγ κ) N M L l (l + 1) hSN lN (hZ.s (Nat.le_succ _)) hRN) mi_X1_init tw_175 rfl rfl (Nat.le_of_ble_eq_true rfl) ⟨⟨rfl, rfl⟩, ⟨by dsimp only; omega, by dsimp only; omega⟩, ⟨by omega, by omega⟩⟩ (fun Q M1 L1 hP => ?_)
  obtain ⟨hM1, hL1, hRQ, q1, q2, hQ⟩ := hP
  replace hM1 := hM1.symm
  replace hL1 := hL1.symm
  subst hM1
  subst hL1
  have aQ : AD N Q := by rw [hQ]; exact (AD_eA).tr AD_eA
  have sQ : Q.1 = s ++ [.inl 1] ++ [.inr (3, 6)] ++ [.inr (0, 40)] := by rw [hQ]; exact eA_1 (eA_1 (s1))
  have lQ : Q.1.length = l + 3 := by rw [sQ]; simp [hsl]
  have oQ : OL N Q l 0 j := by rw [hQ]; exact ((OL_eA lN (by omega) (by omega)).tr (OL_eA (by simp [eN, eR, lN]) (by omega) (by omega)))
  have kQ : KN Q (l + 1) := by rw [hQ]; exact KN_eR (KN_eN (KN_eR (KN_new lN) (by omega)) (by simp [eN, eR, lN])) (by omega)
  have f1 : Q.2.2 l 1 = some (l + 2) := by rw [hQ]; exact eA_at
  have f0 : Q.2.2 l 0 = some (l + 1) := by rw [hQ, eA_off (by simp [eN, eR, lN] <;> omega) (by decide)]; exact eA_at
  clear hQ
  rw [← (aQ l (by omega)).1, ← (aQ 0 (by omega)).1]
  have hS0 : Q.1[0]? = some (.inl 5) := by rw [sQ]; simp only [List.append_assoc]; rw [List.getElem?_append_left (by omega)]; exact h0
  refine j_putR (t := 0) (j := j) (k' := l) C h4 hin FC5 hS0 hj hk hfin hdecl rfl hnr hfit hL (by omega) hRQ (fun hR2 => ?_)
  have o2 : OL Q (eR Q 0 j l) l 0 j := OL_eR
  have o3 : OL Q (eR Q 0 j l) (l + 1) 0 j := OL_eR
  have oo := (ol1.tr oQ).tr o2
  have g : ∀ i, (eR Q 0 j l).2.2 l i = Q.2.2 l i := fun i => o3 l i (by omega) (Or.inl (by omega))
  exact kk (eR Q 0 j l) sQ ((((hF.old oo hb).cons (by rw [g]; exact f0)).cons (by rw [g]; exact f1)).cons eR_at) (KN_eR kQ (by omega)) oo hR2 ((ad1.tr aQ).tr AD_eR)
set_option maxRecDepth 100000 in
set_option maxHeartbeats 4000000 in
theorem j_rd (C : Cx κ cX5_init RX5 rm none) (hin : (kmeth κ).name = "<init>") (hrm : 5 ≤ rm.frames ∧ 100 ≤ rm.locals) {i j : Nat} (h1 : decode cX5_init pc = .ok (.new 32, 3)) (h2 : decode cX5_init (pc + 3) = .ok (.dup, 1)) (h3 : decode cX5_init (pc + 3 + 1) = .ok (.invokespecial 34, 3)) (h4 : decode cX5_init (pc + 3 + 1 + 3) = .ok (.putfield i, 3)) (hj : j < 8) (hk : (kinds 5)[j]? = some 2) (hfin : (TX5 j).2.2.2 = true) (hdecl : (TX5 j).1 = RX5) (hnr : ∀ a, narrow (tyX5 j) (.ref a) = .ref a) (hfit : ∀ a, fits (tyX5 j) (.ref a) = true) (hL : Cond.fieldLink RX5 i (TX5 j).1 (TX5 j).2.1 (TX5 j).2.2.1 ∈ TB)
    {E : Ev} {s : List Ds} {l : Nat} {ps : List (Nat × Nat × Nat)} (hs : E.1 = s) (h0 : s[0]? = some (.inl 5)) (hsl : s.length = l) (hF : KF E ps) (hb : kfB ps l 0 j = true) (hZ : Zn l M L) (hR : RW E) (hcs : cn + 3 ≤ rm.cells ∧ sn + 329 ≤ rm.slots)
    (kk : ∀ E', E'.1 = s ++ [.inl 2] ++ [.inr (0, 160)] ++ [.inr (0, 160)] → KF E' ((0, j, l) :: (l, 1, l + 2) :: (l, 0, l + 1) :: ps) → OL E E' l 0 j → RW E' → AD E E' → JF κ P (pc + 3 + 1 + 3 + 3) [some (.ref (E'.2.1 0)), none] [] E' M L (cn + 1 + 2) (sn + 9 + 320) f) : JF κ P pc [some (.ref (E.2.1 0)), none] [.ref (E.2.1 0)] E M L cn sn f := by
  have hl : E.1.length = l := by rw [hs]; exact hsl
  have hl0 : 0 < l := by rw [← hsl]; exact (List.getElem?_eq_some_iff.mp h0).1
  refine j_newQ (c := 2) C h1 FC2 tw_192 tw_193 tw_104 (by decide +kernel) hl hZ hR ⟨by omega, by omega⟩ (fun q hRN => ?_)
  rw [← eN_ad (d := .inl 2) (q := q) (show 0 < E.1.length by omega)]
  have ad1 : AD E (eN E (.inl 2) q) := AD_eN
  have ol1 : OL E (eN E (.inl 2) q) l 0 j := OL_eN hl 0 j
  have s1 : (eN E (.inl 2) q).1 = s ++ [.inl 2] := by rw [← hs]; rfl
  generalize eN E (.inl 2) q = N at *
  refine j_dup C h2 rfl ?_
  have lN : N.1.length = l + 1 := by rw [s1]; simp [hsl]
  have hSN : N.1[l]? = some (.inl 2) := by rw [s1, List.getElem?_append_right (by omega), hsl, Nat.sub_self]; rfl
  refine j_callI (st := [.ref (N.2.1 l), .ref (N.2.1 0)]) C h3 (ct_X2_init (kγ κ) N M L l (l + 1) hSN lN (hZ.s (Nat.le_succ _)) hRN) mi_X2_init tw_194 rfl rfl (Nat.le_of_ble_eq_true rfl) ⟨⟨rfl, rfl⟩, ⟨by dsimp only; omega, by dsimp only; omega⟩, ⟨by omega, by omega⟩⟩ (fun Q M1 L1 hP => ?_)
  obtain ⟨hM1, hL1, hRQ, q1, q2, hQ⟩ := hP
  replace hM1 := hM1.symm
  replace hL1 := hL1.symm
  subst hM1
  subst hL1
  have aQ : AD N Q := by rw [hQ]; exact (AD_eA).tr AD_eA
  have sQ : Q.1 = s ++ [.inl 2] ++ [.inr (0, 160)] ++ [.inr (0, 160)] := by rw [hQ]; exact eA_1 (eA_1 (s1))
  have lQ : Q.1.length = l + 3 := by rw [sQ]; simp [hsl]
  have oQ : OL N Q l 0 j := by rw [hQ]; exact ((OL_eA lN (by omega) (by omega)).tr (OL_eA (by simp [eN, eR, lN]) (by omega) (by omega)))
  have f1 : Q.2.2 l 1 = some (l + 2) := by rw [hQ]; exact eA_at
  have f0 : Q.2.2 l 0 = some (l + 1) := by rw [hQ, eA_off (by simp [eN, eR, lN] <;> omega) (by decide)]; exact eA_at
  clear hQ
  rw [← (aQ l (by omega)).1, ← (aQ 0 (by omega)).1]
  have hS0 : Q.1[0]? = some (.inl 5) := by rw [sQ]; simp only [List.append_assoc]; rw [List.getElem?_append_left (by omega)]; exact h0
  refine j_putR (t := 0) (j := j) (k' := l) C h4 hin FC5 hS0 hj hk hfin hdecl rfl hnr hfit hL (by omega) hRQ (fun hR2 => ?_)
  have o2 : OL Q (eR Q 0 j l) l 0 j := OL_eR
  have o3 : OL Q (eR Q 0 j l) (l + 1) 0 j := OL_eR
  have oo := (ol1.tr oQ).tr o2
  have g : ∀ i, (eR Q 0 j l).2.2 l i = Q.2.2 l i := fun i => o3 l i (by omega) (Or.inl (by omega))
  exact kk (eR Q 0 j l) sQ ((((hF.old oo hb).cons (by rw [g]; exact f0)).cons (by rw [g]; exact f1)).cons eR_at) oo hR2 ((ad1.tr aQ).tr AD_eR)
end CE
