/-! TilesOfLaw.<init>: the sheets, and all cells in a row -/
section CF
variable {ρ : Type} {κ : Kx} {P : ρ → State → Prop} {rm : Room} {f : Option ρ} {M : Mi} {L : Ml} {cn sn : Nat}
set_option maxRecDepth 100000 in
set_option maxHeartbeats 4000000 in
theorem j_sh (C : Cx κ cX5_init RX5 rm none) (hN : knL κ = 2) (hrm : 5 ≤ rm.frames ∧ 100 ≤ rm.locals) {E : Ev} {s : List Ds} {l k : Nat} {ps : List (Nat × Nat × Nat)} (hk : k < 4) (hs : E.1 = s) (h0 : s[0]? = some (.inl 5)) (h27 : s[27]? = some (.inr (2, 4))) (hsl : s.length = l) (hF : KF E ps) (h06 : E.2.2 0 6 = some 27) (hb : kfB ps l 27 k = true) (hZ : Zn l M L) (hR : RW E) (hcs : cn + 2 ≤ rm.cells ∧ sn + 43 ≤ rm.slots)
    (kk : ∀ E', E'.1 = s ++ [.inl 3] ++ [.inr (0, 40)] → KF E' ((27, k, l) :: (l, 0, l + 1) :: ps) → OL E E' l 27 k → RW E' → AD E E' → JF κ P 80 [some (.ref (E'.2.1 0)), some (.int (nI (k + 1)))] [] E' (up2 M l 1 (-1)) L (cn + 1 + 1) (sn + 3 + 40) f) : JF κ P 80 [some (.ref (E.2.1 0)), some (.int (nI k))] [] E M L cn sn f := by
  have hl : E.1.length = l := by rw [hs]; exact hsl
  have hl27 : 27 < l := by rw [← hsl]; exact (List.getElem?_eq_some_iff.mp h27).1
  refine j_iload_n C dX5_init_80 rfl rfl ?_
  refine j_iconst (v := (4 : Int32)) C dX5_init_81 rfl ?_
  refine j_skip (c := (4 : Int32) ≤ nI k) (nI_ge (a := k) (b := 4) hk (by decide)) (j_icmp_ge (tgt := 104) C dX5_init_82 (by decide) jf_none ?_)
  refine j_aload_n C dX5_init_85 rfl rfl ?_
  refine j_getR (j := 6) (k' := 27) C dX5_init_86 FC5 (by rw [hs]; exact h0) (by decide) rfl h06 tw_432 ?_
  refine j_iload_n C dX5_init_89 rfl rfl ?_
  refine j_newQ (c := 3) C dX5_init_90 FC3 tw_228 tw_230 tw_105 (by decide +kernel) hl hZ hR ⟨by omega, by omega⟩ (fun q hRN => ?_)
  rw [← eN_ad (d := .inl 3) (q := q) (show 0 < E.1.length by omega), ← eN_ad (d := .inl 3) (q := q) (show 27 < E.1.length by omega)]
  have ad1 : AD E (eN E (.inl 3) q) := AD_eN
  have ol1 : OL E (eN E (.inl 3) q) l 27 k := OL_eN hl 27 k
  have s1 : (eN E (.inl 3) q).1 = s ++ [.inl 3] := by rw [← hs]; rfl
  generalize eN E (.inl 3) q = N at *
  refine j_dup C dX5_init_93 rfl ?_
  have lN : N.1.length = l + 1 := by rw [s1]; simp [hsl]
  have hSN : N.1[l]? = some (.inl 3) := by rw [s1, List.getElem?_append_right (by omega), hsl, Nat.sub_self]; rfl
  refine j_callI (st := [.ref (N.2.1 l), .int (nI k), .ref (N.2.1 27)]) C dX5_init_94 (ct_X3_init (kγ κ) N M L l (l + 1) hSN lN (hZ.s (Nat.le_succ _)) hRN) mi_X3_init tw_231 rfl rfl (Nat.le_of_ble_eq_true rfl) ⟨⟨rfl, rfl⟩, ⟨by dsimp only; omega, by dsimp only; omega⟩, ⟨by omega, by omega⟩⟩ (fun Q M1 L1 hP => ?_)
  obtain ⟨hM1, hL1, hRQ, q1, hQ⟩ := hP
  replace hL1 := hL1.symm
  subst hL1
  subst hM1
  have aQ : AD N Q := by rw [hQ]; exact AD_eA
  have sQ : Q.1 = s ++ [.inl 3] ++ [.inr (0, 40)] := by rw [hQ]; exact eA_1 s1
  have lQ : Q.1.length = l + 2 := by rw [sQ]; simp [hsl]
  have oQ : OL N Q l 27 k := by rw [hQ]; exact OL_eA lN (by omega) (by omega)
  have f0 : Q.2.2 l 0 = some (l + 1) := by rw [hQ]; exact eA_at
  clear hQ
  rw [← (aQ l (by omega)).1, ← (aQ 27 (by omega)).1, ← (aQ 0 (by omega)).1]
  have hS27 : Q.1[27]? = some (.inr (2, 4)) := by rw [sQ]; simp only [List.append_assoc]; rw [List.getElem?_append_left (by omega)]; exact h27
  have hSl : Q.1[l]? = some (.inl 3) := by rw [sQ, List.getElem?_append_left (by simp [hsl]), List.getElem?_append_right (by omega), hsl, Nat.sub_self]; rfl
  refine j_aast (t := 0) (k' := l) C dX5_init_97 hS27 (by decide) hSl rfl rfl rfl (ix_nI (n := 4) hk (by decide)) ?_
  rw [nI_clamp (show k < 2 ^ 31 by omega), show Q.2.1 0 = (eR Q 27 k l).2.1 0 from rfl]
  refine j_iinc (i := 1) (v := nI (k + 1)) (lv' := [some (.ref ((eR Q 27 k l).2.1 0)), some (.int (nI (k + 1)))]) C dX5_init_98 rfl (nI_1 k) (by rw [hN]; decide) rfl ?_
  refine j_goto (tgt := 80) C dX5_init_101 (by decide) ?_
  have o2 : OL Q (eR Q 27 k l) l 27 k := OL_eR
  have o3 : OL Q (eR Q 27 k l) (l + 1) 27 k := OL_eR
  have oo := (ol1.tr oQ).tr o2
  exact kk (eR Q 27 k l) sQ (((hF.old oo hb).cons (by rw [o3 l 0 (by omega) (Or.inl (by omega))]; exact f0)).cons eR_at) oo (eR_RW hRQ (by omega)) ((ad1.tr aQ).tr AD_eR)
end CF
def xSh : List Ds := [(Sum.inl 5), (Sum.inl 0), (Sum.inr (0, 5)), (Sum.inr (0, 5)), (Sum.inr (0, 5)), (Sum.inr (0, 5)), (Sum.inl 0), (Sum.inr (0, 5)), (Sum.inr (0, 5)), (Sum.inr (0, 5)), (Sum.inr (0, 5)), (Sum.inl 0), (Sum.inr (0, 5)), (Sum.inr (0, 5)), (Sum.inr (0, 5)), (Sum.inr (0, 5)), (Sum.inl 0), (Sum.inr (0, 5)), (Sum.inr (0, 5)), (Sum.inr (0, 5)), (Sum.inr (0, 5)), (Sum.inl 1), (Sum.inr (3, 6)), (Sum.inr (0, 40)), (Sum.inl 2), (Sum.inr (0, 160)), (Sum.inr (0, 160)), (Sum.inr (2, 4)), (Sum.inl 3), (Sum.inr (0, 40)), (Sum.inl 3), (Sum.inr (0, 40)), (Sum.inl 3), (Sum.inr (0, 40)), (Sum.inl 3), (Sum.inr (0, 40))]
def xPs : List (Nat × Nat × Nat) := [(27, 3, 34), (34, 0, 35), (27, 2, 32), (32, 0, 33), (27, 1, 30), (30, 0, 31), (27, 0, 28), (28, 0, 29), (0, 6, 27), (0, 5, 24), (24, 1, 26), (24, 0, 25), (0, 4, 21), (21, 1, 23), (21, 0, 22), (0, 3, 16), (16, 8, 20), (16, 7, 19), (16, 6, 18), (16, 5, 17), (0, 2, 11), (11, 8, 15), (11, 7, 14), (11, 6, 13), (11, 5, 12), (0, 1, 6), (6, 8, 10), (6, 7, 9), (6, 6, 8), (6, 5, 7), (0, 0, 1), (1, 8, 5), (1, 7, 4), (1, 6, 3), (1, 5, 2)]
set_option maxRecDepth 100000 in
set_option maxHeartbeats 8000000 in
theorem j_cells {ρ : Type} {κ : Kx} {P : ρ → State → Prop} {rm : Room} {f : Option ρ} (C : Cx κ cX5_init RX5 rm none) (hN : knL κ = 2) (hin : (kmeth κ).name = "<init>") (hrm : 5 ≤ rm.frames ∧ 37 ≤ rm.cells ∧ 833 ≤ rm.slots ∧ 100 ≤ rm.locals) (E0 : Ev) (M : Mi) (L : Ml) (hs0 : E0.1 = [Sum.inl 5]) (hZ : Zn 0 M L) (hR0 : RW E0)
    (kk : ∀ E, E.1 = xSh → KF E xPs → KN E 22 → RW E → E.2.1 0 = E0.2.1 0 → JF κ P 104 [some (.ref (E.2.1 0)), some (.int 4)] [] E (up2 (up2 (up2 (up2 M 28 1 (-1)) 30 1 (-1)) 32 1 (-1)) 34 1 (-1)) L 35 670 f) : JF κ P 4 [some (.ref (E0.2.1 0)), none] [] E0 M L 0 0 f := by
  have hF0 : KF E0 [] := fun p hp => by cases hp
  refine j_aload_n C dX5_init_4 rfl rfl ?_
  refine j_fl C hin ⟨hrm.1, hrm.2.2.2⟩ (i := 10) (j := 0) dX5_init_5 dX5_init_8 dX5_init_9 dX5_init_12 (by decide) rfl rfl rfl (fun _ => rfl) (fun _ => rfl) tw_426 hs0 rfl rfl hF0 (by decide) (hZ.s (Nat.zero_le _)) hR0 ⟨by omega, by omega⟩ (fun E1 e1 hF1 ol1 hR1 ad1 => ?_)
  have hs1 : E1.1 = [(Sum.inl 5), (Sum.inl 0), (Sum.inr (0, 5)), (Sum.inr (0, 5)), (Sum.inr (0, 5)), (Sum.inr (0, 5))] := e1
  replace hF1 : KF E1 [(0, 0, 1), (1, 8, 5), (1, 7, 4), (1, 6, 3), (1, 5, 2)] := hF1
  clear e1
  refine j_aload_n C dX5_init_15 rfl rfl ?_
  refine j_fl C hin ⟨hrm.1, hrm.2.2.2⟩ (i := 16) (j := 1) dX5_init_16 dX5_init_19 dX5_init_20 dX5_init_23 (by decide) rfl rfl rfl (fun _ => rfl) (fun _ => rfl) tw_427 hs1 rfl rfl hF1 (by decide) (hZ.s (Nat.zero_le _)) hR1 ⟨by omega, by omega⟩ (fun E2 e2 hF2 ol2 hR2 ad2 => ?_)
  have hs2 : E2.1 = [(Sum.inl 5), (Sum.inl 0), (Sum.inr (0, 5)), (Sum.inr (0, 5)), (Sum.inr (0, 5)), (Sum.inr (0, 5)), (Sum.inl 0), (Sum.inr (0, 5)), (Sum.inr (0, 5)), (Sum.inr (0, 5)), (Sum.inr (0, 5))] := e2
  replace hF2 : KF E2 [(0, 1, 6), (6, 8, 10), (6, 7, 9), (6, 6, 8), (6, 5, 7), (0, 0, 1), (1, 8, 5), (1, 7, 4), (1, 6, 3), (1, 5, 2)] := hF2
  clear e2
  refine j_aload_n C dX5_init_26 rfl rfl ?_
  refine j_fl C hin ⟨hrm.1, hrm.2.2.2⟩ (i := 19) (j := 2) dX5_init_27 dX5_init_30 dX5_init_31 dX5_init_34 (by decide) rfl rfl rfl (fun _ => rfl) (fun _ => rfl) tw_428 hs2 rfl rfl hF2 (by decide) (hZ.s (Nat.zero_le _)) hR2 ⟨by omega, by omega⟩ (fun E3 e3 hF3 ol3 hR3 ad3 => ?_)
  have hs3 : E3.1 = [(Sum.inl 5), (Sum.inl 0), (Sum.inr (0, 5)), (Sum.inr (0, 5)), (Sum.inr (0, 5)), (Sum.inr (0, 5)), (Sum.inl 0), (Sum.inr (0, 5)), (Sum.inr (0, 5)), (Sum.inr (0, 5)), (Sum.inr (0, 5)), (Sum.inl 0), (Sum.inr (0, 5)), (Sum.inr (0, 5)), (Sum.inr (0, 5)), (Sum.inr (0, 5))] := e3
  replace hF3 : KF E3 [(0, 2, 11), (11, 8, 15), (11, 7, 14), (11, 6, 13), (11, 5, 12), (0, 1, 6), (6, 8, 10), (6, 7, 9), (6, 6, 8), (6, 5, 7), (0, 0, 1), (1, 8, 5), (1, 7, 4), (1, 6, 3), (1, 5, 2)] := hF3
  clear e3
  refine j_aload_n C dX5_init_37 rfl rfl ?_
  refine j_fl C hin ⟨hrm.1, hrm.2.2.2⟩ (i := 22) (j := 3) dX5_init_38 dX5_init_41 dX5_init_42 dX5_init_45 (by decide) rfl rfl rfl (fun _ => rfl) (fun _ => rfl) tw_429 hs3 rfl rfl hF3 (by decide) (hZ.s (Nat.zero_le _)) hR3 ⟨by omega, by omega⟩ (fun E4 e4 hF4 ol4 hR4 ad4 => ?_)
  have hs4 : E4.1 = [(Sum.inl 5), (Sum.inl 0), (Sum.inr (0, 5)), (Sum.inr (0, 5)), (Sum.inr (0, 5)), (Sum.inr (0, 5)), (Sum.inl 0), (Sum.inr (0, 5)), (Sum.inr (0, 5)), (Sum.inr (0, 5)), (Sum.inr (0, 5)), (Sum.inl 0), (Sum.inr (0, 5)), (Sum.inr (0, 5)), (Sum.inr (0, 5)), (Sum.inr (0, 5)), (Sum.inl 0), (Sum.inr (0, 5)), (Sum.inr (0, 5)), (Sum.inr (0, 5)), (Sum.inr (0, 5))] := e4
  replace hF4 : KF E4 [(0, 3, 16), (16, 8, 20), (16, 7, 19), (16, 6, 18), (16, 5, 17), (0, 2, 11), (11, 8, 15), (11, 7, 14), (11, 6, 13), (11, 5, 12), (0, 1, 6), (6, 8, 10), (6, 7, 9), (6, 6, 8), (6, 5, 7), (0, 0, 1), (1, 8, 5), (1, 7, 4), (1, 6, 3), (1, 5, 2)] := hF4
  clear e4
  refine j_aload_n C dX5_init_48 rfl rfl ?_
  refine j_lw C hin ⟨hrm.1, hrm.2.2.2⟩ (i := 28) (j := 4) dX5_init_49 dX5_init_52 dX5_init_53 dX5_init_56 (by decide) rfl rfl rfl (fun _ => rfl) (fun _ => rfl) tw_430 hs4 rfl rfl hF4 (by decide) (hZ.s (Nat.zero_le _)) hR4 ⟨by omega, by omega⟩ (fun E5 e5 hF5 hn5 ol5 hR5 ad5 => ?_)
  have hs5 : E5.1 = [(Sum.inl 5), (Sum.inl 0), (Sum.inr (0, 5)), (Sum.inr (0, 5)), (Sum.inr (0, 5)), (Sum.inr (0, 5)), (Sum.inl 0), (Sum.inr (0, 5)), (Sum.inr (0, 5)), (Sum.inr (0, 5)), (Sum.inr (0, 5)), (Sum.inl 0), (Sum.inr (0, 5)), (Sum.inr (0, 5)), (Sum.inr (0, 5)), (Sum.inr (0, 5)), (Sum.inl 0), (Sum.inr (0, 5)), (Sum.inr (0, 5)), (Sum.inr (0, 5)), (Sum.inr (0, 5)), (Sum.inl 1), (Sum.inr (3, 6)), (Sum.inr (0, 40))] := e5
  replace hF5 : KF E5 [(0, 4, 21), (21, 1, 23), (21, 0, 22), (0, 3, 16), (16, 8, 20), (16, 7, 19), (16, 6, 18), (16, 5, 17), (0, 2, 11), (11, 8, 15), (11, 7, 14), (11, 6, 13), (11, 5, 12), (0, 1, 6), (6, 8, 10), (6, 7, 9), (6, 6, 8), (6, 5, 7), (0, 0, 1), (1, 8, 5), (1, 7, 4), (1, 6, 3), (1, 5, 2)] := hF5
  clear e5
  refine j_aload_n C dX5_init_59 rfl rfl ?_
  refine j_rd C hin ⟨hrm.1, hrm.2.2.2⟩ (i := 35) (j := 5) dX5_init_60 dX5_init_63 dX5_init_64 dX5_init_67 (by decide) rfl rfl rfl (fun _ => rfl) (fun _ => rfl) tw_431 hs5 rfl rfl hF5 (by decide) (hZ.s (Nat.zero_le _)) hR5 ⟨by omega, by omega⟩ (fun E6 e6 hF6 ol6 hR6 ad6 => ?_)
  have hs6 : E6.1 = [(Sum.inl 5), (Sum.inl 0), (Sum.inr (0, 5)), (Sum.inr (0, 5)), (Sum.inr (0, 5)), (Sum.inr (0, 5)), (Sum.inl 0), (Sum.inr (0, 5)), (Sum.inr (0, 5)), (Sum.inr (0, 5)), (Sum.inr (0, 5)), (Sum.inl 0), (Sum.inr (0, 5)), (Sum.inr (0, 5)), (Sum.inr (0, 5)), (Sum.inr (0, 5)), (Sum.inl 0), (Sum.inr (0, 5)), (Sum.inr (0, 5)), (Sum.inr (0, 5)), (Sum.inr (0, 5)), (Sum.inl 1), (Sum.inr (3, 6)), (Sum.inr (0, 40)), (Sum.inl 2), (Sum.inr (0, 160)), (Sum.inr (0, 160))] := e6
  replace hF6 : KF E6 [(0, 5, 24), (24, 1, 26), (24, 0, 25), (0, 4, 21), (21, 1, 23), (21, 0, 22), (0, 3, 16), (16, 8, 20), (16, 7, 19), (16, 6, 18), (16, 5, 17), (0, 2, 11), (11, 8, 15), (11, 7, 14), (11, 6, 13), (11, 5, 12), (0, 1, 6), (6, 8, 10), (6, 7, 9), (6, 6, 8), (6, 5, 7), (0, 0, 1), (1, 8, 5), (1, 7, 4), (1, 6, 3), (1, 5, 2)] := hF6
  have hn6 : KN E6 22 := hn5.old ol6 (by decide) (by decide)
  clear e6
  refine j_aload_n C dX5_init_70 rfl rfl ?_
  refine j_iconst (v := (4 : Int32)) C dX5_init_71 rfl ?_
  have hl6 : E6.1.length = 27 := by rw [hs6]; rfl
  refine j_anewQ (t := 0) (N := 4) C dX5_init_72 (by decide) rfl tw_228 (by decide) rfl (by decide) hl6 (hZ.s (Nat.zero_le _)) hR6 ⟨by omega, by omega⟩ (fun q hRN => ?_)
  rw [← eN_ad (d := .inr (2, 4)) (q := q) (show 0 < E6.1.length by rw [hl6]; decide)]
  have sN : (eA E6 0 6 2 4 q 27).1 = [(Sum.inl 5), (Sum.inl 0), (Sum.inr (0, 5)), (Sum.inr (0, 5)), (Sum.inr (0, 5)), (Sum.inr (0, 5)), (Sum.inl 0), (Sum.inr (0, 5)), (Sum.inr (0, 5)), (Sum.inr (0, 5)), (Sum.inr (0, 5)), (Sum.inl 0), (Sum.inr (0, 5)), (Sum.inr (0, 5)), (Sum.inr (0, 5)), (Sum.inr (0, 5)), (Sum.inl 0), (Sum.inr (0, 5)), (Sum.inr (0, 5)), (Sum.inr (0, 5)), (Sum.inr (0, 5)), (Sum.inl 1), (Sum.inr (3, 6)), (Sum.inr (0, 40)), (Sum.inl 2), (Sum.inr (0, 160)), (Sum.inr (0, 160)), (Sum.inr (2, 4))] := eA_1 hs6
  refine j_putR (t := 0) (j := 6) (k' := 27) C dX5_init_75 hin FC5 (by show (eA E6 0 6 2 4 q 27).1[0]? = _; rw [sN]; rfl) (by decide) rfl rfl rfl rfl (fun _ => rfl) (fun _ => rfl) tw_432 (by show 27 < (eA E6 0 6 2 4 q 27).1.length; rw [sN]; decide) hRN (fun hRx => ?_)
  have hR7 : RW (eA E6 0 6 2 4 q 27) := hRx
  rw [show (eN E6 (.inr (2, 4)) q).2.1 0 = (eA E6 0 6 2 4 q 27).2.1 0 from rfl]
  have ol7 : OL E6 (eA E6 0 6 2 4 q 27) 27 0 6 := (OL_eN hl6 0 6).tr OL_eR
  have ad7 : AD E6 (eA E6 0 6 2 4 q 27) := AD_eA
  have hF7 := (hF6.old ol7 (by decide)).cons (eA_at (E := E6) (b := 0) (j := 6) (t := 2) (N := 4) (q := q) (l := 27))
  have hn7 : KN (eA E6 0 6 2 4 q 27) 22 := hn6.old ol7 (by decide) (by decide)
  have hs7 := sN
  clear sN
  change JF κ P _ _ _ (eA E6 0 6 2 4 q 27) M L _ _ f
  generalize eA E6 0 6 2 4 q 27 = E7 at *
  refine j_iconst (v := (0 : Int32)) C dX5_init_78 rfl ?_
  refine j_istore_n (i := 1) (lv' := [some (.ref (E7.2.1 0)), some (.int (nI 0))]) C dX5_init_79 rfl (by rw [hN]; decide) rfl ?_
  refine j_pc (pc2 := 80) rfl ?_
  have zz0 : Zn 28 M L := hZ.s (Nat.zero_le _)
  refine j_sh C hN ⟨hrm.1, hrm.2.2.2⟩ (k := 0) (by decide) hs7 rfl rfl rfl hF7 (hF7 (0, 6, 27) (by decide)) (by decide) zz0 hR7 ⟨by omega, by omega⟩ (fun E8 e8 hF8 ol8 hR8 ad8 => ?_)
  have hs8 : E8.1 = [(Sum.inl 5), (Sum.inl 0), (Sum.inr (0, 5)), (Sum.inr (0, 5)), (Sum.inr (0, 5)), (Sum.inr (0, 5)), (Sum.inl 0), (Sum.inr (0, 5)), (Sum.inr (0, 5)), (Sum.inr (0, 5)), (Sum.inr (0, 5)), (Sum.inl 0), (Sum.inr (0, 5)), (Sum.inr (0, 5)), (Sum.inr (0, 5)), (Sum.inr (0, 5)), (Sum.inl 0), (Sum.inr (0, 5)), (Sum.inr (0, 5)), (Sum.inr (0, 5)), (Sum.inr (0, 5)), (Sum.inl 1), (Sum.inr (3, 6)), (Sum.inr (0, 40)), (Sum.inl 2), (Sum.inr (0, 160)), (Sum.inr (0, 160)), (Sum.inr (2, 4)), (Sum.inl 3), (Sum.inr (0, 40))] := e8
  replace hF8 : KF E8 [(27, 0, 28), (28, 0, 29), (0, 6, 27), (0, 5, 24), (24, 1, 26), (24, 0, 25), (0, 4, 21), (21, 1, 23), (21, 0, 22), (0, 3, 16), (16, 8, 20), (16, 7, 19), (16, 6, 18), (16, 5, 17), (0, 2, 11), (11, 8, 15), (11, 7, 14), (11, 6, 13), (11, 5, 12), (0, 1, 6), (6, 8, 10), (6, 7, 9), (6, 6, 8), (6, 5, 7), (0, 0, 1), (1, 8, 5), (1, 7, 4), (1, 6, 3), (1, 5, 2)] := hF8
  have hn8 : KN E8 22 := hn7.old ol8 (by decide) (by decide)
  clear e8
  have zz1 : Zn 30 (up2 M 28 1 (-1)) L := ((zz0.s (Nat.le_succ _)).up (by decide)).s (Nat.le_succ _)
  refine j_sh C hN ⟨hrm.1, hrm.2.2.2⟩ (k := 1) (by decide) hs8 rfl rfl rfl hF8 (hF8 (0, 6, 27) (by decide)) (by decide) zz1 hR8 ⟨by omega, by omega⟩ (fun E9 e9 hF9 ol9 hR9 ad9 => ?_)
  have hs9 : E9.1 = [(Sum.inl 5), (Sum.inl 0), (Sum.inr (0, 5)), (Sum.inr (0, 5)), (Sum.inr (0, 5)), (Sum.inr (0, 5)), (Sum.inl 0), (Sum.inr (0, 5)), (Sum.inr (0, 5)), (Sum.inr (0, 5)), (Sum.inr (0, 5)), (Sum.inl 0), (Sum.inr (0, 5)), (Sum.inr (0, 5)), (Sum.inr (0, 5)), (Sum.inr (0, 5)), (Sum.inl 0), (Sum.inr (0, 5)), (Sum.inr (0, 5)), (Sum.inr (0, 5)), (Sum.inr (0, 5)), (Sum.inl 1), (Sum.inr (3, 6)), (Sum.inr (0, 40)), (Sum.inl 2), (Sum.inr (0, 160)), (Sum.inr (0, 160)), (Sum.inr (2, 4)), (Sum.inl 3), (Sum.inr (0, 40)), (Sum.inl 3), (Sum.inr (0, 40))] := e9
  replace hF9 : KF E9 [(27, 1, 30), (30, 0, 31), (27, 0, 28), (28, 0, 29), (0, 6, 27), (0, 5, 24), (24, 1, 26), (24, 0, 25), (0, 4, 21), (21, 1, 23), (21, 0, 22), (0, 3, 16), (16, 8, 20), (16, 7, 19), (16, 6, 18), (16, 5, 17), (0, 2, 11), (11, 8, 15), (11, 7, 14), (11, 6, 13), (11, 5, 12), (0, 1, 6), (6, 8, 10), (6, 7, 9), (6, 6, 8), (6, 5, 7), (0, 0, 1), (1, 8, 5), (1, 7, 4), (1, 6, 3), (1, 5, 2)] := hF9
  have hn9 : KN E9 22 := hn8.old ol9 (by decide) (by decide)
  clear e9
  have zz2 : Zn 32 (up2 (up2 M 28 1 (-1)) 30 1 (-1)) L := ((zz1.s (Nat.le_succ _)).up (by decide)).s (Nat.le_succ _)
  refine j_sh C hN ⟨hrm.1, hrm.2.2.2⟩ (k := 2) (by decide) hs9 rfl rfl rfl hF9 (hF9 (0, 6, 27) (by decide)) (by decide) zz2 hR9 ⟨by omega, by omega⟩ (fun E10 e10 hF10 ol10 hR10 ad10 => ?_)
  have hs10 : E10.1 = [(Sum.inl 5), (Sum.inl 0), (Sum.inr (0, 5)), (Sum.inr (0, 5)), (Sum.inr (0, 5)), (Sum.inr (0, 5)), (Sum.inl 0), (Sum.inr (0, 5)), (Sum.inr (0, 5)), (Sum.inr (0, 5)), (Sum.inr (0, 5)), (Sum.inl 0), (Sum.inr (0, 5)), (Sum.inr (0, 5)), (Sum.inr (0, 5)), (Sum.inr (0, 5)), (Sum.inl 0), (Sum.inr (0, 5)), (Sum.inr (0, 5)), (Sum.inr (0, 5)), (Sum.inr (0, 5)), (Sum.inl 1), (Sum.inr (3, 6)), (Sum.inr (0, 40)), (Sum.inl 2), (Sum.inr (0, 160)), (Sum.inr (0, 160)), (Sum.inr (2, 4)), (Sum.inl 3), (Sum.inr (0, 40)), (Sum.inl 3), (Sum.inr (0, 40)), (Sum.inl 3), (Sum.inr (0, 40))] := e10
  replace hF10 : KF E10 [(27, 2, 32), (32, 0, 33), (27, 1, 30), (30, 0, 31), (27, 0, 28), (28, 0, 29), (0, 6, 27), (0, 5, 24), (24, 1, 26), (24, 0, 25), (0, 4, 21), (21, 1, 23), (21, 0, 22), (0, 3, 16), (16, 8, 20), (16, 7, 19), (16, 6, 18), (16, 5, 17), (0, 2, 11), (11, 8, 15), (11, 7, 14), (11, 6, 13), (11, 5, 12), (0, 1, 6), (6, 8, 10), (6, 7, 9), (6, 6, 8), (6, 5, 7), (0, 0, 1), (1, 8, 5), (1, 7, 4), (1, 6, 3), (1, 5, 2)] := hF10
  have hn10 : KN E10 22 := hn9.old ol10 (by decide) (by decide)
  clear e10
  have zz3 : Zn 34 (up2 (up2 (up2 M 28 1 (-1)) 30 1 (-1)) 32 1 (-1)) L := ((zz2.s (Nat.le_succ _)).up (by decide)).s (Nat.le_succ _)
  refine j_sh C hN ⟨hrm.1, hrm.2.2.2⟩ (k := 3) (by decide) hs10 rfl rfl rfl hF10 (hF10 (0, 6, 27) (by decide)) (by decide) zz3 hR10 ⟨by omega, by omega⟩ (fun E11 e11 hF11 ol11 hR11 ad11 => ?_)
  have hs11 : E11.1 = [(Sum.inl 5), (Sum.inl 0), (Sum.inr (0, 5)), (Sum.inr (0, 5)), (Sum.inr (0, 5)), (Sum.inr (0, 5)), (Sum.inl 0), (Sum.inr (0, 5)), (Sum.inr (0, 5)), (Sum.inr (0, 5)), (Sum.inr (0, 5)), (Sum.inl 0), (Sum.inr (0, 5)), (Sum.inr (0, 5)), (Sum.inr (0, 5)), (Sum.inr (0, 5)), (Sum.inl 0), (Sum.inr (0, 5)), (Sum.inr (0, 5)), (Sum.inr (0, 5)), (Sum.inr (0, 5)), (Sum.inl 1), (Sum.inr (3, 6)), (Sum.inr (0, 40)), (Sum.inl 2), (Sum.inr (0, 160)), (Sum.inr (0, 160)), (Sum.inr (2, 4)), (Sum.inl 3), (Sum.inr (0, 40)), (Sum.inl 3), (Sum.inr (0, 40)), (Sum.inl 3), (Sum.inr (0, 40)), (Sum.inl 3), (Sum.inr (0, 40))] := e11
  replace hF11 : KF E11 [(27, 3, 34), (34, 0, 35), (27, 2, 32), (32, 0, 33), (27, 1, 30), (30, 0, 31), (27, 0, 28), (28, 0, 29), (0, 6, 27), (0, 5, 24), (24, 1, 26), (24, 0, 25), (0, 4, 21), (21, 1, 23), (21, 0, 22), (0, 3, 16), (16, 8, 20), (16, 7, 19), (16, 6, 18), (16, 5, 17), (0, 2, 11), (11, 8, 15), (11, 7, 14), (11, 6, 13), (11, 5, 12), (0, 1, 6), (6, 8, 10), (6, 7, 9), (6, 6, 8), (6, 5, 7), (0, 0, 1), (1, 8, 5), (1, 7, 4), (1, 6, 3), (1, 5, 2)] := hF11
  have hn11 : KN E11 22 := hn10.old ol11 (by decide) (by decide)
  clear e11
  refine j_iload_n C dX5_init_80 rfl rfl ?_
  refine j_iconst (v := (4 : Int32)) C dX5_init_81 rfl ?_
  refine j_take (c := (4 : Int32) ≤ nI (3 + 1)) (by decide) (j_icmp_ge (tgt := 104) C dX5_init_82 (by decide) ?_ jf_none)
  exact kk E11 hs11 hF11 hn11 hR11 ((((((((((((ad1.tr ad2).tr ad3).tr ad4).tr ad5).tr ad6).tr ad7).tr ad8).tr ad9).tr ad10).tr ad11) 0 (by rw [hs0]; decide)).1)
