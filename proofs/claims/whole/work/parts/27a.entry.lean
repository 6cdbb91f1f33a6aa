/-! THE LAW: what holds at its entry -/
section EN
variable {s : State} {args : Array Value}
theorem tb_of (hts : ∀ w ∈ lw_tbl, w.before args s = true) : ∀ w ∈ TB, w.before args s = true := fun w h => hts w (List.mem_filter.mp h).1
theorem en_K (hts : ∀ w ∈ lw_tbl, w.before args s = true) : ∃ (D : va_G) (G : Nat → ClassId), va_K D vwCl (tysG G) s := by
  have ht := tb_of hts
  obtain ⟨c0, i0, k0⟩ := u_known (N := 9) (n := 9) ht FC0.2.1 (ht _ tw_125)
  obtain ⟨c1, i1, k1⟩ := u_known (N := 3) (n := 3) ht FC1.2.1 (ht _ tw_174)
  obtain ⟨c2, i2, k2⟩ := u_known (N := 9) (n := 9) ht FC2.2.1 (ht _ tw_193)
  obtain ⟨c3, i3, k3⟩ := u_known (N := 3) (n := 3) ht FC3.2.1 (ht _ tw_230)
  obtain ⟨c4, i4, k4⟩ := u_known (N := 3) (n := 3) ht FC4.2.1 (ht _ tw_385)
  obtain ⟨c5, i5, k5⟩ := u_known (N := 8) (n := 8) ht FC5.2.1 (ht _ tw_117)
  obtain ⟨c6, i6, k6⟩ := u_known (N := 41) (n := 41) ht FC6.2.1 (ht _ tw_795)
  obtain ⟨a0, q0, p0, x1, x2, x3⟩ := Cond.arrayClass_spec (ht _ tw_172)
  obtain ⟨a1, q1, p1, y1, y2, y3⟩ := Cond.arrayClass_spec (ht _ tw_927)
  obtain ⟨p2, a2, q2, z1, -, z3, z4, z5⟩ := Cond.arrayOver_spec (hts (.arrayOver (.object "TilesOfLaw$Sheet")) (by decide +kernel))
  obtain ⟨p3, a3, q3, v1, -, v3, v4, v5⟩ := Cond.arrayOver_spec (hts (.arrayOver (.object "TilesOfLaw$Text")) (by decide +kernel))
  refine ⟨(fun k => match k with | 0 => c0 | 1 => c1 | 2 => c2 | 3 => c3 | 4 => c4 | 5 => c5 | _ => c6, fun k => match k with | 0 => i0 | 1 => i1 | 2 => i2 | 3 => i3 | 4 => i4 | 5 => i5 | _ => i6), fun k => match k with | 0 => a0 | 1 => a1 | 2 => a2 | _ => a3, fun k q hq => ?_, fun k q hq => ?_⟩
  · match k, hq with
    | 0, hq => cases hq; exact k0
    | 1, hq => cases hq; exact k1
    | 2, hq => cases hq; exact k2
    | 3, hq => cases hq; exact k3
    | 4, hq => cases hq; exact k4
    | 5, hq => cases hq; exact k5
    | 6, hq => cases hq; exact k6
    | k + 7, hq => simp at hq
  · match k, hq with
    | 0, hq => cases hq; exact ⟨fun n z => ⟨fun k h => (by cases h), q0, x2, p0, x3⟩, x1⟩
    | 1, hq => cases hq; exact ⟨fun n z => ⟨fun k h => (by cases h), q1, y2, p1, y3⟩, y1⟩
    | 2, hq => cases hq; exact ⟨fun n z => ⟨fun k h => (by cases h), q2, z3, p2, z4⟩, q2, p2, z3, z4, z1, z5⟩
    | 3, hq => cases hq; exact ⟨fun n z => ⟨fun k h => (by cases h), q3, v3, p3, v4⟩, q3, p3, v3, v4, v1, v5⟩
    | k + 4, hq => simp [tysG] at hq
theorem en_NW (hts : ∀ w ∈ lw_tbl, w.before args s = true) : NW s :=
  ⟨va_Nw.of rfl (hts nw_0 (by decide +kernel)), va_Nw.of rfl (hts nw_1 (by decide +kernel)), va_Nw.of rfl (hts nw_2 (by decide +kernel)), va_Nw.of rfl (hts nw_3 (by decide +kernel)), va_Nw.of rfl (hts nw_4 (by decide +kernel)), va_Nw.of rfl (hts nw_5 (by decide +kernel)), va_Nw.of rfl (hts nw_6 (by decide +kernel)), va_Nw.of rfl (hts nw_7 (by decide +kernel)), va_Nw.of rfl (hts nw_8 (by decide +kernel)), va_Nw.of rfl (hts nw_9 (by decide +kernel)), va_Nw.of rfl (hts nw_c (by decide +kernel))⟩
/-- what is given, word by word -/
abbrev FLT : List Cond := flatC (Jvm.Cond.and given_1 narrow_1)
theorem fl_ar : ∀ i, i < 7 → Cond.arrayOf (.static "TilesOfLaw" (sN i) "[I") .int ∈ FLT := by decide +kernel
theorem fl_le : ∀ i, i < 7 → Cond.eq (.length (.static "TilesOfLaw" (sN i) "[I")) (.int (Int32.ofNat (sA i).length)) ∈ FLT := by decide +kernel
theorem fl_el : ∀ i, i < 7 → ∀ j, j < (sA i).length → Cond.eq (.elem (.static "TilesOfLaw" (sN i) "[I") (.int (Int32.ofNat j))) (.int ((sA i).getD j 0)) ∈ FLT := by decide +kernel
theorem fl_ls : ∀ i, i < 7 → Cond.laysStatic "TilesOfLaw" (sN i) "[I" ∈ lw_tbl := by decide +kernel
theorem en_T {A : Nat → Prop} (hts : ∀ w ∈ lw_tbl, w.before args s = true) (hq : ∀ w ∈ FLT, w.before args s = true) (hA : ∀ a : Nat, a < s.heap.size → ¬ A a) : ∃ T : Nat → Nat, ∀ i, i < 7 → va_Z "TilesOfLaw" (sN i) "[I" (.ref (T i)) A s s.heap ∧ va_T .int (T i) (sA i).length (fun j => .int ((sA i).getD j 0)) A s s.heap := by
  have h0 : ∀ i : Nat, ∃ t : Nat, i < 7 → va_Z "TilesOfLaw" (sN i) "[I" (.ref t) A s s.heap ∧ va_T .int t (sA i).length (fun j => .int ((sA i).getD j 0)) A s s.heap := by
    intro i
    by_cases hi : i < 7
    · obtain ⟨t, ht, hT⟩ := va_Tof (f := fun j => .int ((sA i).getD j 0)) (A := A) (ty := .int) ((by decide : ∀ i, i < 7 → (sA i).length < 2 ^ 31) i hi) (hq _ (fl_ar i hi)) (va_eqt (hq _ (fl_le i hi))) (fun j hj => va_eqt (hq _ (fl_el i hi j hj))) hA
      exact ⟨t, fun _ => ⟨va_Zref (hts _ (fl_ls i hi)) (tb_of hts _ tw_101) ht hA, hT⟩⟩
    · exact ⟨0, fun h => absurd h hi⟩
  obtain ⟨T, hT⟩ := Classical.axiomOfChoice h0
  exact ⟨T, hT⟩
theorem fl_ex : ∀ i, i < 13 → Cond.exactly (.string (jO i) (jI i)) "java/lang/String" ∈ FLT := by decide +kernel
theorem fl_co : ∀ i, i < 13 → Cond.eq (.field (.string (jO i) (jI i)) "java/lang/String" "coder" "B") (.int 0) ∈ FLT := by decide +kernel
theorem fl_sa : ∀ i, i < 13 → Cond.arrayOf (.field (.string (jO i) (jI i)) "java/lang/String" "value" "[B") .byte ∈ FLT := by decide +kernel
theorem fl_sl : ∀ i, i < 13 → Cond.eq (.length (.field (.string (jO i) (jI i)) "java/lang/String" "value" "[B")) (.int (Int32.ofNat (jL.getD i 0))) ∈ FLT := by decide +kernel
theorem fl_se : ∀ i, i < 13 → ∀ j, j < jL.getD i 0 → Cond.eq (.elem (.field (.string (jO i) (jI i)) "java/lang/String" "value" "[B") (.int (Int32.ofNat j))) (.int ((jB.getD i []).getD j 0)) ∈ FLT := by decide +kernel
def nIx : List (List Nat) := [[0, 154, 165, 174, 187, 201, 214, 229, 245, 262, 277, 294, 312], [0, 0, 166, 175, 188, 202, 215, 230, 246, 263, 278, 295, 313], [0, 0, 0, 176, 189, 203, 216, 231, 247, 264, 279, 296, 314], [0, 0, 0, 0, 190, 204, 217, 232, 248, 265, 280, 297, 315], [0, 0, 0, 0, 0, 205, 218, 233, 249, 266, 281, 298, 316], [0, 0, 0, 0, 0, 0, 219, 234, 250, 267, 282, 299, 317], [0, 0, 0, 0, 0, 0, 0, 235, 251, 268, 283, 300, 318], [0, 0, 0, 0, 0, 0, 0, 0, 252, 269, 284, 301, 319], [0, 0, 0, 0, 0, 0, 0, 0, 0, 270, 285, 302, 320], [0, 0, 0, 0, 0, 0, 0, 0, 0, 0, 286, 303, 321], [0, 0, 0, 0, 0, 0, 0, 0, 0, 0, 0, 304, 322], [0, 0, 0, 0, 0, 0, 0, 0, 0, 0, 0, 0, 323], [0, 0, 0, 0, 0, 0, 0, 0, 0, 0, 0, 0, 0]]
theorem fl_nx : ∀ i, i < 13 → ∀ j, j < 13 → i < j → FLT[(nIx.getD i []).getD j 0]? = some (Cond.not (Cond.eq (.string (jO i) (jI i)) (.string (jO j) (jI j)))) := by decide +kernel
theorem fl_ne (i : Nat) (hi : i < 13) (j : Nat) (hj : j < 13) (h : i ≠ j) : Cond.not (Cond.eq (.string (jO i) (jI i)) (.string (jO j) (jI j))) ∈ FLT ∨ Cond.not (Cond.eq (.string (jO j) (jI j)) (.string (jO i) (jI i))) ∈ FLT := by
  rcases Nat.lt_or_gt_of_ne h with q | q
  · exact Or.inl (List.mem_of_getElem? (fl_nx i hi j hj q))
  · exact Or.inr (List.mem_of_getElem? (fl_nx j hj i hi q))
theorem fl_sr : ∀ i, i < 13 → Cond.stringRef (jO i) (jI i) (jX i) ∈ lw_tbl := by decide +kernel
theorem en_S {A : Nat → Prop} (hts : ∀ w ∈ lw_tbl, w.before args s = true) (hq : ∀ w ∈ FLT, w.before args s = true) (hA : ∀ a : Nat, a < s.heap.size → ¬ A a) : ∃ K V : Nat → Nat, vk_S 13 jL jB K V A s s.heap ∧ ∀ i, i < 13 → vk_R (jO i) (jI i) (jX i) (K i) s := by
  obtain ⟨K, V, h1, h2⟩ := vk_Sof (args := args) (s := s) (A := A) (N := 13) (tm := fun i => .string (jO i) (jI i)) (len := jL) (byt := jB) (by decide) (fun i hi => hq _ (fl_ex i hi)) (fun i hi => hq _ (fl_co i hi)) (fun i hi => hq _ (fl_sa i hi)) (fun i hi => hq _ (fl_sl i hi)) (fun i hi j hj => hq _ (fl_se i hi j hj)) (fun i j hi hj hne => (fl_ne i hi j hj hne).imp (hq _) (hq _)) hA
  exact ⟨K, V, h1, fun i hi => vk_R.of (hts _ (fl_sr i hi)) (h2 i hi)⟩
theorem en_C {A : Nat → Prop} (hts : ∀ w ∈ lw_tbl, w.before args s = true) (hq : ∀ w ∈ FLT, w.before args s = true) (hA : ∀ a : Nat, a < s.heap.size → ¬ A a) : va_Z "java/lang/String" "COMPACT_STRINGS" "Z" (.int 1) A s s.heap ∧ va_Zq "jdk/internal/util/Preconditions" "SIOOBE_FORMATTER" "Ljava/util/function/BiFunction;" A s s.heap :=
  ⟨va_Zof (hts (.laysStatic "java/lang/String" "COMPACT_STRINGS" "Z") (by decide +kernel)) (tb_of hts _ tw_106) (va_eqi (hq _ (by decide +kernel))) hA, va_Zqof (hts (.laysStatic "jdk/internal/util/Preconditions" "SIOOBE_FORMATTER" "Ljava/util/function/BiFunction;") (by decide +kernel)) (tb_of hts _ tw_108) (hq _ (by decide +kernel)) hA⟩
theorem en_A (hts : ∀ w ∈ lw_tbl, w.before args s = true) : va_AO RX3 s ∧ va_AO RX4 s :=
  ⟨va_AO.of (hts (.arrayOver (.object RX3)) (by decide +kernel)), va_AO.of (hts (.arrayOver (.object RX4)) (by decide +kernel))⟩
end EN
