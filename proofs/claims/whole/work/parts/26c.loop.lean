/-! THE LAW: its loop -/
section LL
variable {ρ : Type} {κ : Kx} {P : ρ → State → Prop} {cc : ByteArray} {own : String} {rm : Room} {ret : Option FieldType} {pc : Nat} {lv : List (Option Value)} {st : List Value} {E : Ev} {M : Mi} {L : Ml} {cn sn : Nat} {f : Option ρ}
theorem j_tabI (C : Cx κ cc own rm ret) {dflt lo hi : Int} {offs : Array Int} {len : Nat} {x : Int32} {off : Int} {tgt : Nat} (hd : decode cc pc = .ok (.tableswitch dflt lo hi offs, len)) (h1 : ¬ x.toInt < lo) (h2 : ¬ hi < x.toInt) (ho : offs[(x.toInt - lo).toNat]? = some off) (ht : (pc : Int) + off = (tgt : Int)) (k : JF κ P tgt lv st E M L cn sn f) : JF κ P pc lv (.int x :: st) E M L cn sn f := fun r hr H locs ls hG hl =>
  lv_tableIn C.1 C.2.1 hd h1 h2 ho ht (k r hr H locs ls hG hl)
theorem j_tabO (C : Cx κ cc own rm ret) {dflt lo hi : Int} {offs : Array Int} {len : Nat} {x : Int32} {tgt : Nat} (hd : decode cc pc = .ok (.tableswitch dflt lo hi offs, len)) (h : x.toInt < lo ∨ hi < x.toInt) (ht : (pc : Int) + dflt = (tgt : Int)) (k : JF κ P tgt lv st E M L cn sn f) : JF κ P pc lv (.int x :: st) E M L cn sn f := fun r hr H locs ls hG hl =>
  lv_tableOut C.1 C.2.1 hd h ht (k r hr H locs ls hG hl)
theorem and31 (x : Int32) : ∃ k : Nat, k < 32 ∧ (x &&& 31).toInt = (k : Int) := by
  have h : (x &&& 31).toBitVec.toNat ≤ 31 := by
    rw [Int32.toBitVec_and, BitVec.toNat_and]
    exact Nat.and_le_right
  refine ⟨(x &&& 31).toBitVec.toNat, by omega, ?_⟩
  show (x &&& 31).toBitVec.toInt = _
  exact BitVec.toInt_eq_toNat_of_lt (by omega)
theorem head_lt {i N : Nat} (hi : i ≤ 3078) (hN : N ≤ 3072) : (nI N - nI 6 < nI i) ↔ N < i + 6 := by
  rw [Int32.lt_iff_toInt_lt, pk_sub_toInt (by omega) (by decide), nI_toIntc (by omega)]
  omega
end LL
section LP
variable {κ : Kx} {P : Unit → State → Prop} {b N : Nat} {xs : Nat → Int32}
set_option maxRecDepth 100000 in
set_option maxHeartbeats 4000000 in
theorem law_step {i cn sn : Nat} {Ex Em : Ev} {Mx Mm : Mi} {Lx Lm : Ml} {σ : Sg} (h : LQ κ b N i cn sn xs Ex Em Mx Mm Lx Lm σ) (kk : LD κ P b i cn sn Ex Em) : JX κ P 18 b i Ex Mx Lx Em Mm Lm cn sn := by
  have h' := h
  obtain ⟨C, hs, hi, hx, hy, hS, hc⟩ := h
  have hN := hs.2.2.2.1
  refine j_iload_n (C.kW _) dL_law_18 rfl rfl ?_
  refine j_aload_n (C.kW _) dL_law_19 rfl rfl ?_
  refine j_slenX (C.kW _) (hs.kW _) dL_law_20 ?_
  refine j_bipush (v := nI 6) (C.kW _) dL_law_21 rfl ?_
  refine j_isub (C.kW _) dL_law_23 ?_
  refine j_skip (c := nI N - nI 6 < nI i) (fun q => by have := (head_lt (by omega) hN).mp q; omega) (j_icmp_gt (tgt := 1172) (C.kW _) dL_law_24 (by decide) jf_none ?_)
  refine j_aload_n (C.kW _) dL_law_27 rfl rfl ?_
  refine j_iload_n (C.kW _) dL_law_28 rfl rfl ?_
  refine j_sldX (C.kW _) (hs.kW _) (show i < N by omega) dL_law_29 ?_
  refine j_bipush (v := (31 : Int32)) (C.kW _) dL_law_30 rfl ?_
  refine j_iand (C.kW _) dL_law_32 ?_
  obtain ⟨k, hk, hv⟩ := and31 (xs i)
  have dflt : 28 < k → JF (kW κ (wd (gG (kγ κ)) Em Mm Lm)) P 33 [some (.ref b), some (.ref (Ex.2.1 0)), some (.ref (Em.2.1 0)), some (.int (nI i))] [.int (xs i &&& 31)] Ex Mx Lx cn sn (some ()) := fun h28 => by
    refine j_tabO (tgt := 1166) (C.kW _) dL_law_33 (Or.inr (by rw [hv]; omega)) (by decide) ?_
    refine j_widen (cn' := cn + 2) (sn' := sn + 163) (by omega) (by omega) ?_
    exact kk _ _ _ _ _ _ σ hx hy hS rfl rfl
  have inn : ∀ (off : Int) (tgt : Nat), k ≤ 28 → (#[131, 174, 217, 250, 283, 307, 330, 343, 366, 379, 422, 465, 498, 532, 565, 608, 632, 675, 709, 752, 795, 849, 862, 875, 898, 941, 984, 1047, 1100] : Array Int)[k]? = some off → (33 : Int) + off = (tgt : Int) → JF (kW κ (wd (gG (kγ κ)) Em Mm Lm)) P tgt [some (.ref b), some (.ref (Ex.2.1 0)), some (.ref (Em.2.1 0)), some (.int (nI i))] [] Ex Mx Lx cn sn (some ()) → JF (kW κ (wd (gG (kγ κ)) Em Mm Lm)) P 33 [some (.ref b), some (.ref (Ex.2.1 0)), some (.ref (Em.2.1 0)), some (.int (nI i))] [.int (xs i &&& 31)] Ex Mx Lx cn sn (some ()) := fun off tgt h28 ho ht kj => by
    refine j_tabI (tgt := tgt) (off := off) (C.kW _) dL_law_33 (by rw [hv]; omega) (by rw [hv]; omega) ?_ ht kj
    rw [hv, show ((k : Int) - 0).toNat = k by omega]
    exact ho
  refine j_pc (pc2 := 33) rfl ?_
  match k, hk, dflt, inn with
  | 0, _, _, inn => exact inn 131 164 (by decide) rfl (by decide) (lc_set h' kk)
  | 1, _, _, inn => exact inn 174 207 (by decide) rfl (by decide) (lc_party h' kk)
  | 2, _, _, inn => exact inn 217 250 (by decide) rfl (by decide) (lc_told h' kk)
  | 3, _, _, inn => exact inn 250 283 (by decide) rfl (by decide) (lc_leap h' kk)
  | 4, _, _, inn => exact inn 283 316 (by decide) rfl (by decide) (lc_floor h' kk)
  | 5, _, _, inn => exact inn 307 340 (by decide) rfl (by decide) (lc_feed h' kk)
  | 6, _, _, inn => exact inn 330 363 (by decide) rfl (by decide) (lc_text h' kk)
  | 7, _, _, inn => exact inn 343 376 (by decide) rfl (by decide) (lc_force h' kk)
  | 8, _, _, inn => exact inn 366 399 (by decide) rfl (by decide) (lc_minute h' kk)
  | 9, _, _, inn => exact inn 379 412 (by decide) rfl (by decide) (lc_run h' kk)
  | 10, _, _, inn => exact inn 422 455 (by decide) rfl (by decide) (lc_call h' kk)
  | 11, _, _, inn => exact inn 465 498 (by decide) rfl (by decide) (lc_meet h' kk)
  | 12, _, _, inn => exact inn 498 531 (by decide) rfl (by decide) (lc_reached h' kk)
  | 13, _, _, inn => exact inn 532 565 (by decide) rfl (by decide) (lc_fewest h' kk)
  | 14, _, _, inn => exact inn 565 598 (by decide) rfl (by decide) (lc_best h' kk)
  | 15, _, _, inn => exact inn 608 641 (by decide) rfl (by decide) (lc_mean h' kk)
  | 16, _, _, inn => exact inn 632 665 (by decide) rfl (by decide) (lc_tells h' kk)
  | 17, _, _, inn => exact inn 675 708 (by decide) rfl (by decide) (lc_stood h' kk)
  | 18, _, _, inn => exact inn 709 742 (by decide) rfl (by decide) (lc_film h' kk)
  | 19, _, _, inn => exact inn 752 785 (by decide) rfl (by decide) (lc_drawn h' kk)
  | 20, _, _, inn => exact inn 795 828 (by decide) rfl (by decide) (lc_chance h' kk)
  | 21, _, _, inn => exact inn 849 882 (by decide) rfl (by decide) (lc_image h' kk)
  | 22, _, _, inn => exact inn 862 895 (by decide) rfl (by decide) (lc_back h' kk)
  | 23, _, _, inn => exact inn 875 908 (by decide) rfl (by decide) (lc_count h' kk)
  | 24, _, _, inn => exact inn 898 931 (by decide) rfl (by decide) (lc_sheet h' kk)
  | 25, _, _, inn => exact inn 941 974 (by decide) rfl (by decide) (lc_cell h' kk)
  | 26, _, _, inn => exact inn 984 1017 (by decide) rfl (by decide) (lc_copy h' kk)
  | 27, _, _, inn => exact inn 1047 1080 (by decide) rfl (by decide) (lc_suits h' kk)
  | 28, _, _, inn => exact inn 1100 1133 (by decide) rfl (by decide) (lc_taken h' kk)
  | k + 29, _, dflt, _ => exact dflt (by omega)
end LP
