/-! THE LAW: two worlds, one after the other -/
def kW (κ : Kx) (W : va_W) : Kx := ((κ.1.1, κ.1.2.1, κ.1.2.2.1, W, κ.1.2.2.2.2), κ.2)
theorem Cx.kW {κ : Kx} {cc : ByteArray} {own : String} {rm : Room} {ret : Option FieldType} (C : Cx κ cc own rm ret) (W : va_W) : Cx (kW κ W) cc own rm ret := C
/-- the script: N ints at the cell b, which no method of ours writes -/
def LH (κ : Kx) (b N : Nat) (xs : Nat → Int32) : Prop := va_X b N xs (ks κ) (ks κ).heap ∧ b < gz (kγ κ) ∧ gz (kγ κ) = (ks κ).heap.size ∧ N ≤ 3072 ∧ knL κ = 4
theorem LH.kW {κ : Kx} {b N : Nat} {xs : Nat → Int32} (h : LH κ b N xs) (W : va_W) : LH (kW κ W) b N xs := h
section LW
variable {ρ : Type} {κ : Kx} {P : ρ → State → Prop} {cc : ByteArray} {own : String} {rm : Room} {ret : Option FieldType} {pc : Nat} {lv : List (Option Value)} {st : List Value} {E : Ev} {M : Mi} {L : Ml} {cn sn : Nat} {f : Option ρ} {b N : Nat} {xs : Nat → Int32}
theorem j_swap {E2 : Ev} {M2 : Mi} {L2 : Ml} (k : JF (kW κ (wd (gG (kγ κ)) E M L)) P pc lv st E2 M2 L2 cn sn f) : JF (kW κ (wd (gG (kγ κ)) E2 M2 L2)) P pc lv st E M L cn sn f := fun r hr H locs ls hG hl =>
  k r hr H locs ls ⟨va_P.swap (a := []) hG.1, va_D.swap (a := []) hG.2.1, hG.2.2⟩ hl
theorem wd_cut {G : Nat → ClassId} {E : Ev} {M M' : Mi} {L L' : Ml} (hM : ∀ k, k < E.1.length → M' k = M k) (hL : ∀ k, k < E.1.length → L' k = L k) : wd G E M' L' = wd G E M L := by
  refine List.ext_getElem? (fun i => ?_)
  simp only [wd, List.getElem?_mapIdx]
  by_cases hi : i < E.1.length
  · cases E.1[i]? with
    | none => rfl
    | some d => simp only [Option.map_some]; rw [cE_ne d (hM i hi) (hL i hi)]
  · rw [List.getElem?_eq_none (by omega)]; rfl
theorem j_cut {M' : Mi} {L' : Ml} (hM : ∀ k, k < E.1.length → M' k = M k) (hL : ∀ k, k < E.1.length → L' k = L k) (k : JF κ P pc lv st E M' L' cn sn f) : JF κ P pc lv st E M L cn sn f := fun r hr H locs ls hG hl =>
  k r hr H locs ls (by have h := hG; unfold GW wdw at *; rw [wd_cut hM hL]; exact h) hl
theorem LH.nA (h : LH κ b N xs) : ¬ gA (kγ κ) b := Nat.not_le.mpr h.2.1
theorem j_slenX (C : Cx κ cc own rm ret) (h : LH κ b N xs) (hd : decode cc pc = .ok (.arraylength, 1)) (k : JF κ P (pc + 1) lv (.int (nI N) :: st) E M L cn sn f) : JF κ P pc lv (.ref b :: st) E M L cn sn f := fun r hr H locs ls hG hl =>
  va_slen C.1 C.2.1 h.1 (by have := h.2.1; have := h.2.2.1; omega) h.nA hG.2.2 hd (k r hr H locs ls hG hl)
theorem j_sldX (C : Cx κ cc own rm ret) (h : LH κ b N xs) {i : Nat} (hi : i < N) (hd : decode cc pc = .ok (.iaload, 1)) (k : JF κ P (pc + 1) lv (.int (xs i) :: st) E M L cn sn f) : JF κ P pc lv (.int (nI i) :: .ref b :: st) E M L cn sn f := fun r hr H locs ls hG hl => by
  have hN := h.2.2.2.1
  refine va_sld C.1 C.2.1 h.1 (by have := h.2.1; have := h.2.2.1; omega) h.nA hG.2.2 (vp_in_nI hi (by omega)) hd ?_
  rw [nI_clamp (show i < 2 ^ 31 by omega)]
  exact k r hr H locs ls hG hl
theorem j_arg (C : Cx κ cc own rm ret) (h : LH κ b N xs) {i k : Nat} {kz : Int} (h0 : decode cc pc = .ok (.aload_n 0, 1)) (h1 : decode cc (pc + 1) = .ok (.iload_n 3, 1)) (h2 : decode cc (pc + 2) = .ok (.iconst kz, 1)) (h3 : decode cc (pc + 3) = .ok (.iadd, 1)) (h4 : decode cc (pc + 4) = .ok (.iaload, 1)) (hk : Int32.ofInt kz = nI k) (hi : i + k < N) (hv0 : lv[0]? = some (some (.ref b))) (hv3 : lv[3]? = some (some (.int (nI i)))) (kk : JF κ P (pc + 4 + 1) lv (.int (xs (i + k)) :: st) E M L cn sn f) : JF κ P pc lv st E M L cn sn f := by
  refine j_aload_n C h0 rfl hv0 ?_
  refine j_iload_n C h1 rfl hv3 ?_
  refine j_iconst C h2 hk ?_
  refine j_iadd C h3 ?_
  rw [nI_add]
  exact j_sldX C h hi h4 kk
theorem lg_cmp_self (v : Int64) : lg_cmp v v = 0 := by
  unfold lg_cmp
  simp
end LW
