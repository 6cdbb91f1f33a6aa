/-! FIELDS, ROWS, RETURNS, ENTRY, CALLS -/
theorem Cx.exec {κ : Kx} {cc : ByteArray} {own : String} {rm : Room} {ret : Option FieldType} (C : Cx κ cc own rm ret) : (kp κ).tables.exec = Jvm.exec := C.1
theorem Cx.code {κ : Kx} {cc : ByteArray} {own : String} {rm : Room} {ret : Option FieldType} (C : Cx κ cc own rm ret) : (kc κ).code = cc := C.2.1
theorem Cx.own {κ : Kx} {cc : ByteArray} {own : String} {rm : Room} {ret : Option FieldType} (C : Cx κ cc own rm ret) : (ks κ).vm.findClass own = some (km κ).cls := C.2.2.2.1
theorem Cx.ts {κ : Kx} {cc : ByteArray} {own : String} {rm : Room} {ret : Option FieldType} (C : Cx κ cc own rm ret) : ∀ w ∈ TB, w.before (ka κ) (ks κ) = true := C.2.2.2.2.1
theorem Cx.K {κ : Kx} {cc : ByteArray} {own : String} {rm : Room} {ret : Option FieldType} (C : Cx κ cc own rm ret) : va_K (gD (kγ κ)) vwCl (tysG (gG (kγ κ))) (ks κ) := C.2.2.2.2.2.1
theorem Cx.stat {κ : Kx} {cc : ByteArray} {own : String} {rm : Room} {ret : Option FieldType} (C : Cx κ cc own rm ret) : ST (kγ κ) (ks κ) (ks κ).heap := C.2.2.2.2.2.2.1
theorem Cx.locks {κ : Kx} {cc : ByteArray} {own : String} {rm : Room} {ret : Option FieldType} (C : Cx κ cc own rm ret) : (kmeth κ).locks = false := C.2.2.2.2.2.2.2.2.1
theorem Cx.R {κ : Kx} {cc : ByteArray} {own : String} {rm : Room} {ret : Option FieldType} (C : Cx κ cc own rm ret) : kR κ = rm := C.2.2.2.2.2.2.2.2.2.1
theorem Cx.ret {κ : Kx} {cc : ByteArray} {own : String} {rm : Room} {ret : Option FieldType} (C : Cx κ cc own rm ret) : (kmeth κ).sig.returnType = ret := C.2.2.2.2.2.2.2.2.2.2
def FC (c : Nat) (Cn : String) (T : u_T) (N : Nat) (ty : Nat → FieldType) : Prop := vwCl[c]? = some (Cn, T, N) ∧ (∀ w ∈ u_ws Cn T N, w ∈ TB) ∧ (∀ k, k < N → parseFieldDescriptor (T k).2.2.1 = some (ty k)) ∧ (∀ a, a < N → ∀ b, b < N → a ≠ b → (T a).2.1 ≠ (T b).2.1)
theorem FC0 : FC 0 RX0 TX0 9 tyX0 := ⟨rfl, fun w h => List.mem_filter.mpr ⟨inX0 w h, (by decide +kernel : ∀ w ∈ wsX00, goodWord w = true) w h⟩, tyX0_ok, nmX0⟩
theorem FC1 : FC 1 RX1 TX1 3 tyX1 := ⟨rfl, fun w h => List.mem_filter.mpr ⟨inX1 w h, (by decide +kernel : ∀ w ∈ wsX10, goodWord w = true) w h⟩, tyX1_ok, nmX1⟩
theorem FC2 : FC 2 RX2 TX2 9 tyX2 := ⟨rfl, fun w h => List.mem_filter.mpr ⟨inX2 w h, (by decide +kernel : ∀ w ∈ wsX20, goodWord w = true) w h⟩, tyX2_ok, nmX2⟩
theorem FC3 : FC 3 RX3 TX3 3 tyX3 := ⟨rfl, fun w h => List.mem_filter.mpr ⟨inX3 w h, (by decide +kernel : ∀ w ∈ wsX30, goodWord w = true) w h⟩, tyX3_ok, nmX3⟩
theorem FC4 : FC 4 RX4 TX4 3 tyX4 := ⟨rfl, fun w h => List.mem_filter.mpr ⟨inX4 w h, (by decide +kernel : ∀ w ∈ wsX40, goodWord w = true) w h⟩, tyX4_ok, nmX4⟩
theorem FC5 : FC 5 RX5 TX5 8 tyX5 := ⟨rfl, fun w h => List.mem_filter.mpr ⟨inX5 w h, (by decide +kernel : ∀ w ∈ wsX50, goodWord w = true) w h⟩, tyX5_ok, nmX5⟩
theorem FC6 : FC 6 RX6 TX6 41 tyX6 := ⟨rfl, fun w h => List.mem_filter.mpr ⟨inX6 w h, (by decide +kernel : ∀ w ∈ wsX60, goodWord w = true) w h⟩, tyX6_ok, nmX6⟩
theorem wd_obj {G : Nat → ClassId} {E : Ev} {M : Mi} {L : Ml} {k c : Nat} (h : E.1[k]? = some (.inl c)) (wr : va_W) : (wd G E M L ++ wr)[k]? = some (E.2.1 k, .inr (c, (kinds c).mapIdx (fun j t => fv E M L k j t))) := wd_get h wr
theorem wd_ari {G : Nat → ClassId} {E : Ev} {M : Mi} {L : Ml} {k t n : Nat} (h : E.1[k]? = some (.inr (t, n))) (ht : t < 2) (wr : va_W) : (wd G E M L ++ wr)[k]? = some (E.2.1 k, .inl (G t, n, .inl (M k))) := by
  rw [wd_get h wr]; simp [cE, ht]
theorem wd_arq {G : Nat → ClassId} {E : Ev} {M : Mi} {L : Ml} {k t n : Nat} (h : E.1[k]? = some (.inr (t + 2, n))) (wr : va_W) : (wd G E M L ++ wr)[k]? = some (E.2.1 k, .inl (G (t + 2), n, .inr (.inr (.inr (.inr (fun j => (E.2.2 k j).map E.2.1)))))) := by
  rw [wd_get h wr]; simp [cE]
def ix (i : Int32) (n : Nat) : Bool := decide (¬ (i < 0 ∨ n ≤ i.toNatClampNeg))
theorem ix_in {i : Int32} {n : Nat} (h : ix i n = true) : vp_in i n := of_decide_eq_true (p := ¬ (i < 0 ∨ n ≤ i.toNatClampNeg)) h
def cpok (sp dp n : Int32) (n0 n1 : Nat) : Bool := decide (¬ sp < 0 ∧ ¬ dp < 0 ∧ ¬ n < 0 ∧ sp.toNatClampNeg + n.toNatClampNeg ≤ n0 ∧ dp.toNatClampNeg + n.toNatClampNeg ≤ n1)
def rz (v : Int32) : Option Int32 := if v = 0 ∨ v = 1 then some v else none
def rzw (v : Int32) (M : Mi) (L : Ml) : Option (Int32 × Mi × Ml) := if v = 0 ∨ v = 1 then some (v, M, L) else none
theorem nar_z {v : Int32} (h : v = 0 ∨ v = 1) : narrow .boolean (.int v) = .int v := by rcases h with rfl | rfl <;> rfl
section FR
variable {ρ : Type} {κ : Kx} {P : ρ → State → Prop} {cc : ByteArray} {own : String} {rm : Room} {ret : Option FieldType} {pc : Nat} {lv : List (Option Value)} {st : List Value} {E : Ev} {M : Mi} {L : Ml} {cn sn : Nat} {f g : Option ρ}
theorem j_getI (C : Cx κ cc own rm ret) {k c j i N : Nat} {Cn : String} {T : u_T} {ty : Nat → FieldType} (hd : decode cc pc = .ok (.getfield i, 3)) (F : FC c Cn T N ty) (hS : E.1[k]? = some (.inl c)) (hj : j < N) (hk : (kinds c)[j]? = some 0) (hL : Cond.fieldLink own i (T j).1 (T j).2.1 (T j).2.2.1 ∈ TB) (kk : JF κ P (pc + 3) lv (.int (M k j) :: st) E M L cn sn f) : JF κ P pc lv (.ref (E.2.1 k) :: st) E M L cn sn f :=
  fun r hr H locs ls hG hl => va_get C.1 C.2.1 C.ts F.2.1 C.own C.K hG.1 k (wd_obj hS _) F.1 j hj (C.w hL) (fun _ h => h) (wd_fld hk) hd (kk r hr H locs ls hG hl)
theorem j_getL (C : Cx κ cc own rm ret) {k c j i N : Nat} {Cn : String} {T : u_T} {ty : Nat → FieldType} (hd : decode cc pc = .ok (.getfield i, 3)) (F : FC c Cn T N ty) (hS : E.1[k]? = some (.inl c)) (hj : j < N) (hk : (kinds c)[j]? = some 1) (hL : Cond.fieldLink own i (T j).1 (T j).2.1 (T j).2.2.1 ∈ TB) (kk : JF κ P (pc + 3) lv (.long (L k j) :: st) E M L cn sn f) : JF κ P pc lv (.ref (E.2.1 k) :: st) E M L cn sn f :=
  fun r hr H locs ls hG hl => va_get C.1 C.2.1 C.ts F.2.1 C.own C.K hG.1 k (wd_obj hS _) F.1 j hj (C.w hL) (fun _ h => h) (wd_fld hk) hd (kk r hr H locs ls hG hl)
theorem j_getR (C : Cx κ cc own rm ret) {k c j i N k' : Nat} {Cn : String} {T : u_T} {ty : Nat → FieldType} (hd : decode cc pc = .ok (.getfield i, 3)) (F : FC c Cn T N ty) (hS : E.1[k]? = some (.inl c)) (hj : j < N) (hk : (kinds c)[j]? = some 2) (hR : E.2.2 k j = some k') (hL : Cond.fieldLink own i (T j).1 (T j).2.1 (T j).2.2.1 ∈ TB) (kk : JF κ P (pc + 3) lv (.ref (E.2.1 k') :: st) E M L cn sn f) : JF κ P pc lv (.ref (E.2.1 k) :: st) E M L cn sn f :=
  fun r hr H locs ls hG hl => va_get C.1 C.2.1 C.ts F.2.1 C.own C.K hG.1 k (wd_obj hS _) F.1 j hj (C.w hL) (fun _ h => h) ((wd_fld hk).trans (by simp [fv, hR, va_rf])) hd (kk r hr H locs ls hG hl)
theorem j_putI (C : Cx κ cc own rm ret) {k c j i N : Nat} {Cn : String} {T : u_T} {ty : Nat → FieldType} {x : Int32} (hd : decode cc pc = .ok (.putfield i, 3)) (F : FC c Cn T N ty) (hS : E.1[k]? = some (.inl c)) (hj : j < N) (hk : (kinds c)[j]? = some 0) (hfin : (T j).2.2.2 = false) (hn : narrow (ty j) (.int x) = .int x) (hfit : fits (ty j) (.int x) = true) (hL : Cond.fieldLink own i (T j).1 (T j).2.1 (T j).2.2.1 ∈ TB) (kk : JF κ P (pc + 3) lv st E (up2 M k j x) L cn sn f) : JF κ P pc lv (.int x :: .ref (E.2.1 k) :: st) E M L cn sn f :=
  fun r hr H locs ls hG hl => va_put C.1 C.2.1 C.ts F.2.1 ty F.2.2.1 F.2.2.2 C.own C.K hG.1 hG.2.1 hG.2.2 k (wd_obj hS _) F.1 j hj (C.w hL) (fun _ h => h) hfin (F.2.2.1 j hj) hn hfit (by simpa using (List.getElem?_eq_some_iff.mp hk).1) hd (fun H1 locs1 hP hD hS1 => by
    have e := wd_set (G := gG (kγ κ)) (M := M) (M' := up2 M k j x) (L := L) (L' := L) (e := .inr (c, ((kinds c).mapIdx (fun j t => fv E M L k j t)).set j (.int x))) hS (by rw [fld_set hk]; rfl) (fun a h => up2_ne h) (fun _ _ => rfl) (gW (kγ κ))
    exact kk r hr H1 locs1 ls ⟨by unfold wdw; rw [← e]; exact hP, by unfold wdw; rw [← e]; exact hD, hS1⟩ hl)
theorem j_putL (C : Cx κ cc own rm ret) {k c j i N : Nat} {Cn : String} {T : u_T} {ty : Nat → FieldType} {x : Int64} (hd : decode cc pc = .ok (.putfield i, 3)) (F : FC c Cn T N ty) (hS : E.1[k]? = some (.inl c)) (hj : j < N) (hk : (kinds c)[j]? = some 1) (hfin : (T j).2.2.2 = false) (hn : narrow (ty j) (.long x) = .long x) (hfit : fits (ty j) (.long x) = true) (hL : Cond.fieldLink own i (T j).1 (T j).2.1 (T j).2.2.1 ∈ TB) (kk : JF κ P (pc + 3) lv st E M (up2 L k j x) cn sn f) : JF κ P pc lv (.long x :: .ref (E.2.1 k) :: st) E M L cn sn f :=
  fun r hr H locs ls hG hl => va_put C.1 C.2.1 C.ts F.2.1 ty F.2.2.1 F.2.2.2 C.own C.K hG.1 hG.2.1 hG.2.2 k (wd_obj hS _) F.1 j hj (C.w hL) (fun _ h => h) hfin (F.2.2.1 j hj) hn hfit (by simpa using (List.getElem?_eq_some_iff.mp hk).1) hd (fun H1 locs1 hP hD hS1 => by
    have e := wd_set (G := gG (kγ κ)) (M := M) (M' := M) (L := L) (L' := up2 L k j x) (e := .inr (c, ((kinds c).mapIdx (fun j t => fv E M L k j t)).set j (.long x))) hS (by rw [fld_setL hk]; rfl) (fun _ _ => rfl) (fun a h => up2_ne h) (gW (kγ κ))
    exact kk r hr H1 locs1 ls ⟨by unfold wdw; rw [← e]; exact hP, by unfold wdw; rw [← e]; exact hD, hS1⟩ hl)
theorem j_iald (C : Cx κ cc own rm ret) {k n : Nat} {i : Int32} (hd : decode cc pc = .ok (.iaload, 1)) (hS : E.1[k]? = some (.inr (0, n))) (kk : JF κ P (pc + 1) lv (.int (M k i.toNatClampNeg) :: st) E M L cn sn f) : JF κ P pc lv (.int i :: .ref (E.2.1 k) :: st) E M L cn sn (if ix i n = true then f else none) :=
  fun r hr H locs ls hG hl => by
    by_cases h : ix i n = true
    · rw [if_pos h] at hr; exact va_iald C.1 C.2.1 C.K hG.1 k 0 (wd_ari hS (by decide) _) rfl (ix_in h) hd (kk r hr H locs ls hG hl)
    · rw [if_neg h] at hr; cases hr
theorem j_zald (C : Cx κ cc own rm ret) {k n : Nat} {i : Int32} (hd : decode cc pc = .ok (.baload, 1)) (hS : E.1[k]? = some (.inr (1, n))) (kk : JF κ P (pc + 1) lv (.int (M k i.toNatClampNeg) :: st) E M L cn sn f) : JF κ P pc lv (.int i :: .ref (E.2.1 k) :: st) E M L cn sn (if ix i n = true then f else none) :=
  fun r hr H locs ls hG hl => by
    by_cases h : ix i n = true
    · rw [if_pos h] at hr; exact va_zald C.1 C.2.1 C.K hG.1 k 1 (wd_ari hS (by decide) _) rfl (ix_in h) hd (kk r hr H locs ls hG hl)
    · rw [if_neg h] at hr; cases hr
theorem j_iast (C : Cx κ cc own rm ret) {k n : Nat} {i x : Int32} (hd : decode cc pc = .ok (.iastore, 1)) (hS : E.1[k]? = some (.inr (0, n))) (kk : JF κ P (pc + 1) lv st E (up2 M k i.toNatClampNeg x) L cn sn f) : JF κ P pc lv (.int x :: .int i :: .ref (E.2.1 k) :: st) E M L cn sn (if ix i n = true then f else none) :=
  fun r hr H locs ls hG hl => by
    by_cases h : ix i n = true
    · rw [if_pos h] at hr
      refine va_iast C.1 C.2.1 C.K hG.1 hG.2.1 hG.2.2 k 0 (wd_ari hS (by decide) _) rfl (ix_in h) hd (fun H1 locs1 hP hD hS1 => ?_)
      have e := wd_set (G := gG (kγ κ)) (M := M) (M' := up2 M k i.toNatClampNeg x) (L := L) (L' := L) (e := .inl (gG (kγ κ) 0, n, .inl (upd (M k) i.toNatClampNeg x))) hS (by simp [cE, up2_self]) (fun a h => up2_ne h) (fun _ _ => rfl) (gW (kγ κ))
      exact kk r hr H1 locs1 ls ⟨by unfold wdw; rw [← e]; exact hP, by unfold wdw; rw [← e]; exact hD, hS1⟩ hl
    · rw [if_neg h] at hr; cases hr
theorem j_zast (C : Cx κ cc own rm ret) {k n : Nat} {i x : Int32} (hd : decode cc pc = .ok (.bastore, 1)) (hS : E.1[k]? = some (.inr (1, n))) (kk : JF κ P (pc + 1) lv st E (up2 M k i.toNatClampNeg (vp_nar .boolean x)) L cn sn f) : JF κ P pc lv (.int x :: .int i :: .ref (E.2.1 k) :: st) E M L cn sn (if ix i n = true then f else none) :=
  fun r hr H locs ls hG hl => by
    by_cases h : ix i n = true
    · rw [if_pos h] at hr
      refine va_zast C.1 C.2.1 C.K hG.1 hG.2.1 hG.2.2 k 1 (wd_ari hS (by decide) _) rfl (ix_in h) hd (fun H1 locs1 hP hD hS1 => ?_)
      have e := wd_set (G := gG (kγ κ)) (M := M) (M' := up2 M k i.toNatClampNeg (vp_nar .boolean x)) (L := L) (L' := L) (e := .inl (gG (kγ κ) 1, n, .inl (upd (M k) i.toNatClampNeg (vp_nar .boolean x)))) hS (by simp [cE, up2_self]) (fun a h => up2_ne h) (fun _ _ => rfl) (gW (kγ κ))
      exact kk r hr H1 locs1 ls ⟨by unfold wdw; rw [← e]; exact hP, by unfold wdw; rw [← e]; exact hD, hS1⟩ hl
    · rw [if_neg h] at hr; cases hr
theorem j_alen (C : Cx κ cc own rm ret) {k n : Nat} (hd : decode cc pc = .ok (.arraylength, 1)) (hS : E.1[k]? = some (.inr (0, n))) (kk : JF κ P (pc + 1) lv (.int (nI n) :: st) E M L cn sn f) : JF κ P pc lv (.ref (E.2.1 k) :: st) E M L cn sn f :=
  fun r hr H locs ls hG hl => va_alen C.1 C.2.1 C.K hG.1 k 0 (wd_ari hS (by decide) _) (ty := .int) rfl (v := nI n) rfl hd (kk r hr H locs ls hG hl)
theorem tysG_q (G : Nat → ClassId) (t : Nat) (ht : t < 2) : (tysG G)[t + 2]? = some (G (t + 2), .object (if t = 0 then RX3 else RX4)) := by
  match t, ht with
  | 0, _ => rfl
  | 1, _ => rfl
theorem j_aaldR (C : Cx κ cc own rm ret) {k n t k' : Nat} {i : Int32} (hd : decode cc pc = .ok (.aaload, 1)) (hS : E.1[k]? = some (.inr (t + 2, n))) (ht : t < 2) (hR : ix i n = true → E.2.2 k i.toNatClampNeg = some k') (kk : JF κ P (pc + 1) lv (.ref (E.2.1 k') :: st) E M L cn sn f) : JF κ P pc lv (.int i :: .ref (E.2.1 k) :: st) E M L cn sn (if ix i n = true then f else none) :=
  fun r hr H locs ls hG hl => by
    by_cases h : ix i n = true
    · rw [if_pos h] at hr; exact va_aldq C.1 C.2.1 C.K hG.1 k (t + 2) (wd_arq hS _) (tysG_q _ t ht) (ix_in h) hd (by simp only [hR h, Option.map_some, va_rf]; exact kk r hr H locs ls hG hl)
    · rw [if_neg h] at hr; cases hr
theorem j_aaldO (C : Cx κ cc own rm ret) {k n t : Nat} {i : Int32} {f0 : Option ρ} {f1 : Nat → Option ρ} (hd : decode cc pc = .ok (.aaload, 1)) (hS : E.1[k]? = some (.inr (t + 2, n))) (ht : t < 2) (k0 : JF κ P (pc + 1) lv (.null :: st) E M L cn sn f0) (k1 : ∀ z, E.2.2 k i.toNatClampNeg = some z → JF κ P (pc + 1) lv (.ref (E.2.1 z) :: st) E M L cn sn (f1 z)) : JF κ P pc lv (.int i :: .ref (E.2.1 k) :: st) E M L cn sn (if ix i n = true then (match E.2.2 k i.toNatClampNeg with | none => f0 | some z => f1 z) else none) :=
  fun r hr H locs ls hG hl => by
    by_cases h : ix i n = true
    · rw [if_pos h] at hr
      refine va_aldq C.1 C.2.1 C.K hG.1 k (t + 2) (wd_arq hS _) (tysG_q _ t ht) (ix_in h) hd ?_
      cases hz : E.2.2 k i.toNatClampNeg with
      | none => rw [hz] at hr; simp only [Option.map_none, va_rf]; exact k0 r hr H locs ls hG hl
      | some z => rw [hz] at hr; simp only [Option.map_some, va_rf]; exact k1 z hz r hr H locs ls hG hl
    · rw [if_neg h] at hr; cases hr
theorem j_getsN (C : Cx κ cc own rm ret) {i x : Nat} (hd : decode cc pc = .ok (.getstatic x, 3)) (hi : i < 7) (hw : NW (ks κ) → va_Nw (.fieldLinkNest own x "TilesOfLaw" (sN i) "[I" "TilesOfLaw") (ks κ)) (kk : JF κ P (pc + 3) lv (.ref (gT (kγ κ) i) :: st) E M L cn sn f) : JF κ P pc lv st E M L cn sn f :=
  fun r hr H locs ls hG hl => va_getsN C.1 C.2.1 (C.stat.2.2.1 i hi).1 hG.2.2 C.own (va_Nw.use rfl (hw C.stat.1)) (fun _ h => h) hd (kk r hr H locs ls hG hl)
theorem j_gets (C : Cx κ cc own rm ret) {i x : Nat} (hd : decode cc pc = .ok (.getstatic x, 3)) (hi : i < 7) (hL : Cond.fieldLink own x "TilesOfLaw" (sN i) "[I" ∈ TB) (kk : JF κ P (pc + 3) lv (.ref (gT (kγ κ) i) :: st) E M L cn sn f) : JF κ P pc lv st E M L cn sn f :=
  fun r hr H locs ls hG hl => va_gets C.1 C.2.1 (C.stat.2.2.1 i hi).1 hG.2.2 C.own (C.w hL) (fun _ h => h) hd (kk r hr H locs ls hG hl)
theorem j_tald (C : Cx κ cc own rm ret) {i : Nat} {x : Int32} (hd : decode cc pc = .ok (.iaload, 1)) (hi : i < 7) (kk : JF κ P (pc + 1) lv (.int ((sA i).getD x.toNatClampNeg 0) :: st) E M L cn sn f) : JF κ P pc lv (.int x :: .ref (gT (kγ κ) i) :: st) E M L cn sn (if ix x (sA i).length = true then f else none) :=
  fun r hr H locs ls hG hl => by
    by_cases h : ix x (sA i).length = true
    · rw [if_pos h] at hr; exact va_ti C.1 C.2.1 (C.stat.2.2.1 i hi).2 hG.2.2 (ix_in h) rfl hd (kk r hr H locs ls hG hl)
    · rw [if_neg h] at hr; cases hr
theorem j_max (C : Cx κ cc own rm ret) {i : Nat} {x y : Int32} (hd : decode cc pc = .ok (.invokestatic i, 3)) (hL : Cond.methodLink own i Lib.Math.max.name ∈ TB) (hb2 : Cond.static Lib.Math.max.name ∈ TB) (hc : Cond.initialized "java/lang/Math" ∈ TB) (hco : Cond.code Lib.Math.max.name Lib.Math.max.code 2 (some .int) ∈ TB) (hst : (st.map fun v => v.category).sum + 13 ≤ rm.locals) (hf : 1 ≤ rm.frames) (hcs : cn ≤ rm.cells ∧ sn ≤ rm.slots) (kk : JF κ P (pc + 3) lv (.int (if x < y then y else x) :: st) E M L cn sn f) : JF κ P pc lv (.int y :: .int x :: st) E M L cn sn f :=
  fun r hr H locs ls hG hl => va_mmax C.1 C.2.1 (by rw [hl.1]; exact C.2.2.1) C.own (C.w hL) (C.w hb2) (C.w hc) (C.w hco) (by rw [C.R]; exact hf) (by rw [C.R]; exact hst) (by rw [C.R]; exact hcs.1) (by rw [C.R]; exact hcs.2) hd (kk r hr H locs ls hG hl)
theorem j_min (C : Cx κ cc own rm ret) {i : Nat} {x y : Int32} (hd : decode cc pc = .ok (.invokestatic i, 3)) (hL : Cond.methodLink own i Lib.Math.min.name ∈ TB) (hb2 : Cond.static Lib.Math.min.name ∈ TB) (hc : Cond.initialized "java/lang/Math" ∈ TB) (hco : Cond.code Lib.Math.min.name Lib.Math.min.code 2 (some .int) ∈ TB) (hst : (st.map fun v => v.category).sum + 13 ≤ rm.locals) (hf : 1 ≤ rm.frames) (hcs : cn ≤ rm.cells ∧ sn ≤ rm.slots) (kk : JF κ P (pc + 3) lv (.int (if y < x then y else x) :: st) E M L cn sn f) : JF κ P pc lv (.int y :: .int x :: st) E M L cn sn f :=
  fun r hr H locs ls hG hl => va_mmin C.1 C.2.1 (by rw [hl.1]; exact C.2.2.1) C.own (C.w hL) (C.w hb2) (C.w hc) (C.w hco) (by rw [C.R]; exact hf) (by rw [C.R]; exact hst) (by rw [C.R]; exact hcs.1) (by rw [C.R]; exact hcs.2) hd (kk r hr H locs ls hG hl)
theorem j_copyi (C : Cx κ cc own rm ret) {k0 k1 n0 n1 i : Nat} {sp dp n : Int32} (hd : decode cc pc = .ok (.invokestatic i, 3)) (hS0 : E.1[k0]? = some (.inr (0, n0))) (hS1 : E.1[k1]? = some (.inr (0, n1))) (hL : Cond.methodLink own i arraycopyName ∈ TB) (hb2 : Cond.native arraycopyName ∈ TB) (hb3 : Cond.static arraycopyName ∈ TB) (hc : Cond.initialized "java/lang/System" ∈ TB) (hf : 1 ≤ rm.frames) (hlo : (st.map fun v => v.category).sum + (nativeFrameWords "java/lang/System" "arraycopy" 5 + 11) ≤ rm.locals) (kk : JF κ P (pc + 3) lv st E (upr M k1 (va_cpy (M k0) (M k1) sp.toNatClampNeg dp.toNatClampNeg n.toNatClampNeg)) L cn sn f) : JF κ P pc lv (.int n :: .int dp :: .ref (E.2.1 k1) :: .int sp :: .ref (E.2.1 k0) :: st) E M L cn sn (if cpok sp dp n n0 n1 = true then f else none) :=
  fun r hr H locs ls hG hl => by
    by_cases h : cpok sp dp n n0 n1 = true
    · rw [if_pos h] at hr
      have h9 : ¬ sp < 0 ∧ ¬ dp < 0 ∧ ¬ n < 0 ∧ sp.toNatClampNeg + n.toNatClampNeg ≤ n0 ∧ dp.toNatClampNeg + n.toNatClampNeg ≤ n1 := of_decide_eq_true h
      refine va_copyi C.1 C.2.1 (by rw [hl.1]; exact C.2.2.1) C.own (C.w hL) (C.w hb2) (C.w hb3) (C.w hc) C.K hG.1 hG.2.1 hG.2.2 k0 k1 0 0 (wd_ari hS0 (by decide) _) (wd_ari hS1 (by decide) _) rfl rfl rfl h9.1 h9.2.1 h9.2.2.1 h9.2.2.2.1 h9.2.2.2.2 (fun _ _ => rfl) (by rw [C.R]; exact hf) (by rw [C.R]; exact hlo) hd (fun H1 locs1 hP hD hS => ?_)
      have e := wd_set (G := gG (kγ κ)) (M := M) (M' := upr M k1 (va_cpy (M k0) (M k1) sp.toNatClampNeg dp.toNatClampNeg n.toNatClampNeg)) (L := L) (L' := L) (e := .inl (gG (kγ κ) 0, n1, .inl (va_cpy (M k0) (M k1) sp.toNatClampNeg dp.toNatClampNeg n.toNatClampNeg))) hS1 (by simp [cE, upr_self]) (fun a h => upr_ne h) (fun _ _ => rfl) (gW (kγ κ))
      exact kk r hr H1 locs1 ls ⟨by unfold wdw; rw [← e]; exact hP, by unfold wdw; rw [← e]; exact hD, hS⟩ hl
    · rw [if_neg h] at hr; cases hr
end FR
/-! ends -/
def PQ {ρ : Type} (κ : Kx) (Q : ρ → Array Value → State → Outcome → State → Prop) (mc ms : Nat) : ρ → State → Prop := fun r => MQ (kb κ) (Q r) (ka κ) (ks κ) mc ms (gA (kγ κ))
abbrev Q_i (γ : Gm) (E : Ev) (M : Mi) (L : Ml) : Int32 → Array Value → State → Outcome → State → Prop := fun v => va_Qi (fun r (_ : Unit) => r = v) (fun _ t => PX γ E M L t) (gA γ)
abbrev Q_iw (γ : Gm) (E : Ev) : Int32 × Mi × Ml → Array Value → State → Outcome → State → Prop := fun v => va_Qi (fun r (_ : Unit) => r = v.1) (fun _ t => PX γ E v.2.1 v.2.2 t) (gA γ)
abbrev Q_l (γ : Gm) (E : Ev) (M : Mi) (L : Ml) : Int64 → Array Value → State → Outcome → State → Prop := fun v => va_Ql (fun r (_ : Unit) => r = v) (fun _ t => PX γ E M L t) (gA γ)
abbrev Q_lw (γ : Gm) (E : Ev) : Int64 × Mi × Ml → Array Value → State → Outcome → State → Prop := fun v => va_Ql (fun r (_ : Unit) => r = v.1) (fun _ t => PX γ E v.2.1 v.2.2 t) (gA γ)
abbrev Q_vw (γ : Gm) (E : Ev) : Mi × Ml → Array Value → State → Outcome → State → Prop := fun v => va_Qv (fun (_ : Unit) => True) (fun _ t => PX γ E v.1 v.2 t) (gA γ)
abbrev Q_v (γ : Gm) (E : Ev) (M : Mi) (L : Ml) : Unit → Array Value → State → Outcome → State → Prop := fun _ => va_Qv (fun (_ : Unit) => True) (fun _ t => PX γ E M L t) (gA γ)
abbrev Q_o (γ : Gm) (E : Ev) (M : Mi) (L : Ml) : Option Nat → Array Value → State → Outcome → State → Prop := fun v => va_Qq (fun r (_ : Unit) => r = v.map E.2.1) (fun _ t => PX γ E M L t) (gA γ)
section RT
variable {κ : Kx} {cc : ByteArray} {own : String} {rm : Room} {pc : Nat} {lv : List (Option Value)} {E : Ev} {M : Mi} {L : Ml} {cn sn : Nat}
theorem j_iret (C : Cx κ cc own rm (some .int)) {v : Int32} (hd : decode cc pc = .ok (.ireturn, 1)) : JF κ (PQ κ (Q_i (kγ κ) E M L) cn sn) pc lv [.int v] E M L cn sn (some v) :=
  fun r hr H locs ls hG hl => by cases hr; exact W.iret C.1 C.2.1 C.ret (fun t ht hW => ⟨⟨v, (), rfl, rfl, by rw [ht]; exact hG.1, hG.2.1⟩, hG.2.2.F ht⟩) hG.2.2.2.2 hd C.locks
theorem j_iretw (C : Cx κ cc own rm (some .int)) {v : Int32} (hd : decode cc pc = .ok (.ireturn, 1)) : JF κ (PQ κ (Q_iw (kγ κ) E) cn sn) pc lv [.int v] E M L cn sn (some (v, M, L)) :=
  fun r hr H locs ls hG hl => by cases hr; exact W.iret C.1 C.2.1 C.ret (fun t ht hW => ⟨⟨v, (), rfl, rfl, by rw [ht]; exact hG.1, hG.2.1⟩, hG.2.2.F ht⟩) hG.2.2.2.2 hd C.locks
theorem j_zret (C : Cx κ cc own rm (some .boolean)) {v : Int32} (hd : decode cc pc = .ok (.ireturn, 1)) : JF κ (PQ κ (Q_i (kγ κ) E M L) cn sn) pc lv [.int v] E M L cn sn (rz v) :=
  fun r hr H locs ls hG hl => by
    unfold rz at hr
    by_cases h : v = 0 ∨ v = 1
    · rw [if_pos h] at hr; cases hr; exact W.zret C.1 C.2.1 C.ret (nar_z h) (fun t ht hW => ⟨⟨v, (), rfl, rfl, by rw [ht]; exact hG.1, hG.2.1⟩, hG.2.2.F ht⟩) hG.2.2.2.2 hd C.locks
    · rw [if_neg h] at hr; cases hr
theorem j_zretw (C : Cx κ cc own rm (some .boolean)) {v : Int32} (hd : decode cc pc = .ok (.ireturn, 1)) : JF κ (PQ κ (Q_iw (kγ κ) E) cn sn) pc lv [.int v] E M L cn sn (rzw v M L) :=
  fun r hr H locs ls hG hl => by
    unfold rzw at hr
    by_cases h : v = 0 ∨ v = 1
    · rw [if_pos h] at hr; cases hr; exact W.zret C.1 C.2.1 C.ret (nar_z h) (fun t ht hW => ⟨⟨v, (), rfl, rfl, by rw [ht]; exact hG.1, hG.2.1⟩, hG.2.2.F ht⟩) hG.2.2.2.2 hd C.locks
    · rw [if_neg h] at hr; cases hr
theorem j_lret (C : Cx κ cc own rm (some .long)) {v : Int64} (hd : decode cc pc = .ok (.lreturn, 1)) : JF κ (PQ κ (Q_l (kγ κ) E M L) cn sn) pc lv [.long v] E M L cn sn (some v) :=
  fun r hr H locs ls hG hl => by cases hr; exact W.lret C.1 C.2.1 C.ret (fun t ht hW => ⟨⟨v, (), rfl, rfl, by rw [ht]; exact hG.1, hG.2.1⟩, hG.2.2.F ht⟩) hG.2.2.2.2 hd C.locks
theorem j_lretw (C : Cx κ cc own rm (some .long)) {v : Int64} (hd : decode cc pc = .ok (.lreturn, 1)) : JF κ (PQ κ (Q_lw (kγ κ) E) cn sn) pc lv [.long v] E M L cn sn (some (v, M, L)) :=
  fun r hr H locs ls hG hl => by cases hr; exact W.lret C.1 C.2.1 C.ret (fun t ht hW => ⟨⟨v, (), rfl, rfl, by rw [ht]; exact hG.1, hG.2.1⟩, hG.2.2.F ht⟩) hG.2.2.2.2 hd C.locks
theorem j_vretw (C : Cx κ cc own rm none) (hd : decode cc pc = .ok (.return_, 1)) : JF κ (PQ κ (Q_vw (kγ κ) E) cn sn) pc lv [] E M L cn sn (some (M, L)) :=
  fun r hr H locs ls hG hl => by cases hr; exact W.vret C.1 C.2.1 C.ret (fun t ht hW => ⟨⟨(), rfl, trivial, by rw [ht]; exact hG.1, hG.2.1⟩, hG.2.2.F ht⟩) hG.2.2.2.2 hd C.locks
theorem j_vret (C : Cx κ cc own rm none) (hd : decode cc pc = .ok (.return_, 1)) : JF κ (PQ κ (Q_v (kγ κ) E M L) cn sn) pc lv [] E M L cn sn (some ()) :=
  fun r hr H locs ls hG hl => by cases hr; exact W.vret C.1 C.2.1 C.ret (fun t ht hW => ⟨⟨(), rfl, trivial, by rw [ht]; exact hG.1, hG.2.1⟩, hG.2.2.F ht⟩) hG.2.2.2.2 hd C.locks
theorem j_aretO (C : Cx κ cc own rm (some (.object RX3))) {k : Nat} (hd : decode cc pc = .ok (.areturn, 1)) : JF κ (PQ κ (Q_o (kγ κ) E M L) cn sn) pc lv [.ref (E.2.1 k)] E M L cn sn (some (some k)) :=
  fun r hr H locs ls hG hl => by cases hr; exact W.aret C.1 C.2.1 C.ret (Or.inl ⟨_, rfl⟩) (Or.inr ⟨_, rfl⟩) (fun t ht hW => ⟨⟨some (E.2.1 k), (), rfl, rfl, by rw [ht]; exact hG.1, hG.2.1⟩, hG.2.2.F ht⟩) hG.2.2.2.2 hd C.locks
theorem j_aretN (C : Cx κ cc own rm (some (.object RX3))) (hd : decode cc pc = .ok (.areturn, 1)) : JF κ (PQ κ (Q_o (kγ κ) E M L) cn sn) pc lv [.null] E M L cn sn (some none) :=
  fun r hr H locs ls hG hl => by cases hr; exact W.aret C.1 C.2.1 C.ret (Or.inl ⟨_, rfl⟩) (Or.inl rfl) (fun t ht hW => ⟨⟨none, (), rfl, rfl, by rw [ht]; exact hG.1, hG.2.1⟩, hG.2.2.F ht⟩) hG.2.2.2.2 hd C.locks
end RT
/-! contracts -/
def Ct {ρ : Type} (γ : Gm) (y : MethodName) (cc : ByteArray) (nL : Nat) (ret : Option FieldType) (rm : Room) (avs : List Value) (E : Ev) (M : Mi) (L : Ml) (Q : ρ → Array Value → State → Outcome → State → Prop) (mc ms : Nat) (f : Option ρ) : Prop :=
  ∀ (l : Launch) (r : ρ), f = some r → Met l y (.code y cc nL ret :: TB) rm (va_Pc avs (PW γ E M L)) (Q r) mc ms (gA γ)
theorem ct_of {ρ : Type} {γ : Gm} {y : MethodName} {cc : ByteArray} {nL : Nat} {ret : Option FieldType} {rm : Room} {avs : List Value} {E : Ev} {M : Mi} {L : Ml} {Q : ρ → Array Value → State → Outcome → State → Prop} {mc ms : Nat} {f : Option ρ} {own : String} {lv : List (Option Value)}
    (hy : plainName y.cls = true) (hown : y.cls = own) (hlv : lo_args avs ++ List.replicate (nL - (lo_args avs).length) none = lv) (hlen : (lg_sl avs).length ≤ nL)
    (hJ : ∀ κ : Kx, Cx κ cc own rm ret → kγ κ = γ → knL κ = nL → JF κ (PQ κ Q mc ms) 0 lv [] E M L 0 0 f) : Ct γ y cc nL ret rm avs E M L Q mc ms f := by
  intro l r hr
  refine Met.ofW (cc := cc) (maxL := nL) (ret := ret) hy rfl ?_
  intro p e s m args below meth c s₁ B hml hv
  obtain ⟨rfl, hz, hP, hD, hK, hS⟩ := hv
  have hts := atoms_spec (ws := .code y cc nL ret :: TB) B.pre
  have C : Cx (γ, nL, p, l, e, rm, s, m, avs.toArray, below, meth, c) cc own rm ret := ⟨B.exec, B.bytes, hml, by rw [← hown]; exact findClass_of_methodNamed B.named, fun w hw => hts w (List.mem_cons_of_mem _ hw), hK, hS, hz, B.notSynchronized, rfl, B.returns⟩
  rw [lg_entry_eq]
  exact hJ (γ, nL, p, l, e, rm, s, m, avs.toArray, below, meth, c) C rfl rfl r hr s.heap [] _ ⟨hP, hD, va_S.rf⟩ (lo_entry avs hlen hlv)
theorem ct_ofF {ρ : Type} {γ : Gm} {y : MethodName} {cc : ByteArray} {nL : Nat} {ret : Option FieldType} {rm : Room} {avs : List Value} {E : Ev} {M : Mi} {L : Ml} {Q : ρ → Array Value → State → Outcome → State → Prop} {mc ms : Nat} {f : Option ρ} {own : String} {lv : List (Option Value)}
    (hy : plainFor y = true) (hown : y.cls = own) (hlv : lo_args avs ++ List.replicate (nL - (lo_args avs).length) none = lv) (hlen : (lg_sl avs).length ≤ nL)
    (hJ : ∀ κ : Kx, Cx κ cc own rm ret → kγ κ = γ → knL κ = nL → JF κ (PQ κ Q mc ms) 0 lv [] E M L 0 0 f) : Ct γ y cc nL ret rm avs E M L Q mc ms f := by
  intro l r hr
  refine va_MetF (cc := cc) (maxL := nL) (ret := ret) hy rfl ?_
  intro p e s m args below meth c s₁ B hml hv
  obtain ⟨rfl, hz, hP, hD, hK, hS⟩ := hv
  have hts := atoms_spec (ws := .code y cc nL ret :: TB) B.pre
  have C : Cx (γ, nL, p, l, e, rm, s, m, avs.toArray, below, meth, c) cc own rm ret := ⟨B.exec, B.bytes, hml, by rw [← hown]; exact findClass_of_methodNamed B.named, fun w hw => hts w (List.mem_cons_of_mem _ hw), hK, hS, hz, B.notSynchronized, rfl, B.returns⟩
  rw [lg_entry_eq]
  exact hJ (γ, nL, p, l, e, rm, s, m, avs.toArray, below, meth, c) C rfl rfl r hr s.heap [] _ ⟨hP, hD, va_S.rf⟩ (lo_entry avs hlen hlv)
theorem good_of {ws : List Cond} (h : ∀ w ∈ ws, w ∈ TB) : GoodIn TB ws := fun w hw => ⟨h w hw, good_of_word (List.mem_filter.mp (h w hw)).2⟩
def MV (Cn : String) (y : MethodName) (bytes : ByteArray) (maxL : Nat) (ret : Option FieldType) (n : Nat) : Prop := Cond.instanceMethod y ∈ TB ∧ Cond.selects Cn y y ∈ TB ∧ Cond.initialized Cn ∈ TB ∧ Cond.code y bytes maxL ret ∈ TB ∧ (y.cls = Cn ∧ y.cls ≠ "java/lang/invoke/MethodHandle" ∧ y.cls ≠ "java/lang/invoke/VarHandle" ∧ (parseMethodDescriptor y.desc).map (fun d => d.parameters.length) = some n)
def MS (y : MethodName) (bytes : ByteArray) (maxL : Nat) (ret : Option FieldType) (n : Nat) : Prop := Cond.static y ∈ TB ∧ Cond.initialized y.cls ∈ TB ∧ Cond.code y bytes maxL ret ∈ TB ∧ (y.cls ≠ "java/lang/invoke/MethodHandle" ∧ y.cls ≠ "java/lang/invoke/VarHandle" ∧ (parseMethodDescriptor y.desc).map (fun d => d.parameters.length) = some n)
section CL
variable {ρ : Type} {κ : Kx} {P : ρ → State → Prop} {cc : ByteArray} {own : String} {rm : Room} {ret : Option FieldType} {pc : Nat} {lv : List (Option Value)} {st stk : List Value} {E : Ev} {M : Mi} {L : Ml} {cn sn : Nat} {f g : Option ρ}
variable {ρ' : Type} {y : MethodName} {bytes : ByteArray} {maxL mc ms n i k c N : Nat} {ry : Option FieldType} {rmc : Room} {As : List Value} {Q : ρ' → Array Value → State → Outcome → State → Prop} {fc : Option ρ'} {Cn : String} {T : u_T} {ty : Nat → FieldType} {v : ρ'} {H : Heap} {locs : List Loc} {ls : Array Slot}
abbrev RmOk (rmc rm : Room) (maxL mc ms cn sn : Nat) : Prop := (rmc.cells = mc ∧ rmc.slots = ms) ∧ (rmc.frames + 1 ≤ rm.frames ∧ 8 + (maxL + 11) + rmc.locals ≤ rm.locals) ∧ (cn + mc ≤ rm.cells ∧ sn + ms ≤ rm.slots)
theorem run_V (C : Cx κ cc own rm ret) (hct : Ct (kγ κ) y bytes maxL ry rmc (.ref (E.2.1 k) :: As) E M L Q mc ms fc) (mv : MV Cn y bytes maxL ry n) (hml : Cond.methodLink own i y ∈ TB) (F : FC c Cn T N ty) (hS : E.1[k]? = some (.inl c)) (hn : As.length = n) (hstk : stk = As.reverse ++ .ref (E.2.1 k) :: st) (hst : (st.map fun v => v.category).sum ≤ 8) (hrm : RmOk rmc rm maxL mc ms cn sn) (hd : decode cc pc = .ok (.invokevirtual i, 3)) (hv : fc = some v) (hG : GW κ E M L H locs) (hl : lo_has ls (knL κ) lv) :
    va_Run (kp κ) (kl κ) (ke κ) (kR κ) (ks κ) (km κ) (ka κ) (kb κ) (kmeth κ) (kc κ) H locs cn sn mc ms (F0 (km κ) pc ls stk) st (Q v (Value.ref (E.2.1 k) :: As).toArray) (gA (kγ κ)) := by
  subst hstk
  refine va_runV C.fix (hct (kl κ) v hv) (cwV n C.ts (good_of ?_) rfl hrm.1.1 hrm.1.2 mv.2.2.2.2 (by rw [C.R]; exact hrm.2.1)) ⟨PW.blind, va_recv C.K hG.1 F.1 (wd_obj hS _), fun U hU hW => ⟨rfl, hG.pw C hU hW⟩⟩ rfl hn hl.1 rfl (lv_room hst) hd (by rw [C.R]; exact hrm.2.2)
  intro w hw
  simp only [wsV, List.cons_append, List.nil_append, List.mem_cons] at hw
  rcases hw with rfl | rfl | rfl | rfl | rfl | hw
  · exact hml
  · exact mv.1
  · exact mv.2.1
  · exact mv.2.2.1
  · exact mv.2.2.2.1
  · exact hw
theorem run_S (C : Cx κ cc own rm ret) (hct : Ct (kγ κ) y bytes maxL ry rmc As E M L Q mc ms fc) (mv : MS y bytes maxL ry n) (hml : Cond.methodLink own i y ∈ TB) (hn : As.length = n) (hstk : stk = As.reverse ++ st) (hst : (st.map fun v => v.category).sum ≤ 8) (hrm : RmOk rmc rm maxL mc ms cn sn) (hd : decode cc pc = .ok (.invokestatic i, 3)) (hv : fc = some v) (hG : GW κ E M L H locs) (hl : lo_has ls (knL κ) lv) :
    va_Run (kp κ) (kl κ) (ke κ) (kR κ) (ks κ) (km κ) (ka κ) (kb κ) (kmeth κ) (kc κ) H locs cn sn mc ms (F0 (km κ) pc ls stk) st (Q v As.toArray) (gA (kγ κ)) := by
  subst hstk
  refine va_runS C.fix (hct (kl κ) v hv) (va_cwS n C.ts (good_of ?_) rfl hrm.1.1 hrm.1.2 mv.2.2.2 (by rw [C.R]; exact hrm.2.1)) ⟨PW.blind, fun U hU hW => ⟨rfl, hG.pw C hU hW⟩⟩ rfl hn hl.1 rfl (lv_room hst) hd (by rw [C.R]; exact hrm.2.2)
  intro w hw
  simp only [va_wsS, List.cons_append, List.nil_append, List.mem_cons] at hw
  rcases hw with rfl | rfl | rfl | rfl | hw
  · exact hml
  · exact mv.1
  · exact mv.2.1
  · exact mv.2.2.1
  · exact hw
theorem run_N (C : Cx κ cc own rm ret) {host : String} (hct : Ct (kγ κ) y bytes maxL ry rmc As E M L Q mc ms fc) (mv : MS y bytes maxL ry n) (hml : NW (ks κ) → va_Nw (.methodLinkNest own i y host) (ks κ)) (hn : As.length = n) (hstk : stk = As.reverse ++ st) (hst : (st.map fun v => v.category).sum ≤ 8) (hrm : RmOk rmc rm maxL mc ms cn sn) (hd : decode cc pc = .ok (.invokestatic i, 3)) (hv : fc = some v) (hG : GW κ E M L H locs) (hl : lo_has ls (knL κ) lv) :
    va_Run (kp κ) (kl κ) (ke κ) (kR κ) (ks κ) (km κ) (ka κ) (kb κ) (kmeth κ) (kc κ) H locs cn sn mc ms (F0 (km κ) pc ls stk) st (Q v As.toArray) (gA (kγ κ)) := by
  subst hstk
  refine va_runSN C.fix (hct (kl κ) v hv) ⟨va_cnB n C.ts (good_of ?_) rfl hrm.1.1 hrm.1.2 (hml C.stat.1) (C.w mv.2.1) mv.2.2.2 (by rw [C.R]; exact hrm.2.1), C.w mv.1, trivial⟩ ⟨PW.blind, fun U hU hW => ⟨rfl, hG.pw C hU hW⟩⟩ rfl hn hl.1 rfl (lv_room hst) hd (by rw [C.R]; exact hrm.2.2)
  intro w hw
  simp only [List.mem_cons] at hw
  rcases hw with rfl | hw
  · exact mv.2.2.1
  · exact hw
theorem j_callV_i (C : Cx κ cc own rm ret) {fc : Option (Int32)} {g : Int32 → Option ρ} (hd : decode cc pc = .ok (.invokevirtual i, 3)) (hct : Ct (kγ κ) y bytes maxL ry rmc (.ref (E.2.1 k) :: As) E M L (Q_i (kγ κ) E M L) 0 0 fc) (mv : MV Cn y bytes maxL ry n) (hml : Cond.methodLink own i y ∈ TB) (F : FC c Cn T N ty) (hS : E.1[k]? = some (.inl c)) (hn : As.length = n) (hstk : stk = As.reverse ++ .ref (E.2.1 k) :: st) (hst : (st.map fun v => v.category).sum ≤ 8) (hrm : RmOk rmc rm maxL 0 0 cn sn) (kk : ∀ v, JF κ P (pc + 3) lv (.int v :: st) E (M) (L) cn sn (g v)) : JF κ P pc lv stk E M L cn sn (fc.bind g) := fun r hr H locs ls hG hl => by
  cases hf : fc with
  | none => rw [hf] at hr; cases hr
  | some v =>
    rw [hf, Option.bind_some] at hr
    have hrun := run_V C hct mv hml F hS hn hstk hst hrm hd hf hG hl
    refine va_calli hrun hG.2.2 (fun q _ h => h) (fun q h => h) (fun r2 u t H1 locs1 ht hvm hw hB hz1 hk1 hS1 => ?_)
    subst hw
    have hB1 := hB.1
    rw [ht] at hB1
    exact kk _ r hr H1 locs1 ls ⟨hB1, hB.2, hS1⟩ hl
theorem j_callV_iw (C : Cx κ cc own rm ret) {fc : Option (Int32 × Mi × Ml)} {g : Int32 × Mi × Ml → Option ρ} (hd : decode cc pc = .ok (.invokevirtual i, 3)) (hct : Ct (kγ κ) y bytes maxL ry rmc (.ref (E.2.1 k) :: As) E M L (Q_iw (kγ κ) E) 0 0 fc) (mv : MV Cn y bytes maxL ry n) (hml : Cond.methodLink own i y ∈ TB) (F : FC c Cn T N ty) (hS : E.1[k]? = some (.inl c)) (hn : As.length = n) (hstk : stk = As.reverse ++ .ref (E.2.1 k) :: st) (hst : (st.map fun v => v.category).sum ≤ 8) (hrm : RmOk rmc rm maxL 0 0 cn sn) (kk : ∀ v, JF κ P (pc + 3) lv (.int v.1 :: st) E (v.2.1) (v.2.2) cn sn (g v)) : JF κ P pc lv stk E M L cn sn (fc.bind g) := fun r hr H locs ls hG hl => by
  cases hf : fc with
  | none => rw [hf] at hr; cases hr
  | some v =>
    rw [hf, Option.bind_some] at hr
    have hrun := run_V C hct mv hml F hS hn hstk hst hrm hd hf hG hl
    refine va_calli hrun hG.2.2 (fun q _ h => h) (fun q h => h) (fun r2 u t H1 locs1 ht hvm hw hB hz1 hk1 hS1 => ?_)
    subst hw
    have hB1 := hB.1
    rw [ht] at hB1
    exact kk _ r hr H1 locs1 ls ⟨hB1, hB.2, hS1⟩ hl
theorem j_callV_l (C : Cx κ cc own rm ret) {fc : Option (Int64)} {g : Int64 → Option ρ} (hd : decode cc pc = .ok (.invokevirtual i, 3)) (hct : Ct (kγ κ) y bytes maxL ry rmc (.ref (E.2.1 k) :: As) E M L (Q_l (kγ κ) E M L) 0 0 fc) (mv : MV Cn y bytes maxL ry n) (hml : Cond.methodLink own i y ∈ TB) (F : FC c Cn T N ty) (hS : E.1[k]? = some (.inl c)) (hn : As.length = n) (hstk : stk = As.reverse ++ .ref (E.2.1 k) :: st) (hst : (st.map fun v => v.category).sum ≤ 8) (hrm : RmOk rmc rm maxL 0 0 cn sn) (kk : ∀ v, JF κ P (pc + 3) lv (.long v :: st) E (M) (L) cn sn (g v)) : JF κ P pc lv stk E M L cn sn (fc.bind g) := fun r hr H locs ls hG hl => by
  cases hf : fc with
  | none => rw [hf] at hr; cases hr
  | some v =>
    rw [hf, Option.bind_some] at hr
    have hrun := run_V C hct mv hml F hS hn hstk hst hrm hd hf hG hl
    refine va_calll hrun hG.2.2 (fun q _ h => h) (fun q h => h) (fun r2 u t H1 locs1 ht hvm hw hB hz1 hk1 hS1 => ?_)
    subst hw
    have hB1 := hB.1
    rw [ht] at hB1
    exact kk _ r hr H1 locs1 ls ⟨hB1, hB.2, hS1⟩ hl
theorem j_callV_lw (C : Cx κ cc own rm ret) {fc : Option (Int64 × Mi × Ml)} {g : Int64 × Mi × Ml → Option ρ} (hd : decode cc pc = .ok (.invokevirtual i, 3)) (hct : Ct (kγ κ) y bytes maxL ry rmc (.ref (E.2.1 k) :: As) E M L (Q_lw (kγ κ) E) 0 0 fc) (mv : MV Cn y bytes maxL ry n) (hml : Cond.methodLink own i y ∈ TB) (F : FC c Cn T N ty) (hS : E.1[k]? = some (.inl c)) (hn : As.length = n) (hstk : stk = As.reverse ++ .ref (E.2.1 k) :: st) (hst : (st.map fun v => v.category).sum ≤ 8) (hrm : RmOk rmc rm maxL 0 0 cn sn) (kk : ∀ v, JF κ P (pc + 3) lv (.long v.1 :: st) E (v.2.1) (v.2.2) cn sn (g v)) : JF κ P pc lv stk E M L cn sn (fc.bind g) := fun r hr H locs ls hG hl => by
  cases hf : fc with
  | none => rw [hf] at hr; cases hr
  | some v =>
    rw [hf, Option.bind_some] at hr
    have hrun := run_V C hct mv hml F hS hn hstk hst hrm hd hf hG hl
    refine va_calll hrun hG.2.2 (fun q _ h => h) (fun q h => h) (fun r2 u t H1 locs1 ht hvm hw hB hz1 hk1 hS1 => ?_)
    subst hw
    have hB1 := hB.1
    rw [ht] at hB1
    exact kk _ r hr H1 locs1 ls ⟨hB1, hB.2, hS1⟩ hl
theorem j_callV_vw (C : Cx κ cc own rm ret) {fc : Option (Mi × Ml)} {g : Mi × Ml → Option ρ} (hd : decode cc pc = .ok (.invokevirtual i, 3)) (hct : Ct (kγ κ) y bytes maxL ry rmc (.ref (E.2.1 k) :: As) E M L (Q_vw (kγ κ) E) 0 0 fc) (mv : MV Cn y bytes maxL ry n) (hml : Cond.methodLink own i y ∈ TB) (F : FC c Cn T N ty) (hS : E.1[k]? = some (.inl c)) (hn : As.length = n) (hstk : stk = As.reverse ++ .ref (E.2.1 k) :: st) (hst : (st.map fun v => v.category).sum ≤ 8) (hrm : RmOk rmc rm maxL 0 0 cn sn) (kk : ∀ v, JF κ P (pc + 3) lv (st) E (v.1) (v.2) cn sn (g v)) : JF κ P pc lv stk E M L cn sn (fc.bind g) := fun r hr H locs ls hG hl => by
  cases hf : fc with
  | none => rw [hf] at hr; cases hr
  | some v =>
    rw [hf, Option.bind_some] at hr
    have hrun := run_V C hct mv hml F hS hn hstk hst hrm hd hf hG hl
    refine va_callv hrun hG.2.2 (fun q _ h => h) (fun q h => h) (fun u t H1 locs1 ht hvm hw hB hz1 hk1 hS1 => ?_)
    have hB1 := hB.1
    rw [ht] at hB1
    exact kk _ r hr H1 locs1 ls ⟨hB1, hB.2, hS1⟩ hl
theorem j_callV_v (C : Cx κ cc own rm ret) {fc : Option (Unit)} {g : Unit → Option ρ} (hd : decode cc pc = .ok (.invokevirtual i, 3)) (hct : Ct (kγ κ) y bytes maxL ry rmc (.ref (E.2.1 k) :: As) E M L (Q_v (kγ κ) E M L) 0 0 fc) (mv : MV Cn y bytes maxL ry n) (hml : Cond.methodLink own i y ∈ TB) (F : FC c Cn T N ty) (hS : E.1[k]? = some (.inl c)) (hn : As.length = n) (hstk : stk = As.reverse ++ .ref (E.2.1 k) :: st) (hst : (st.map fun v => v.category).sum ≤ 8) (hrm : RmOk rmc rm maxL 0 0 cn sn) (kk : ∀ v, JF κ P (pc + 3) lv (st) E (M) (L) cn sn (g v)) : JF κ P pc lv stk E M L cn sn (fc.bind g) := fun r hr H locs ls hG hl => by
  cases hf : fc with
  | none => rw [hf] at hr; cases hr
  | some v =>
    rw [hf, Option.bind_some] at hr
    have hrun := run_V C hct mv hml F hS hn hstk hst hrm hd hf hG hl
    refine va_callv hrun hG.2.2 (fun q _ h => h) (fun q h => h) (fun u t H1 locs1 ht hvm hw hB hz1 hk1 hS1 => ?_)
    have hB1 := hB.1
    rw [ht] at hB1
    exact kk _ r hr H1 locs1 ls ⟨hB1, hB.2, hS1⟩ hl
theorem j_callV_o (C : Cx κ cc own rm ret) {fc : Option (Option Nat)} {g : Option Nat → Option ρ} (hd : decode cc pc = .ok (.invokevirtual i, 3)) (hct : Ct (kγ κ) y bytes maxL ry rmc (.ref (E.2.1 k) :: As) E M L (Q_o (kγ κ) E M L) 0 0 fc) (mv : MV Cn y bytes maxL ry n) (hml : Cond.methodLink own i y ∈ TB) (F : FC c Cn T N ty) (hS : E.1[k]? = some (.inl c)) (hn : As.length = n) (hstk : stk = As.reverse ++ .ref (E.2.1 k) :: st) (hst : (st.map fun v => v.category).sum ≤ 8) (hrm : RmOk rmc rm maxL 0 0 cn sn) (kk : ∀ v, JF κ P (pc + 3) lv (va_rf (v.map E.2.1) :: st) E (M) (L) cn sn (g v)) : JF κ P pc lv stk E M L cn sn (fc.bind g) := fun r hr H locs ls hG hl => by
  cases hf : fc with
  | none => rw [hf] at hr; cases hr
  | some v =>
    rw [hf, Option.bind_some] at hr
    have hrun := run_V C hct mv hml F hS hn hstk hst hrm hd hf hG hl
    refine va_callq hrun hG.2.2 (fun q _ h => h) (fun q h => h) (fun r2 u t H1 locs1 ht hvm hw hB hz1 hk1 hS1 => ?_)
    subst hw
    have hB1 := hB.1
    rw [ht] at hB1
    exact kk _ r hr H1 locs1 ls ⟨hB1, hB.2, hS1⟩ hl
theorem j_callS_i (C : Cx κ cc own rm ret) {fc : Option (Int32)} {g : Int32 → Option ρ} (hd : decode cc pc = .ok (.invokestatic i, 3)) (hct : Ct (kγ κ) y bytes maxL ry rmc As E M L (Q_i (kγ κ) E M L) 0 0 fc) (mv : MS y bytes maxL ry n) (hml : Cond.methodLink own i y ∈ TB) (hn : As.length = n) (hstk : stk = As.reverse ++ st) (hst : (st.map fun v => v.category).sum ≤ 8) (hrm : RmOk rmc rm maxL 0 0 cn sn) (kk : ∀ v, JF κ P (pc + 3) lv (.int v :: st) E (M) (L) cn sn (g v)) : JF κ P pc lv stk E M L cn sn (fc.bind g) := fun r hr H locs ls hG hl => by
  cases hf : fc with
  | none => rw [hf] at hr; cases hr
  | some v =>
    rw [hf, Option.bind_some] at hr
    have hrun := run_S C hct mv hml hn hstk hst hrm hd hf hG hl
    refine va_calli hrun hG.2.2 (fun q _ h => h) (fun q h => h) (fun r2 u t H1 locs1 ht hvm hw hB hz1 hk1 hS1 => ?_)
    subst hw
    have hB1 := hB.1
    rw [ht] at hB1
    exact kk _ r hr H1 locs1 ls ⟨hB1, hB.2, hS1⟩ hl
theorem j_callS_iw (C : Cx κ cc own rm ret) {fc : Option (Int32 × Mi × Ml)} {g : Int32 × Mi × Ml → Option ρ} (hd : decode cc pc = .ok (.invokestatic i, 3)) (hct : Ct (kγ κ) y bytes maxL ry rmc As E M L (Q_iw (kγ κ) E) 0 0 fc) (mv : MS y bytes maxL ry n) (hml : Cond.methodLink own i y ∈ TB) (hn : As.length = n) (hstk : stk = As.reverse ++ st) (hst : (st.map fun v => v.category).sum ≤ 8) (hrm : RmOk rmc rm maxL 0 0 cn sn) (kk : ∀ v, JF κ P (pc + 3) lv (.int v.1 :: st) E (v.2.1) (v.2.2) cn sn (g v)) : JF κ P pc lv stk E M L cn sn (fc.bind g) := fun r hr H locs ls hG hl => by
  cases hf : fc with
  | none => rw [hf] at hr; cases hr
  | some v =>
    rw [hf, Option.bind_some] at hr
    have hrun := run_S C hct mv hml hn hstk hst hrm hd hf hG hl
    refine va_calli hrun hG.2.2 (fun q _ h => h) (fun q h => h) (fun r2 u t H1 locs1 ht hvm hw hB hz1 hk1 hS1 => ?_)
    subst hw
    have hB1 := hB.1
    rw [ht] at hB1
    exact kk _ r hr H1 locs1 ls ⟨hB1, hB.2, hS1⟩ hl
theorem j_callS_l (C : Cx κ cc own rm ret) {fc : Option (Int64)} {g : Int64 → Option ρ} (hd : decode cc pc = .ok (.invokestatic i, 3)) (hct : Ct (kγ κ) y bytes maxL ry rmc As E M L (Q_l (kγ κ) E M L) 0 0 fc) (mv : MS y bytes maxL ry n) (hml : Cond.methodLink own i y ∈ TB) (hn : As.length = n) (hstk : stk = As.reverse ++ st) (hst : (st.map fun v => v.category).sum ≤ 8) (hrm : RmOk rmc rm maxL 0 0 cn sn) (kk : ∀ v, JF κ P (pc + 3) lv (.long v :: st) E (M) (L) cn sn (g v)) : JF κ P pc lv stk E M L cn sn (fc.bind g) := fun r hr H locs ls hG hl => by
  cases hf : fc with
  | none => rw [hf] at hr; cases hr
  | some v =>
    rw [hf, Option.bind_some] at hr
    have hrun := run_S C hct mv hml hn hstk hst hrm hd hf hG hl
    refine va_calll hrun hG.2.2 (fun q _ h => h) (fun q h => h) (fun r2 u t H1 locs1 ht hvm hw hB hz1 hk1 hS1 => ?_)
    subst hw
    have hB1 := hB.1
    rw [ht] at hB1
    exact kk _ r hr H1 locs1 ls ⟨hB1, hB.2, hS1⟩ hl
theorem j_callS_lw (C : Cx κ cc own rm ret) {fc : Option (Int64 × Mi × Ml)} {g : Int64 × Mi × Ml → Option ρ} (hd : decode cc pc = .ok (.invokestatic i, 3)) (hct : Ct (kγ κ) y bytes maxL ry rmc As E M L (Q_lw (kγ κ) E) 0 0 fc) (mv : MS y bytes maxL ry n) (hml : Cond.methodLink own i y ∈ TB) (hn : As.length = n) (hstk : stk = As.reverse ++ st) (hst : (st.map fun v => v.category).sum ≤ 8) (hrm : RmOk rmc rm maxL 0 0 cn sn) (kk : ∀ v, JF κ P (pc + 3) lv (.long v.1 :: st) E (v.2.1) (v.2.2) cn sn (g v)) : JF κ P pc lv stk E M L cn sn (fc.bind g) := fun r hr H locs ls hG hl => by
  cases hf : fc with
  | none => rw [hf] at hr; cases hr
  | some v =>
    rw [hf, Option.bind_some] at hr
    have hrun := run_S C hct mv hml hn hstk hst hrm hd hf hG hl
    refine va_calll hrun hG.2.2 (fun q _ h => h) (fun q h => h) (fun r2 u t H1 locs1 ht hvm hw hB hz1 hk1 hS1 => ?_)
    subst hw
    have hB1 := hB.1
    rw [ht] at hB1
    exact kk _ r hr H1 locs1 ls ⟨hB1, hB.2, hS1⟩ hl
theorem j_callS_vw (C : Cx κ cc own rm ret) {fc : Option (Mi × Ml)} {g : Mi × Ml → Option ρ} (hd : decode cc pc = .ok (.invokestatic i, 3)) (hct : Ct (kγ κ) y bytes maxL ry rmc As E M L (Q_vw (kγ κ) E) 0 0 fc) (mv : MS y bytes maxL ry n) (hml : Cond.methodLink own i y ∈ TB) (hn : As.length = n) (hstk : stk = As.reverse ++ st) (hst : (st.map fun v => v.category).sum ≤ 8) (hrm : RmOk rmc rm maxL 0 0 cn sn) (kk : ∀ v, JF κ P (pc + 3) lv (st) E (v.1) (v.2) cn sn (g v)) : JF κ P pc lv stk E M L cn sn (fc.bind g) := fun r hr H locs ls hG hl => by
  cases hf : fc with
  | none => rw [hf] at hr; cases hr
  | some v =>
    rw [hf, Option.bind_some] at hr
    have hrun := run_S C hct mv hml hn hstk hst hrm hd hf hG hl
    refine va_callv hrun hG.2.2 (fun q _ h => h) (fun q h => h) (fun u t H1 locs1 ht hvm hw hB hz1 hk1 hS1 => ?_)
    have hB1 := hB.1
    rw [ht] at hB1
    exact kk _ r hr H1 locs1 ls ⟨hB1, hB.2, hS1⟩ hl
theorem j_callS_v (C : Cx κ cc own rm ret) {fc : Option (Unit)} {g : Unit → Option ρ} (hd : decode cc pc = .ok (.invokestatic i, 3)) (hct : Ct (kγ κ) y bytes maxL ry rmc As E M L (Q_v (kγ κ) E M L) 0 0 fc) (mv : MS y bytes maxL ry n) (hml : Cond.methodLink own i y ∈ TB) (hn : As.length = n) (hstk : stk = As.reverse ++ st) (hst : (st.map fun v => v.category).sum ≤ 8) (hrm : RmOk rmc rm maxL 0 0 cn sn) (kk : ∀ v, JF κ P (pc + 3) lv (st) E (M) (L) cn sn (g v)) : JF κ P pc lv stk E M L cn sn (fc.bind g) := fun r hr H locs ls hG hl => by
  cases hf : fc with
  | none => rw [hf] at hr; cases hr
  | some v =>
    rw [hf, Option.bind_some] at hr
    have hrun := run_S C hct mv hml hn hstk hst hrm hd hf hG hl
    refine va_callv hrun hG.2.2 (fun q _ h => h) (fun q h => h) (fun u t H1 locs1 ht hvm hw hB hz1 hk1 hS1 => ?_)
    have hB1 := hB.1
    rw [ht] at hB1
    exact kk _ r hr H1 locs1 ls ⟨hB1, hB.2, hS1⟩ hl
theorem j_callN_i (C : Cx κ cc own rm ret) {fc : Option (Int32)} {g : Int32 → Option ρ} (hd : decode cc pc = .ok (.invokestatic i, 3)) (hct : Ct (kγ κ) y bytes maxL ry rmc As E M L (Q_i (kγ κ) E M L) 0 0 fc) {host : String} (mv : MS y bytes maxL ry n) (hml : NW (ks κ) → va_Nw (.methodLinkNest own i y host) (ks κ)) (hn : As.length = n) (hstk : stk = As.reverse ++ st) (hst : (st.map fun v => v.category).sum ≤ 8) (hrm : RmOk rmc rm maxL 0 0 cn sn) (kk : ∀ v, JF κ P (pc + 3) lv (.int v :: st) E (M) (L) cn sn (g v)) : JF κ P pc lv stk E M L cn sn (fc.bind g) := fun r hr H locs ls hG hl => by
  cases hf : fc with
  | none => rw [hf] at hr; cases hr
  | some v =>
    rw [hf, Option.bind_some] at hr
    have hrun := run_N C hct mv hml hn hstk hst hrm hd hf hG hl
    refine va_calli hrun hG.2.2 (fun q _ h => h) (fun q h => h) (fun r2 u t H1 locs1 ht hvm hw hB hz1 hk1 hS1 => ?_)
    subst hw
    have hB1 := hB.1
    rw [ht] at hB1
    exact kk _ r hr H1 locs1 ls ⟨hB1, hB.2, hS1⟩ hl
theorem j_callN_iw (C : Cx κ cc own rm ret) {fc : Option (Int32 × Mi × Ml)} {g : Int32 × Mi × Ml → Option ρ} (hd : decode cc pc = .ok (.invokestatic i, 3)) (hct : Ct (kγ κ) y bytes maxL ry rmc As E M L (Q_iw (kγ κ) E) 0 0 fc) {host : String} (mv : MS y bytes maxL ry n) (hml : NW (ks κ) → va_Nw (.methodLinkNest own i y host) (ks κ)) (hn : As.length = n) (hstk : stk = As.reverse ++ st) (hst : (st.map fun v => v.category).sum ≤ 8) (hrm : RmOk rmc rm maxL 0 0 cn sn) (kk : ∀ v, JF κ P (pc + 3) lv (.int v.1 :: st) E (v.2.1) (v.2.2) cn sn (g v)) : JF κ P pc lv stk E M L cn sn (fc.bind g) := fun r hr H locs ls hG hl => by
  cases hf : fc with
  | none => rw [hf] at hr; cases hr
  | some v =>
    rw [hf, Option.bind_some] at hr
    have hrun := run_N C hct mv hml hn hstk hst hrm hd hf hG hl
    refine va_calli hrun hG.2.2 (fun q _ h => h) (fun q h => h) (fun r2 u t H1 locs1 ht hvm hw hB hz1 hk1 hS1 => ?_)
    subst hw
    have hB1 := hB.1
    rw [ht] at hB1
    exact kk _ r hr H1 locs1 ls ⟨hB1, hB.2, hS1⟩ hl
theorem j_callN_l (C : Cx κ cc own rm ret) {fc : Option (Int64)} {g : Int64 → Option ρ} (hd : decode cc pc = .ok (.invokestatic i, 3)) (hct : Ct (kγ κ) y bytes maxL ry rmc As E M L (Q_l (kγ κ) E M L) 0 0 fc) {host : String} (mv : MS y bytes maxL ry n) (hml : NW (ks κ) → va_Nw (.methodLinkNest own i y host) (ks κ)) (hn : As.length = n) (hstk : stk = As.reverse ++ st) (hst : (st.map fun v => v.category).sum ≤ 8) (hrm : RmOk rmc rm maxL 0 0 cn sn) (kk : ∀ v, JF κ P (pc + 3) lv (.long v :: st) E (M) (L) cn sn (g v)) : JF κ P pc lv stk E M L cn sn (fc.bind g) := fun r hr H locs ls hG hl => by
  cases hf : fc with
  | none => rw [hf] at hr; cases hr
  | some v =>
    rw [hf, Option.bind_some] at hr
    have hrun := run_N C hct mv hml hn hstk hst hrm hd hf hG hl
    refine va_calll hrun hG.2.2 (fun q _ h => h) (fun q h => h) (fun r2 u t H1 locs1 ht hvm hw hB hz1 hk1 hS1 => ?_)
    subst hw
    have hB1 := hB.1
    rw [ht] at hB1
    exact kk _ r hr H1 locs1 ls ⟨hB1, hB.2, hS1⟩ hl
theorem j_callN_lw (C : Cx κ cc own rm ret) {fc : Option (Int64 × Mi × Ml)} {g : Int64 × Mi × Ml → Option ρ} (hd : decode cc pc = .ok (.invokestatic i, 3)) (hct : Ct (kγ κ) y bytes maxL ry rmc As E M L (Q_lw (kγ κ) E) 0 0 fc) {host : String} (mv : MS y bytes maxL ry n) (hml : NW (ks κ) → va_Nw (.methodLinkNest own i y host) (ks κ)) (hn : As.length = n) (hstk : stk = As.reverse ++ st) (hst : (st.map fun v => v.category).sum ≤ 8) (hrm : RmOk rmc rm maxL 0 0 cn sn) (kk : ∀ v, JF κ P (pc + 3) lv (.long v.1 :: st) E (v.2.1) (v.2.2) cn sn (g v)) : JF κ P pc lv stk E M L cn sn (fc.bind g) := fun r hr H locs ls hG hl => by
  cases hf : fc with
  | none => rw [hf] at hr; cases hr
  | some v =>
    rw [hf, Option.bind_some] at hr
    have hrun := run_N C hct mv hml hn hstk hst hrm hd hf hG hl
    refine va_calll hrun hG.2.2 (fun q _ h => h) (fun q h => h) (fun r2 u t H1 locs1 ht hvm hw hB hz1 hk1 hS1 => ?_)
    subst hw
    have hB1 := hB.1
    rw [ht] at hB1
    exact kk _ r hr H1 locs1 ls ⟨hB1, hB.2, hS1⟩ hl
theorem j_callN_vw (C : Cx κ cc own rm ret) {fc : Option (Mi × Ml)} {g : Mi × Ml → Option ρ} (hd : decode cc pc = .ok (.invokestatic i, 3)) (hct : Ct (kγ κ) y bytes maxL ry rmc As E M L (Q_vw (kγ κ) E) 0 0 fc) {host : String} (mv : MS y bytes maxL ry n) (hml : NW (ks κ) → va_Nw (.methodLinkNest own i y host) (ks κ)) (hn : As.length = n) (hstk : stk = As.reverse ++ st) (hst : (st.map fun v => v.category).sum ≤ 8) (hrm : RmOk rmc rm maxL 0 0 cn sn) (kk : ∀ v, JF κ P (pc + 3) lv (st) E (v.1) (v.2) cn sn (g v)) : JF κ P pc lv stk E M L cn sn (fc.bind g) := fun r hr H locs ls hG hl => by
  cases hf : fc with
  | none => rw [hf] at hr; cases hr
  | some v =>
    rw [hf, Option.bind_some] at hr
    have hrun := run_N C hct mv hml hn hstk hst hrm hd hf hG hl
    refine va_callv hrun hG.2.2 (fun q _ h => h) (fun q h => h) (fun u t H1 locs1 ht hvm hw hB hz1 hk1 hS1 => ?_)
    have hB1 := hB.1
    rw [ht] at hB1
    exact kk _ r hr H1 locs1 ls ⟨hB1, hB.2, hS1⟩ hl
theorem j_callN_v (C : Cx κ cc own rm ret) {fc : Option (Unit)} {g : Unit → Option ρ} (hd : decode cc pc = .ok (.invokestatic i, 3)) (hct : Ct (kγ κ) y bytes maxL ry rmc As E M L (Q_v (kγ κ) E M L) 0 0 fc) {host : String} (mv : MS y bytes maxL ry n) (hml : NW (ks κ) → va_Nw (.methodLinkNest own i y host) (ks κ)) (hn : As.length = n) (hstk : stk = As.reverse ++ st) (hst : (st.map fun v => v.category).sum ≤ 8) (hrm : RmOk rmc rm maxL 0 0 cn sn) (kk : ∀ v, JF κ P (pc + 3) lv (st) E (M) (L) cn sn (g v)) : JF κ P pc lv stk E M L cn sn (fc.bind g) := fun r hr H locs ls hG hl => by
  cases hf : fc with
  | none => rw [hf] at hr; cases hr
  | some v =>
    rw [hf, Option.bind_some] at hr
    have hrun := run_N C hct mv hml hn hstk hst hrm hd hf hG hl
    refine va_callv hrun hG.2.2 (fun q _ h => h) (fun q h => h) (fun u t H1 locs1 ht hvm hw hB hz1 hk1 hS1 => ?_)
    have hB1 := hB.1
    rw [ht] at hB1
    exact kk _ r hr H1 locs1 ls ⟨hB1, hB.2, hS1⟩ hl
end CL
