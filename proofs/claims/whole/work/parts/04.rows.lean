/-! WHAT STAYS: nest words, static rows, String constants; the judgement and its rows -/
abbrev nw_0 : Cond := (Jvm.Cond.methodLinkNest "TilesOfLaw$Floor" (47 : Nat) ({ cls := "TilesOfLaw", name := "isIn", desc := "(JI)Z" } : Jvm.MethodName) "TilesOfLaw")
abbrev nw_1 : Cond := (Jvm.Cond.methodLinkNest "TilesOfLaw$Law" (85 : Nat) ({ cls := "TilesOfLaw", name := "isWithin", desc := "(II)Z" } : Jvm.MethodName) "TilesOfLaw")
abbrev nw_2 : Cond := (Jvm.Cond.methodLinkNest "TilesOfLaw$Law" (70 : Nat) ({ cls := "TilesOfLaw", name := "bounded", desc := "(III)I" } : Jvm.MethodName) "TilesOfLaw")
abbrev nw_3 : Cond := (Jvm.Cond.fieldLinkNest "TilesOfLaw$Floor" (66 : Nat) "TilesOfLaw" "PARTY_COLUMNS" "[I" "TilesOfLaw")
abbrev nw_4 : Cond := (Jvm.Cond.fieldLinkNest "TilesOfLaw$Floor" (69 : Nat) "TilesOfLaw" "PARTY_ROWS" "[I" "TilesOfLaw")
abbrev nw_5 : Cond := (Jvm.Cond.fieldLinkNest "TilesOfLaw$Floor" (72 : Nat) "TilesOfLaw" "ADVOCATE_COLUMNS" "[I" "TilesOfLaw")
abbrev nw_6 : Cond := (Jvm.Cond.fieldLinkNest "TilesOfLaw$Floor" (75 : Nat) "TilesOfLaw" "ADVOCATE_ROWS" "[I" "TilesOfLaw")
abbrev nw_7 : Cond := (Jvm.Cond.fieldLinkNest "TilesOfLaw$Floor" (78 : Nat) "TilesOfLaw" "CLERK_COLUMNS" "[I" "TilesOfLaw")
abbrev nw_8 : Cond := (Jvm.Cond.fieldLinkNest "TilesOfLaw$Floor" (81 : Nat) "TilesOfLaw" "CLERK_ROWS" "[I" "TilesOfLaw")
abbrev nw_9 : Cond := (Jvm.Cond.methodLinkNest "TilesOfLaw$Floor" (84 : Nat) ({ cls := "TilesOfLaw", name := "isWithin", desc := "(II)Z" } : Jvm.MethodName) "TilesOfLaw")
abbrev nw_c : Cond := Cond.castable "[I" "java/lang/Cloneable"
def sN : Nat → String
  | 0 => "UNDER"
  | 1 => "PARTY_COLUMNS"
  | 2 => "PARTY_ROWS"
  | 3 => "ADVOCATE_COLUMNS"
  | 4 => "ADVOCATE_ROWS"
  | 5 => "CLERK_COLUMNS"
  | _ => "CLERK_ROWS"
def sA : Nat → List Int32
  | 0 => [(-1), 0, 0, 1, 2, 0]
  | 1 => [1, 2, 2, 1, (-1), (-2), (-2), (-1)]
  | 2 => [2, 1, (-1), (-2), (-2), (-1), 1, 2]
  | 3 => [2, 2, (-2), (-2), (-1), (-2), (-2), (-1)]
  | 4 => [2, (-2), (-2), 2, (-2), (-1), 1, 2]
  | 5 => [0, 0, 1, 0, 0, 0, (-1), 0]
  | _ => [1, 0, 0, 0, (-1), 0, 0, 0]
def jO : Nat → String
  | 0 => "TilesOfLaw"
  | 1 => "TilesOfLaw$Reader"
  | 2 => "TilesOfLaw$Reader"
  | 3 => "TilesOfLaw$Reader"
  | 4 => "TilesOfLaw$Reader"
  | 5 => "TilesOfLaw$Reader"
  | 6 => "TilesOfLaw$Reader"
  | 7 => "TilesOfLaw$Reader"
  | 8 => "TilesOfLaw$Reader"
  | 9 => "TilesOfLaw$Reader"
  | 10 => "TilesOfLaw$Reader"
  | 11 => "TilesOfLaw$Reader"
  | _ => "TilesOfLaw$Reader"
def jI : Nat → Nat
  | 0 => 46
  | 1 => 103
  | 2 => 109
  | 3 => 111
  | 4 => 113
  | 5 => 114
  | 6 => 116
  | 7 => 118
  | 8 => 120
  | 9 => 122
  | 10 => 124
  | 11 => 126
  | _ => 128
def jX : Nat → String
  | 0 => "turns minute + number ; tires 3 ; rests 2 ;"
  | 1 => "weary"
  | 2 => "column"
  | 3 => "row"
  | 4 => "number"
  | 5 => "minute"
  | 6 => "worn"
  | 7 => "turns"
  | 8 => "tires"
  | 9 => "rests"
  | 10 => "or"
  | 11 => "and"
  | _ => "not"
def jB : List (List Int32) := [[116, 117, 114, 110, 115, 32, 109, 105, 110, 117, 116, 101, 32, 43, 32, 110, 117, 109, 98, 101, 114, 32, 59, 32, 116, 105, 114, 101, 115, 32, 51, 32, 59, 32, 114, 101, 115, 116, 115, 32, 50, 32, 59], [119, 101, 97, 114, 121], [99, 111, 108, 117, 109, 110], [114, 111, 119], [110, 117, 109, 98, 101, 114], [109, 105, 110, 117, 116, 101], [119, 111, 114, 110], [116, 117, 114, 110, 115], [116, 105, 114, 101, 115], [114, 101, 115, 116, 115], [111, 114], [97, 110, 100], [110, 111, 116]]
def jL : List Nat := [43, 5, 6, 3, 6, 6, 4, 5, 5, 5, 2, 3, 3]
abbrev Gm : Type := Nat × va_G × (Nat → ClassId) × va_W × (Nat → Nat) × (Nat → Nat) × (Nat → Nat)
abbrev gz (γ : Gm) : Nat := γ.1
abbrev gD (γ : Gm) : va_G := γ.2.1
abbrev gG (γ : Gm) : Nat → ClassId := γ.2.2.1
abbrev gW (γ : Gm) : va_W := γ.2.2.2.1
abbrev gT (γ : Gm) : Nat → Nat := γ.2.2.2.2.1
abbrev gK (γ : Gm) : Nat → Nat := γ.2.2.2.2.2.1
abbrev gV (γ : Gm) : Nat → Nat := γ.2.2.2.2.2.2
def tysG (G : Nat → ClassId) : List (ClassId × FieldType) := [(G 0, .int), (G 1, .boolean), (G 2, .object RX3), (G 3, .object RX4)]
def wdw (γ : Gm) (E : Ev) (M : Mi) (L : Ml) : va_W := wd (gG γ) E M L ++ gW γ
/-- ours: what lies above the heap's first size -/
abbrev gA (γ : Gm) : Nat → Prop := fun q => gz γ ≤ q
def NW (U : State) : Prop := va_Nw nw_0 U ∧ va_Nw nw_1 U ∧ va_Nw nw_2 U ∧ va_Nw nw_3 U ∧ va_Nw nw_4 U ∧ va_Nw nw_5 U ∧ va_Nw nw_6 U ∧ va_Nw nw_7 U ∧ va_Nw nw_8 U ∧ va_Nw nw_9 U ∧ va_Nw nw_c U
theorem NW.warm {s U : State} (hW : s.WarmedH U.vm) (h : NW s) : NW U := by
  obtain ⟨h0, h1, h2, h3, h4, h5, h6, h7, h8, h9, hc⟩ := h
  exact ⟨va_Nw.warmM hW h0, va_Nw.warmM hW h1, va_Nw.warmM hW h2, va_Nw.warmF hW h3, va_Nw.warmF hW h4, va_Nw.warmF hW h5, va_Nw.warmF hW h6, va_Nw.warmF hW h7, va_Nw.warmF hW h8, va_Nw.warmM hW h9, va_Nw.warmC hW hc⟩
def ST (γ : Gm) (U : State) (H : Heap) : Prop :=
  NW U ∧ (va_AO RX3 U ∧ va_AO RX4 U) ∧
  (∀ i, i < 7 → va_Z "TilesOfLaw" (sN i) "[I" (.ref (gT γ i)) (gA γ) U H ∧ va_T .int (gT γ i) (sA i).length (fun j => .int ((sA i).getD j 0)) (gA γ) U H) ∧
  (va_Z "java/lang/String" "COMPACT_STRINGS" "Z" (.int 1) (gA γ) U H ∧ va_Zq "jdk/internal/util/Preconditions" "SIOOBE_FORMATTER" "Ljava/util/function/BiFunction;" (gA γ) U H) ∧
  vk_S 13 jL jB (gK γ) (gV γ) (gA γ) U H ∧ (∀ i, i < 13 → vk_R (jO i) (jI i) (jX i) (gK γ i) U)
theorem ST.warm {γ : Gm} {s U : State} {H : Heap} (hW : s.WarmedH U.vm) (h : ST γ s H) : ST γ U H :=
  ⟨h.1.warm hW, ⟨h.2.1.1.moved hW.alike, h.2.1.2.moved hW.alike⟩, fun i hi => ⟨va_Z.moved hW.alike (h.2.2.1 i hi).1, va_T.moved hW.alike (h.2.2.1 i hi).2⟩, ⟨va_Z.moved hW.alike h.2.2.2.1.1, va_Zq.moved hW.alike h.2.2.2.1.2⟩, vk_S.moved hW.alike h.2.2.2.2.1, fun i hi => (h.2.2.2.2.2 i hi).warm hW⟩
theorem ST.kept {γ : Gm} {U : State} {H H1 : Heap} (h : ST γ U H) (hq : ∀ a : Nat, a < H.size → ¬ gA γ a → H1[a]? = H[a]?) : ST γ U H1 :=
  ⟨h.1, h.2.1, fun i hi => ⟨(h.2.2.1 i hi).1.kept hq, (h.2.2.1 i hi).2.kept hq⟩, ⟨h.2.2.2.1.1.kept hq, h.2.2.2.1.2.kept hq⟩, h.2.2.2.2.1.kept hq, h.2.2.2.2.2⟩
/-- a method's start -/
def PW (γ : Gm) (E : Ev) (M : Mi) (L : Ml) (U : State) : Prop := gz γ ≤ U.heap.size ∧ va_P (gD γ) vwCl (wdw γ E M L) U.heap ∧ va_D (gA γ) (wdw γ E M L) ∧ va_K (gD γ) vwCl (tysG (gG γ)) U ∧ ST γ U U.heap
/-- a method's end -/
def PX (γ : Gm) (E : Ev) (M : Mi) (L : Ml) (t : State) : Prop := va_P (gD γ) vwCl (wdw γ E M L) t.heap ∧ va_D (gA γ) (wdw γ E M L)
theorem PW.calling {γ : Gm} {E : Ev} {M : Mi} {L : Ml} {U : State} (h : PW γ E M L U) (g : JFrame) (mk : MethodId) (a : Array Value) : PW γ E M L (U.calling g mk a) :=
  ⟨h.1, h.2.1, h.2.2.1, va_K.moved (u := U) (U := U.calling g mk a) (Vm.Alike.refl U.vm) h.2.2.2.1, by
    obtain ⟨h1, h2, h3, h4, h5, h6⟩ := h.2.2.2.2
    refine ⟨?_, ⟨h2.1.moved (U := U.calling g mk a) (Vm.Alike.refl U.vm), h2.2.moved (U := U.calling g mk a) (Vm.Alike.refl U.vm)⟩, fun i hi => ⟨va_Z.moved (U := U.calling g mk a) (Vm.Alike.refl U.vm) (h3 i hi).1, va_T.moved (U := U.calling g mk a) (Vm.Alike.refl U.vm) (h3 i hi).2⟩, ⟨va_Z.moved (U := U.calling g mk a) (Vm.Alike.refl U.vm) h4.1, va_Zq.moved (U := U.calling g mk a) (Vm.Alike.refl U.vm) h4.2⟩, vk_S.moved (U := U.calling g mk a) (Vm.Alike.refl U.vm) h5, fun i hi => vk_R.same (u := U) rfl (h6 i hi)⟩
    unfold NW at h1 ⊢
    obtain ⟨h10, h11, h12, h13, h14, h15, h16, h17, h18, h19, hc⟩ := h1
    exact ⟨va_Nw.same rfl rfl h10, va_Nw.same rfl rfl h11, va_Nw.same rfl rfl h12, va_Nw.same rfl rfl h13, va_Nw.same rfl rfl h14, va_Nw.same rfl rfl h15, va_Nw.same rfl rfl h16, va_Nw.same rfl rfl h17, va_Nw.same rfl rfl h18, va_Nw.same rfl rfl h19, va_Nw.same rfl rfl hc⟩⟩
theorem PW.blind {γ : Gm} {E : Ev} {M : Mi} {L : Ml} {av : List Value} : FrameBlind (va_Pc av (PW γ E M L)) := fun a U g mk q => ⟨q.1, q.2.calling g mk a⟩
abbrev Kx : Type := Gm × Nat × Program × Launch × Env × Room × State × MethodId × Array Value × List Frame × Method × Code
abbrev kγ (κ : Kx) := κ.1
abbrev knL (κ : Kx) := κ.2.1
abbrev kp (κ : Kx) := κ.2.2.1
abbrev kl (κ : Kx) := κ.2.2.2.1
abbrev ke (κ : Kx) := κ.2.2.2.2.1
abbrev kR (κ : Kx) := κ.2.2.2.2.2.1
abbrev ks (κ : Kx) := κ.2.2.2.2.2.2.1
abbrev km (κ : Kx) := κ.2.2.2.2.2.2.2.1
abbrev ka (κ : Kx) := κ.2.2.2.2.2.2.2.2.1
abbrev kb (κ : Kx) := κ.2.2.2.2.2.2.2.2.2.1
abbrev kmeth (κ : Kx) := κ.2.2.2.2.2.2.2.2.2.2.1
abbrev kc (κ : Kx) := κ.2.2.2.2.2.2.2.2.2.2.2
def GW (κ : Kx) (E : Ev) (M : Mi) (L : Ml) (H : Heap) (locs : List Loc) : Prop := va_P (gD (kγ κ)) vwCl (wdw (kγ κ) E M L) H ∧ va_D (gA (kγ κ)) (wdw (kγ κ) E M L) ∧ va_S (gA (kγ κ)) (ks κ).heap H locs
/-- what holds all through a method -/
def Cx (κ : Kx) (cc : ByteArray) (own : String) (rm : Room) (ret : Option FieldType) : Prop :=
  (kp κ).tables.exec = Jvm.exec ∧ (kc κ).code = cc ∧ (kc κ).maxLocals = knL κ ∧ (ks κ).vm.findClass own = some (km κ).cls ∧ (∀ w ∈ TB, w.before (ka κ) (ks κ) = true) ∧
  va_K (gD (kγ κ)) vwCl (tysG (gG (kγ κ))) (ks κ) ∧ ST (kγ κ) (ks κ) (ks κ).heap ∧ gz (kγ κ) ≤ (ks κ).heap.size ∧ (kmeth κ).locks = false ∧ kR κ = rm ∧ (kmeth κ).sig.returnType = ret
def JF {ρ : Type} (κ : Kx) (P : ρ → State → Prop) (pc : Nat) (lv : List (Option Value)) (st : List Value) (E : Ev) (M : Mi) (L : Ml) (cn sn : Nat) (f : Option ρ) : Prop :=
  ∀ r, f = some r → ∀ (H : Heap) (locs : List Loc) (ls : Array Slot), GW κ E M L H locs → lo_has ls (knL κ) lv → W (kp κ) (kl κ) (ke κ) (kR κ) (ks κ) (km κ) (ka κ) (kb κ) (kmeth κ) (kc κ) H locs cn sn (P r) (F0 (km κ) pc ls st)
theorem Cx.ap {κ : Kx} {cc : ByteArray} {own : String} {rm : Room} {ret : Option FieldType} (C : Cx κ cc own rm ret) : ∀ q, (ks κ).heap.size ≤ q → gA (kγ κ) q := fun q h => Nat.le_trans C.2.2.2.2.2.2.2.1 h
theorem Cx.fix {κ : Kx} {cc : ByteArray} {own : String} {rm : Room} {ret : Option FieldType} (C : Cx κ cc own rm ret) : CallFix (kp κ) (km κ) (kc κ) cc (knL κ) (ks κ) (ka κ) TB own := ⟨C.1, C.2.1, C.2.2.1, C.2.2.2.1, C.2.2.2.2.1⟩
theorem Cx.w {κ : Kx} {cc : ByteArray} {own : String} {rm : Room} {ret : Option FieldType} (C : Cx κ cc own rm ret) {w : Cond} (h : w ∈ TB) : w.before (ka κ) (ks κ) = true := C.2.2.2.2.1 w h
theorem GW.pw {κ : Kx} {cc : ByteArray} {own : String} {rm : Room} {ret : Option FieldType} (C : Cx κ cc own rm ret) {E : Ev} {M : Mi} {L : Ml} {H : Heap} {locs : List Loc} (h : GW κ E M L H locs) {U : State} (hU : U.heap = H) (hW : (ks κ).WarmedH U.vm) : PW (kγ κ) E M L U := by
  subst hU
  refine ⟨Nat.le_trans C.2.2.2.2.2.2.2.1 h.2.2.1, h.1, h.2.1, va_K.moved hW.alike C.2.2.2.2.2.1, (C.2.2.2.2.2.2.1.warm hW).kept h.2.2.2.1⟩
section ROWS
variable {ρ : Type} {κ : Kx} {P : ρ → State → Prop} {cc : ByteArray} {own : String} {rm : Room} {ret : Option FieldType} {pc : Nat} {lv : List (Option Value)} {st : List Value} {E : Ev} {M : Mi} {L : Ml} {cn sn : Nat} {f g : Option ρ}
theorem jf_none : JF κ P pc lv st E M L cn sn none := fun r h => by cases h
theorem j_ite {c : Prop} [Decidable c] (k1 : c → JF κ P pc lv st E M L cn sn f) (k2 : ¬ c → JF κ P pc lv st E M L cn sn g) : JF κ P pc lv st E M L cn sn (if c then f else g) := fun r hr H locs ls hG hl => by
  by_cases h : c
  · rw [if_pos h] at hr; exact k1 h r hr H locs ls hG hl
  · rw [if_neg h] at hr; exact k2 h r hr H locs ls hG hl
theorem j_guard {c : Prop} [Decidable c] (k1 : c → JF κ P pc lv st E M L cn sn f) : JF κ P pc lv st E M L cn sn (if c then f else none) := j_ite k1 (fun _ => jf_none)
theorem j_lo {lv' : List (Option Value)} (hs : ∀ (i : Nat) (v : Value), lv'[i]? = some (some v) → lv[i]? = some (some v)) (k : JF κ P pc lv' st E M L cn sn f) : JF κ P pc lv st E M L cn sn f := fun r hr H locs ls hG hl => k r hr H locs ls hG (lo_sub hl hs)
theorem j_iconst (C : Cx κ cc own rm ret) {n : Int} {v : Int32} (hd : decode cc pc = .ok (.iconst n, 1)) (hv : Int32.ofInt n = v) (k : JF κ P (pc + 1) lv (.int v :: st) E M L cn sn f) : JF κ P pc lv st E M L cn sn f := fun r hr H locs ls hG hl => lv_iconst C.1 C.2.1 hd hv (k r hr H locs ls hG hl)
theorem j_bipush (C : Cx κ cc own rm ret) {n : Int} {v : Int32} (hd : decode cc pc = .ok (.bipush n, 2)) (hv : (Int8.ofInt n).toInt32 = v) (k : JF κ P (pc + 2) lv (.int v :: st) E M L cn sn f) : JF κ P pc lv st E M L cn sn f := fun r hr H locs ls hG hl => lv_bipush C.1 C.2.1 hd hv (k r hr H locs ls hG hl)
theorem j_sipush (C : Cx κ cc own rm ret) {n : Int} {v : Int32} (hd : decode cc pc = .ok (.sipush n, 3)) (hv : (Int16.ofInt n).toInt32 = v) (k : JF κ P (pc + 3) lv (.int v :: st) E M L cn sn f) : JF κ P pc lv st E M L cn sn f := fun r hr H locs ls hG hl => lv_sipush C.1 C.2.1 hd hv (k r hr H locs ls hG hl)
theorem j_lconst (C : Cx κ cc own rm ret) {n : Fin 2} {v : Int64} (hd : decode cc pc = .ok (.lconst n, 1)) (hv : Int64.ofNat (n : Nat) = v) (k : JF κ P (pc + 1) lv (.long v :: st) E M L cn sn f) : JF κ P pc lv st E M L cn sn f := fun r hr H locs ls hG hl => lv_lconst C.1 C.2.1 hd hv (k r hr H locs ls hG hl)
theorem j_ldc (C : Cx κ cc own rm ret) {i : Nat} {v : Int32} (hd : decode cc pc = .ok (.ldc i, 2)) (hw : Cond.constant own i v ∈ TB) (k : JF κ P (pc + 2) lv (.int v :: st) E M L cn sn f) : JF κ P pc lv st E M L cn sn f := fun r hr H locs ls hG hl => lv_ldc C.1 C.2.1 C.2.2.2.1 (C.w hw) hd (k r hr H locs ls hG hl)
theorem j_ldcw (C : Cx κ cc own rm ret) {i : Nat} {v : Int32} (hd : decode cc pc = .ok (.ldc_w i, 3)) (hw : Cond.constant own i v ∈ TB) (k : JF κ P (pc + 3) lv (.int v :: st) E M L cn sn f) : JF κ P pc lv st E M L cn sn f := fun r hr H locs ls hG hl => lv_ldcw C.1 C.2.1 C.2.2.2.1 (C.w hw) hd (k r hr H locs ls hG hl)
theorem j_ldc2 (C : Cx κ cc own rm ret) {i : Nat} {v : Int64} (hd : decode cc pc = .ok (.ldc2_w i, 3)) (hw : Cond.constantLong own i v ∈ TB) (k : JF κ P (pc + 3) lv (.long v :: st) E M L cn sn f) : JF κ P pc lv st E M L cn sn f := fun r hr H locs ls hG hl => lv_ldc2 C.1 C.2.1 C.2.2.2.1 (C.w hw) hd (k r hr H locs ls hG hl)
theorem j_null (C : Cx κ cc own rm ret) (hd : decode cc pc = .ok (.aconst_null, 1)) (k : JF κ P (pc + 1) lv (.null :: st) E M L cn sn f) : JF κ P pc lv st E M L cn sn f := fun r hr H locs ls hG hl => lv_null C.1 C.2.1 hd (k r hr H locs ls hG hl)
theorem j_ldcS (C : Cx κ cc own rm ret) {i : Nat} (hd : decode cc pc = .ok (.ldc (jI i), 2)) (hi : i < 13) (ho : jO i = own) (k : JF κ P (pc + 2) lv (.ref (gK (kγ κ) i) :: st) E M L cn sn f) : JF κ P pc lv st E M L cn sn f := fun r hr H locs ls hG hl => va_ldcS (tx := jX i) C.1 C.2.1 C.2.2.2.1 (by rw [← ho]; exact C.2.2.2.2.2.2.1.2.2.2.2.2 i hi) hd (k r hr H locs ls hG hl)
theorem j_iload_n (C : Cx κ cc own rm ret) {k0 : Fin 4} {i : Nat} {x : Int32} (hd : decode cc pc = .ok (.iload_n k0, 1)) (hi : (k0 : Nat) = i) (hx : lv[i]? = some (some (.int x))) (k : JF κ P (pc + 1) lv (.int x :: st) E M L cn sn f) : JF κ P pc lv st E M L cn sn f := fun r hr H locs ls hG hl => lv_iload_n C.1 C.2.1 hd hi (hl.2.2 _ _ hx) (k r hr H locs ls hG hl)
theorem j_iload (C : Cx κ cc own rm ret) {i : Nat} {x : Int32} (hd : decode cc pc = .ok (.iload i, 2)) (hx : lv[i]? = some (some (.int x))) (k : JF κ P (pc + 2) lv (.int x :: st) E M L cn sn f) : JF κ P pc lv st E M L cn sn f := fun r hr H locs ls hG hl => lv_iload C.1 C.2.1 hd (hl.2.2 _ _ hx) (k r hr H locs ls hG hl)
theorem j_lload_n (C : Cx κ cc own rm ret) {k0 : Fin 4} {i : Nat} {x : Int64} (hd : decode cc pc = .ok (.lload_n k0, 1)) (hi : (k0 : Nat) = i) (hx : lv[i]? = some (some (.long x))) (k : JF κ P (pc + 1) lv (.long x :: st) E M L cn sn f) : JF κ P pc lv st E M L cn sn f := fun r hr H locs ls hG hl => lv_lload_n C.1 C.2.1 hd hi (hl.2.2 _ _ hx) (k r hr H locs ls hG hl)
theorem j_lload (C : Cx κ cc own rm ret) {i : Nat} {x : Int64} (hd : decode cc pc = .ok (.lload i, 2)) (hx : lv[i]? = some (some (.long x))) (k : JF κ P (pc + 2) lv (.long x :: st) E M L cn sn f) : JF κ P pc lv st E M L cn sn f := fun r hr H locs ls hG hl => lv_lload C.1 C.2.1 hd (hl.2.2 _ _ hx) (k r hr H locs ls hG hl)
theorem j_aload_n (C : Cx κ cc own rm ret) {k0 : Fin 4} {i : Nat} {x : Nat} (hd : decode cc pc = .ok (.aload_n k0, 1)) (hi : (k0 : Nat) = i) (hx : lv[i]? = some (some (.ref x))) (k : JF κ P (pc + 1) lv (.ref x :: st) E M L cn sn f) : JF κ P pc lv st E M L cn sn f := fun r hr H locs ls hG hl => lv_aload_n C.1 C.2.1 hd hi (hl.2.2 _ _ hx) (k r hr H locs ls hG hl)
theorem j_aload (C : Cx κ cc own rm ret) {i : Nat} {x : Nat} (hd : decode cc pc = .ok (.aload i, 2)) (hx : lv[i]? = some (some (.ref x))) (k : JF κ P (pc + 2) lv (.ref x :: st) E M L cn sn f) : JF κ P pc lv st E M L cn sn f := fun r hr H locs ls hG hl => lv_aload C.1 C.2.1 hd (hl.2.2 _ _ hx) (k r hr H locs ls hG hl)
theorem j_aload_nN (C : Cx κ cc own rm ret) {k0 : Fin 4} {i : Nat} (hd : decode cc pc = .ok (.aload_n k0, 1)) (hi : (k0 : Nat) = i) (hx : lv[i]? = some (some .null)) (k : JF κ P (pc + 1) lv (.null :: st) E M L cn sn f) : JF κ P pc lv st E M L cn sn f := fun r hr H locs ls hG hl => lv_aload_nN C.1 C.2.1 hd hi (hl.2.2 _ _ hx) (k r hr H locs ls hG hl)
theorem j_aloadN (C : Cx κ cc own rm ret) {i : Nat} (hd : decode cc pc = .ok (.aload i, 2)) (hx : lv[i]? = some (some .null)) (k : JF κ P (pc + 2) lv (.null :: st) E M L cn sn f) : JF κ P pc lv st E M L cn sn f := fun r hr H locs ls hG hl => lv_aloadN C.1 C.2.1 hd (hl.2.2 _ _ hx) (k r hr H locs ls hG hl)
theorem j_istore_n (C : Cx κ cc own rm ret) {k0 : Fin 4} {i : Nat} {x : Int32} {lv' : List (Option Value)} (hd : decode cc pc = .ok (.istore_n k0, 1)) (hi : (k0 : Nat) = i) (hn : i < knL κ) (hs : lo_st lv i (.int x) = lv') (k : JF κ P (pc + 1) lv' st E M L cn sn f) : JF κ P pc lv (.int x :: st) E M L cn sn f := fun r hr H locs ls hG hl => lv_istore_n C.1 C.2.1 hd hi (lo_to hl) hn rfl (fun ls h => k r hr H locs ls hG (hs ▸ lo_of1 h))
theorem j_istore (C : Cx κ cc own rm ret) {i : Nat} {x : Int32} {lv' : List (Option Value)} (hd : decode cc pc = .ok (.istore i, 2)) (hn : i < knL κ) (hs : lo_st lv i (.int x) = lv') (k : JF κ P (pc + 2) lv' st E M L cn sn f) : JF κ P pc lv (.int x :: st) E M L cn sn f := fun r hr H locs ls hG hl => lv_istore C.1 C.2.1 hd (lo_to hl) hn rfl (fun ls h => k r hr H locs ls hG (hs ▸ lo_of1 h))
theorem j_astore_n (C : Cx κ cc own rm ret) {k0 : Fin 4} {i : Nat} {x : Nat} {lv' : List (Option Value)} (hd : decode cc pc = .ok (.astore_n k0, 1)) (hi : (k0 : Nat) = i) (hn : i < knL κ) (hs : lo_st lv i (.ref x) = lv') (k : JF κ P (pc + 1) lv' st E M L cn sn f) : JF κ P pc lv (.ref x :: st) E M L cn sn f := fun r hr H locs ls hG hl => lv_astore_n C.1 C.2.1 hd hi (lo_to hl) hn rfl (fun ls h => k r hr H locs ls hG (hs ▸ lo_of1 h))
theorem j_astore (C : Cx κ cc own rm ret) {i : Nat} {x : Nat} {lv' : List (Option Value)} (hd : decode cc pc = .ok (.astore i, 2)) (hn : i < knL κ) (hs : lo_st lv i (.ref x) = lv') (k : JF κ P (pc + 2) lv' st E M L cn sn f) : JF κ P pc lv (.ref x :: st) E M L cn sn f := fun r hr H locs ls hG hl => lv_astore C.1 C.2.1 hd (lo_to hl) hn rfl (fun ls h => k r hr H locs ls hG (hs ▸ lo_of1 h))
theorem j_lstore_n (C : Cx κ cc own rm ret) {k0 : Fin 4} {i : Nat} {x : Int64} {lv' : List (Option Value)} (hd : decode cc pc = .ok (.lstore_n k0, 1)) (hi : (k0 : Nat) = i) (hn : i + 1 < knL κ) (hs : lo_st2 lv i (.long x) = lv') (k : JF κ P (pc + 1) lv' st E M L cn sn f) : JF κ P pc lv (.long x :: st) E M L cn sn f := fun r hr H locs ls hG hl => lv_lstore_n C.1 C.2.1 hd hi (lo_to hl) hn rfl (fun ls h => k r hr H locs ls hG (hs ▸ lo_of2 h))
theorem j_lstore (C : Cx κ cc own rm ret) {i : Nat} {x : Int64} {lv' : List (Option Value)} (hd : decode cc pc = .ok (.lstore i, 2)) (hn : i + 1 < knL κ) (hs : lo_st2 lv i (.long x) = lv') (k : JF κ P (pc + 2) lv' st E M L cn sn f) : JF κ P pc lv (.long x :: st) E M L cn sn f := fun r hr H locs ls hG hl => lv_lstore C.1 C.2.1 hd (lo_to hl) hn rfl (fun ls h => k r hr H locs ls hG (hs ▸ lo_of2 h))
theorem j_astore_nN (C : Cx κ cc own rm ret) {k0 : Fin 4} {i : Nat} {lv' : List (Option Value)} (hd : decode cc pc = .ok (.astore_n k0, 1)) (hi : (k0 : Nat) = i) (hn : i < knL κ) (hs : lo_st lv i .null = lv') (k : JF κ P (pc + 1) lv' st E M L cn sn f) : JF κ P pc lv (.null :: st) E M L cn sn f := fun r hr H locs ls hG hl => lv_astore_nN C.1 C.2.1 hd hi (lo_to hl) hn rfl (fun ls h => k r hr H locs ls hG (hs ▸ lo_of1 h))
theorem j_astoreN (C : Cx κ cc own rm ret) {i : Nat} {lv' : List (Option Value)} (hd : decode cc pc = .ok (.astore i, 2)) (hn : i < knL κ) (hs : lo_st lv i .null = lv') (k : JF κ P (pc + 2) lv' st E M L cn sn f) : JF κ P pc lv (.null :: st) E M L cn sn f := fun r hr H locs ls hG hl => lv_astoreN C.1 C.2.1 hd (lo_to hl) hn rfl (fun ls h => k r hr H locs ls hG (hs ▸ lo_of1 h))
theorem j_iinc (C : Cx κ cc own rm ret) {i : Nat} {n : Int} {x v : Int32} {lv' : List (Option Value)} (hd : decode cc pc = .ok (.iinc i n, 3)) (hx : lv[i]? = some (some (.int x))) (hv : x + Int32.ofInt n = v) (hn : i < knL κ) (hs : lo_st lv i (.int v) = lv') (k : JF κ P (pc + 3) lv' st E M L cn sn f) : JF κ P pc lv st E M L cn sn f := fun r hr H locs ls hG hl => (by
  obtain ⟨q, hq⟩ := List.getElem?_of_mem (lo_al_mem.mpr hx)
  exact lv_iinc C.1 C.2.1 hd (lo_to hl) hq hv hn rfl (fun ls h => k r hr H locs ls hG (hs ▸ lo_of1 h)))
def irm (x y : Int32) : Int32 := x - x / y * y
def ishl (x y : Int32) : Int32 := x <<< (y &&& 31)
def iushr (x y : Int32) : Int32 := (x.toUInt32 >>> (y.toUInt32 &&& Int32.toUInt32 31)).toInt32
def lshl (x : Int64) (y : Int32) : Int64 := x <<< (y.toInt64 &&& 63)
def lushr (x : Int64) (y : Int32) : Int64 := (x.toUInt64 >>> (y.toInt64.toUInt64 &&& Int64.toUInt64 63)).toInt64
def lshr (x : Int64) (y : Int32) : Int64 := x >>> (y.toInt64 &&& 63)
def lrm (x y : Int64) : Int64 := x - x / y * y
theorem j_iadd (C : Cx κ cc own rm ret) {x y : Int32} (hd : decode cc pc = .ok (.iadd, 1)) (k : JF κ P (pc + 1) lv (.int (x + y) :: st) E M L cn sn f) : JF κ P pc lv (.int y :: .int x :: st) E M L cn sn f := fun r hr H locs ls hG hl => lv_iadd C.1 C.2.1 hd (k r hr H locs ls hG hl)
theorem j_isub (C : Cx κ cc own rm ret) {x y : Int32} (hd : decode cc pc = .ok (.isub, 1)) (k : JF κ P (pc + 1) lv (.int (x - y) :: st) E M L cn sn f) : JF κ P pc lv (.int y :: .int x :: st) E M L cn sn f := fun r hr H locs ls hG hl => lv_isub C.1 C.2.1 hd (k r hr H locs ls hG hl)
theorem j_imul (C : Cx κ cc own rm ret) {x y : Int32} (hd : decode cc pc = .ok (.imul, 1)) (k : JF κ P (pc + 1) lv (.int (x * y) :: st) E M L cn sn f) : JF κ P pc lv (.int y :: .int x :: st) E M L cn sn f := fun r hr H locs ls hG hl => lv_imul C.1 C.2.1 hd (k r hr H locs ls hG hl)
theorem j_iand (C : Cx κ cc own rm ret) {x y : Int32} (hd : decode cc pc = .ok (.iand, 1)) (k : JF κ P (pc + 1) lv (.int (x &&& y) :: st) E M L cn sn f) : JF κ P pc lv (.int y :: .int x :: st) E M L cn sn f := fun r hr H locs ls hG hl => lv_iand C.1 C.2.1 hd (k r hr H locs ls hG hl)
theorem j_ior (C : Cx κ cc own rm ret) {x y : Int32} (hd : decode cc pc = .ok (.ior, 1)) (k : JF κ P (pc + 1) lv (.int (x ||| y) :: st) E M L cn sn f) : JF κ P pc lv (.int y :: .int x :: st) E M L cn sn f := fun r hr H locs ls hG hl => lv_ior C.1 C.2.1 hd (k r hr H locs ls hG hl)
theorem j_ixor (C : Cx κ cc own rm ret) {x y : Int32} (hd : decode cc pc = .ok (.ixor, 1)) (k : JF κ P (pc + 1) lv (.int (x ^^^ y) :: st) E M L cn sn f) : JF κ P pc lv (.int y :: .int x :: st) E M L cn sn f := fun r hr H locs ls hG hl => lv_ixor C.1 C.2.1 hd (k r hr H locs ls hG hl)
theorem j_ishl (C : Cx κ cc own rm ret) {x y : Int32} (hd : decode cc pc = .ok (.ishl, 1)) (k : JF κ P (pc + 1) lv (.int (ishl x y) :: st) E M L cn sn f) : JF κ P pc lv (.int y :: .int x :: st) E M L cn sn f := fun r hr H locs ls hG hl => lv_ishl C.1 C.2.1 hd (k r hr H locs ls hG hl)
theorem j_iushr (C : Cx κ cc own rm ret) {x y : Int32} (hd : decode cc pc = .ok (.iushr, 1)) (k : JF κ P (pc + 1) lv (.int (iushr x y) :: st) E M L cn sn f) : JF κ P pc lv (.int y :: .int x :: st) E M L cn sn f := fun r hr H locs ls hG hl => lv_iushr C.1 C.2.1 hd rfl (k r hr H locs ls hG hl)
theorem j_ineg (C : Cx κ cc own rm ret) {x : Int32} (hd : decode cc pc = .ok (.ineg, 1)) (k : JF κ P (pc + 1) lv (.int (-x) :: st) E M L cn sn f) : JF κ P pc lv (.int x :: st) E M L cn sn f := fun r hr H locs ls hG hl => lv_ineg C.1 C.2.1 hd (k r hr H locs ls hG hl)
theorem j_idiv (C : Cx κ cc own rm ret) {x y : Int32} (hd : decode cc pc = .ok (.idiv, 1)) (k : JF κ P (pc + 1) lv (.int (x / y) :: st) E M L cn sn f) : JF κ P pc lv (.int y :: .int x :: st) E M L cn sn (if y = 0 then none else f) := fun r hr H locs ls hG hl => (by
  by_cases h : y = 0
  · rw [if_pos h] at hr; cases hr
  · rw [if_neg h] at hr; exact lv_idiv C.1 C.2.1 hd h (k r hr H locs ls hG hl))
theorem j_idivc (C : Cx κ cc own rm ret) {x y : Int32} (hd : decode cc pc = .ok (.idiv, 1)) (hy : ¬ y = 0) (k : JF κ P (pc + 1) lv (.int (x / y) :: st) E M L cn sn f) : JF κ P pc lv (.int y :: .int x :: st) E M L cn sn f := fun r hr H locs ls hG hl => lv_idiv C.1 C.2.1 hd hy (k r hr H locs ls hG hl)
theorem j_irem (C : Cx κ cc own rm ret) {x y : Int32} (hd : decode cc pc = .ok (.irem, 1)) (k : JF κ P (pc + 1) lv (.int (irm x y) :: st) E M L cn sn f) : JF κ P pc lv (.int y :: .int x :: st) E M L cn sn (if y = 0 then none else f) := fun r hr H locs ls hG hl => (by
  by_cases h : y = 0
  · rw [if_pos h] at hr; cases hr
  · rw [if_neg h] at hr; exact lv_irem C.1 C.2.1 hd h (k r hr H locs ls hG hl))
theorem j_iremc (C : Cx κ cc own rm ret) {x y : Int32} (hd : decode cc pc = .ok (.irem, 1)) (hy : ¬ y = 0) (k : JF κ P (pc + 1) lv (.int (irm x y) :: st) E M L cn sn f) : JF κ P pc lv (.int y :: .int x :: st) E M L cn sn f := fun r hr H locs ls hG hl => lv_irem C.1 C.2.1 hd hy (k r hr H locs ls hG hl)
theorem j_ldiv (C : Cx κ cc own rm ret) {x y : Int64} (hd : decode cc pc = .ok (.ldiv, 1)) (k : JF κ P (pc + 1) lv (.long (x / y) :: st) E M L cn sn f) : JF κ P pc lv (.long y :: .long x :: st) E M L cn sn (if y = 0 then none else f) := fun r hr H locs ls hG hl => (by
  by_cases h : y = 0
  · rw [if_pos h] at hr; cases hr
  · rw [if_neg h] at hr; exact lv_ldiv C.1 C.2.1 hd h (k r hr H locs ls hG hl))
theorem j_lrem (C : Cx κ cc own rm ret) {x y : Int64} (hd : decode cc pc = .ok (.lrem, 1)) (k : JF κ P (pc + 1) lv (.long (lrm x y) :: st) E M L cn sn f) : JF κ P pc lv (.long y :: .long x :: st) E M L cn sn (if y = 0 then none else f) := fun r hr H locs ls hG hl => (by
  by_cases h : y = 0
  · rw [if_pos h] at hr; cases hr
  · rw [if_neg h] at hr; exact lv_lrem C.1 C.2.1 hd h (k r hr H locs ls hG hl))
theorem j_ladd (C : Cx κ cc own rm ret) {x y : Int64} (hd : decode cc pc = .ok (.ladd, 1)) (k : JF κ P (pc + 1) lv (.long (x + y) :: st) E M L cn sn f) : JF κ P pc lv (.long y :: .long x :: st) E M L cn sn f := fun r hr H locs ls hG hl => lv_ladd C.1 C.2.1 hd (k r hr H locs ls hG hl)
theorem j_lsub (C : Cx κ cc own rm ret) {x y : Int64} (hd : decode cc pc = .ok (.lsub, 1)) (k : JF κ P (pc + 1) lv (.long (x - y) :: st) E M L cn sn f) : JF κ P pc lv (.long y :: .long x :: st) E M L cn sn f := fun r hr H locs ls hG hl => lv_lsub C.1 C.2.1 hd (k r hr H locs ls hG hl)
theorem j_lmul (C : Cx κ cc own rm ret) {x y : Int64} (hd : decode cc pc = .ok (.lmul, 1)) (k : JF κ P (pc + 1) lv (.long (x * y) :: st) E M L cn sn f) : JF κ P pc lv (.long y :: .long x :: st) E M L cn sn f := fun r hr H locs ls hG hl => lv_lmul C.1 C.2.1 hd (k r hr H locs ls hG hl)
theorem j_land (C : Cx κ cc own rm ret) {x y : Int64} (hd : decode cc pc = .ok (.land, 1)) (k : JF κ P (pc + 1) lv (.long (x &&& y) :: st) E M L cn sn f) : JF κ P pc lv (.long y :: .long x :: st) E M L cn sn f := fun r hr H locs ls hG hl => lv_land C.1 C.2.1 hd (k r hr H locs ls hG hl)
theorem j_lor (C : Cx κ cc own rm ret) {x y : Int64} (hd : decode cc pc = .ok (.lor, 1)) (k : JF κ P (pc + 1) lv (.long (x ||| y) :: st) E M L cn sn f) : JF κ P pc lv (.long y :: .long x :: st) E M L cn sn f := fun r hr H locs ls hG hl => lv_lor C.1 C.2.1 hd (k r hr H locs ls hG hl)
theorem j_lxor (C : Cx κ cc own rm ret) {x y : Int64} (hd : decode cc pc = .ok (.lxor, 1)) (k : JF κ P (pc + 1) lv (.long (x ^^^ y) :: st) E M L cn sn f) : JF κ P pc lv (.long y :: .long x :: st) E M L cn sn f := fun r hr H locs ls hG hl => lv_lxor C.1 C.2.1 hd (k r hr H locs ls hG hl)
theorem j_lshl (C : Cx κ cc own rm ret) {x : Int64} {y : Int32} (hd : decode cc pc = .ok (.lshl, 1)) (k : JF κ P (pc + 1) lv (.long (lshl x y) :: st) E M L cn sn f) : JF κ P pc lv (.int y :: .long x :: st) E M L cn sn f := fun r hr H locs ls hG hl => lv_lshl C.1 C.2.1 hd rfl (k r hr H locs ls hG hl)
theorem j_lushr (C : Cx κ cc own rm ret) {x : Int64} {y : Int32} (hd : decode cc pc = .ok (.lushr, 1)) (k : JF κ P (pc + 1) lv (.long (lushr x y) :: st) E M L cn sn f) : JF κ P pc lv (.int y :: .long x :: st) E M L cn sn f := fun r hr H locs ls hG hl => lv_lushr C.1 C.2.1 hd rfl (k r hr H locs ls hG hl)
theorem j_lshr (C : Cx κ cc own rm ret) {x : Int64} {y : Int32} (hd : decode cc pc = .ok (.lshr, 1)) (k : JF κ P (pc + 1) lv (.long (lshr x y) :: st) E M L cn sn f) : JF κ P pc lv (.int y :: .long x :: st) E M L cn sn f := fun r hr H locs ls hG hl => lv_lshr C.1 C.2.1 hd rfl (k r hr H locs ls hG hl)
theorem j_lcmp (C : Cx κ cc own rm ret) {x y : Int64} (hd : decode cc pc = .ok (.lcmp, 1)) (k : JF κ P (pc + 1) lv (.int (lg_cmp x y) :: st) E M L cn sn f) : JF κ P pc lv (.long y :: .long x :: st) E M L cn sn f := fun r hr H locs ls hG hl => W.lcmp C.1 C.2.1 hd (k r hr H locs ls hG hl)
theorem j_i2l (C : Cx κ cc own rm ret) {x : Int32} (hd : decode cc pc = .ok (.i2l, 1)) (k : JF κ P (pc + 1) lv (.long x.toInt64 :: st) E M L cn sn f) : JF κ P pc lv (.int x :: st) E M L cn sn f := fun r hr H locs ls hG hl => lv_i2l C.1 C.2.1 hd rfl (k r hr H locs ls hG hl)
theorem j_l2i (C : Cx κ cc own rm ret) {x : Int64} (hd : decode cc pc = .ok (.l2i, 1)) (k : JF κ P (pc + 1) lv (.int x.toInt32 :: st) E M L cn sn f) : JF κ P pc lv (.long x :: st) E M L cn sn f := fun r hr H locs ls hG hl => lv_l2i C.1 C.2.1 hd rfl (k r hr H locs ls hG hl)
theorem j_i2b (C : Cx κ cc own rm ret) {x : Int32} (hd : decode cc pc = .ok (.i2b, 1)) (k : JF κ P (pc + 1) lv (.int x.toInt8.toInt32 :: st) E M L cn sn f) : JF κ P pc lv (.int x :: st) E M L cn sn f := fun r hr H locs ls hG hl => lv_i2b C.1 C.2.1 hd rfl (k r hr H locs ls hG hl)
theorem j_i2s (C : Cx κ cc own rm ret) {x : Int32} (hd : decode cc pc = .ok (.i2s, 1)) (k : JF κ P (pc + 1) lv (.int x.toInt16.toInt32 :: st) E M L cn sn f) : JF κ P pc lv (.int x :: st) E M L cn sn f := fun r hr H locs ls hG hl => lv_i2s C.1 C.2.1 hd rfl (k r hr H locs ls hG hl)
theorem j_dup (C : Cx κ cc own rm ret) {va : Value} (hd : decode cc pc = .ok (.dup, 1)) (hc : va.category = 1) (k : JF κ P (pc + 1) lv (va :: va :: st) E M L cn sn f) : JF κ P pc lv (va :: st) E M L cn sn f := fun r hr H locs ls hG hl => lv_dup C.1 C.2.1 hd hc (k r hr H locs ls hG hl)
theorem j_pop (C : Cx κ cc own rm ret) {va : Value} (hd : decode cc pc = .ok (.pop, 1)) (hc : va.category = 1) (k : JF κ P (pc + 1) lv st E M L cn sn f) : JF κ P pc lv (va :: st) E M L cn sn f := fun r hr H locs ls hG hl => lv_pop C.1 C.2.1 hd hc (k r hr H locs ls hG hl)
theorem j_dup_x1 (C : Cx κ cc own rm ret) {va vb : Value} (hd : decode cc pc = .ok (.dup_x1, 1)) (hc : va.category = 1) (hc2 : vb.category = 1) (k : JF κ P (pc + 1) lv (va :: vb :: va :: st) E M L cn sn f) : JF κ P pc lv (va :: vb :: st) E M L cn sn f := fun r hr H locs ls hG hl => lv_dup_x1 C.1 C.2.1 hd hc hc2 (k r hr H locs ls hG hl)
theorem j_dup_x2 (C : Cx κ cc own rm ret) {va vb vd : Value} (hd : decode cc pc = .ok (.dup_x2, 1)) (hc : va.category = 1) (hc2 : vb.category = 1) (hc3 : vd.category = 1) (k : JF κ P (pc + 1) lv (va :: vb :: vd :: va :: st) E M L cn sn f) : JF κ P pc lv (va :: vb :: vd :: st) E M L cn sn f := fun r hr H locs ls hG hl => lv_dup_x2 C.1 C.2.1 hd hc hc2 hc3 (k r hr H locs ls hG hl)
theorem j_dup2 (C : Cx κ cc own rm ret) {va vb : Value} (hd : decode cc pc = .ok (.dup2, 1)) (hc : va.category = 1) (hc2 : vb.category = 1) (k : JF κ P (pc + 1) lv (va :: vb :: va :: vb :: st) E M L cn sn f) : JF κ P pc lv (va :: vb :: st) E M L cn sn f := fun r hr H locs ls hG hl => lv_dup2_11 C.1 C.2.1 hd hc hc2 (k r hr H locs ls hG hl)
-- x = 0 | ¬ x = 0
theorem j_if_eq (C : Cx κ cc own rm ret) {x : Int32} {off : Int} {tgt : Nat} (hd : decode cc pc = .ok (.ifCond .eq off, 3)) (ht : (pc : Int) + off = (tgt : Int)) (k1 : JF κ P tgt lv st E M L cn sn f) (k2 : JF κ P (pc + 3) lv st E M L cn sn g) : JF κ P pc lv (.int x :: st) E M L cn sn (if x = 0 then f else g) := fun r hr H locs ls hG hl => lv_if_eq C.1 C.2.1 hd ht (fun h => k1 r (by rw [if_pos h] at hr; exact hr) H locs ls hG hl) (fun h => k2 r (by rw [if_neg h] at hr; exact hr) H locs ls hG hl)
-- x = y | ¬ x = y
theorem j_icmp_eq (C : Cx κ cc own rm ret) {x y : Int32} {off : Int} {tgt : Nat} (hd : decode cc pc = .ok (.if_icmp .eq off, 3)) (ht : (pc : Int) + off = (tgt : Int)) (k1 : JF κ P tgt lv st E M L cn sn f) (k2 : JF κ P (pc + 3) lv st E M L cn sn g) : JF κ P pc lv (.int y :: .int x :: st) E M L cn sn (if x = y then f else g) := fun r hr H locs ls hG hl => lv_icmp_eq C.1 C.2.1 hd ht (fun h => k1 r (by rw [if_pos h] at hr; exact hr) H locs ls hG hl) (fun h => k2 r (by rw [if_neg h] at hr; exact hr) H locs ls hG hl)
-- ¬ x = 0 | x = 0
theorem j_if_ne (C : Cx κ cc own rm ret) {x : Int32} {off : Int} {tgt : Nat} (hd : decode cc pc = .ok (.ifCond .ne off, 3)) (ht : (pc : Int) + off = (tgt : Int)) (k1 : JF κ P tgt lv st E M L cn sn f) (k2 : JF κ P (pc + 3) lv st E M L cn sn g) : JF κ P pc lv (.int x :: st) E M L cn sn (if x = 0 then g else f) := fun r hr H locs ls hG hl => lv_if_ne C.1 C.2.1 hd ht (fun h => k1 r (by rw [if_neg h] at hr; exact hr) H locs ls hG hl) (fun h => k2 r (by rw [if_pos h] at hr; exact hr) H locs ls hG hl)
-- ¬ x = y | x = y
theorem j_icmp_ne (C : Cx κ cc own rm ret) {x y : Int32} {off : Int} {tgt : Nat} (hd : decode cc pc = .ok (.if_icmp .ne off, 3)) (ht : (pc : Int) + off = (tgt : Int)) (k1 : JF κ P tgt lv st E M L cn sn f) (k2 : JF κ P (pc + 3) lv st E M L cn sn g) : JF κ P pc lv (.int y :: .int x :: st) E M L cn sn (if x = y then g else f) := fun r hr H locs ls hG hl => lv_icmp_ne C.1 C.2.1 hd ht (fun h => k1 r (by rw [if_neg h] at hr; exact hr) H locs ls hG hl) (fun h => k2 r (by rw [if_pos h] at hr; exact hr) H locs ls hG hl)
-- x < 0 | ¬ x < 0
theorem j_if_lt (C : Cx κ cc own rm ret) {x : Int32} {off : Int} {tgt : Nat} (hd : decode cc pc = .ok (.ifCond .lt off, 3)) (ht : (pc : Int) + off = (tgt : Int)) (k1 : JF κ P tgt lv st E M L cn sn f) (k2 : JF κ P (pc + 3) lv st E M L cn sn g) : JF κ P pc lv (.int x :: st) E M L cn sn (if x < 0 then f else g) := fun r hr H locs ls hG hl => lv_if_lt C.1 C.2.1 hd ht (fun h => k1 r (by rw [if_pos h] at hr; exact hr) H locs ls hG hl) (fun h => k2 r (by rw [if_neg h] at hr; exact hr) H locs ls hG hl)
-- x < y | ¬ x < y
theorem j_icmp_lt (C : Cx κ cc own rm ret) {x y : Int32} {off : Int} {tgt : Nat} (hd : decode cc pc = .ok (.if_icmp .lt off, 3)) (ht : (pc : Int) + off = (tgt : Int)) (k1 : JF κ P tgt lv st E M L cn sn f) (k2 : JF κ P (pc + 3) lv st E M L cn sn g) : JF κ P pc lv (.int y :: .int x :: st) E M L cn sn (if x < y then f else g) := fun r hr H locs ls hG hl => lv_icmp_lt C.1 C.2.1 hd ht (fun h => k1 r (by rw [if_pos h] at hr; exact hr) H locs ls hG hl) (fun h => k2 r (by rw [if_neg h] at hr; exact hr) H locs ls hG hl)
-- 0 ≤ x | ¬ 0 ≤ x
theorem j_if_ge (C : Cx κ cc own rm ret) {x : Int32} {off : Int} {tgt : Nat} (hd : decode cc pc = .ok (.ifCond .ge off, 3)) (ht : (pc : Int) + off = (tgt : Int)) (k1 : JF κ P tgt lv st E M L cn sn f) (k2 : JF κ P (pc + 3) lv st E M L cn sn g) : JF κ P pc lv (.int x :: st) E M L cn sn (if 0 ≤ x then f else g) := fun r hr H locs ls hG hl => lv_if_ge C.1 C.2.1 hd ht (fun h => k1 r (by rw [if_pos h] at hr; exact hr) H locs ls hG hl) (fun h => k2 r (by rw [if_neg h] at hr; exact hr) H locs ls hG hl)
-- y ≤ x | ¬ y ≤ x
theorem j_icmp_ge (C : Cx κ cc own rm ret) {x y : Int32} {off : Int} {tgt : Nat} (hd : decode cc pc = .ok (.if_icmp .ge off, 3)) (ht : (pc : Int) + off = (tgt : Int)) (k1 : JF κ P tgt lv st E M L cn sn f) (k2 : JF κ P (pc + 3) lv st E M L cn sn g) : JF κ P pc lv (.int y :: .int x :: st) E M L cn sn (if y ≤ x then f else g) := fun r hr H locs ls hG hl => lv_icmp_ge C.1 C.2.1 hd ht (fun h => k1 r (by rw [if_pos h] at hr; exact hr) H locs ls hG hl) (fun h => k2 r (by rw [if_neg h] at hr; exact hr) H locs ls hG hl)
-- 0 < x | ¬ 0 < x
theorem j_if_gt (C : Cx κ cc own rm ret) {x : Int32} {off : Int} {tgt : Nat} (hd : decode cc pc = .ok (.ifCond .gt off, 3)) (ht : (pc : Int) + off = (tgt : Int)) (k1 : JF κ P tgt lv st E M L cn sn f) (k2 : JF κ P (pc + 3) lv st E M L cn sn g) : JF κ P pc lv (.int x :: st) E M L cn sn (if 0 < x then f else g) := fun r hr H locs ls hG hl => lv_if_gt C.1 C.2.1 hd ht (fun h => k1 r (by rw [if_pos h] at hr; exact hr) H locs ls hG hl) (fun h => k2 r (by rw [if_neg h] at hr; exact hr) H locs ls hG hl)
-- y < x | ¬ y < x
theorem j_icmp_gt (C : Cx κ cc own rm ret) {x y : Int32} {off : Int} {tgt : Nat} (hd : decode cc pc = .ok (.if_icmp .gt off, 3)) (ht : (pc : Int) + off = (tgt : Int)) (k1 : JF κ P tgt lv st E M L cn sn f) (k2 : JF κ P (pc + 3) lv st E M L cn sn g) : JF κ P pc lv (.int y :: .int x :: st) E M L cn sn (if y < x then f else g) := fun r hr H locs ls hG hl => lv_icmp_gt C.1 C.2.1 hd ht (fun h => k1 r (by rw [if_pos h] at hr; exact hr) H locs ls hG hl) (fun h => k2 r (by rw [if_neg h] at hr; exact hr) H locs ls hG hl)
-- x ≤ 0 | ¬ x ≤ 0
theorem j_if_le (C : Cx κ cc own rm ret) {x : Int32} {off : Int} {tgt : Nat} (hd : decode cc pc = .ok (.ifCond .le off, 3)) (ht : (pc : Int) + off = (tgt : Int)) (k1 : JF κ P tgt lv st E M L cn sn f) (k2 : JF κ P (pc + 3) lv st E M L cn sn g) : JF κ P pc lv (.int x :: st) E M L cn sn (if x ≤ 0 then f else g) := fun r hr H locs ls hG hl => lv_if_le C.1 C.2.1 hd ht (fun h => k1 r (by rw [if_pos h] at hr; exact hr) H locs ls hG hl) (fun h => k2 r (by rw [if_neg h] at hr; exact hr) H locs ls hG hl)
-- x ≤ y | ¬ x ≤ y
theorem j_icmp_le (C : Cx κ cc own rm ret) {x y : Int32} {off : Int} {tgt : Nat} (hd : decode cc pc = .ok (.if_icmp .le off, 3)) (ht : (pc : Int) + off = (tgt : Int)) (k1 : JF κ P tgt lv st E M L cn sn f) (k2 : JF κ P (pc + 3) lv st E M L cn sn g) : JF κ P pc lv (.int y :: .int x :: st) E M L cn sn (if x ≤ y then f else g) := fun r hr H locs ls hG hl => lv_icmp_le C.1 C.2.1 hd ht (fun h => k1 r (by rw [if_pos h] at hr; exact hr) H locs ls hG hl) (fun h => k2 r (by rw [if_neg h] at hr; exact hr) H locs ls hG hl)
theorem j_goto (C : Cx κ cc own rm ret) {off : Int} {tgt : Nat} (hd : decode cc pc = .ok (.goto off, 3)) (ht : (pc : Int) + off = (tgt : Int)) (k : JF κ P tgt lv st E M L cn sn f) : JF κ P pc lv st E M L cn sn f := fun r hr H locs ls hG hl => lv_goto C.1 C.2.1 hd ht (k r hr H locs ls hG hl)
theorem j_ifnull (C : Cx κ cc own rm ret) {x : Nat} {off : Int} (hd : decode cc pc = .ok (.ifnull off, 3)) (k : JF κ P (pc + 3) lv st E M L cn sn f) : JF κ P pc lv (.ref x :: st) E M L cn sn f := fun r hr H locs ls hG hl => lv_ifnull C.1 C.2.1 hd (k r hr H locs ls hG hl)
theorem j_ifnullN (C : Cx κ cc own rm ret) {off : Int} {tgt : Nat} (hd : decode cc pc = .ok (.ifnull off, 3)) (ht : (pc : Int) + off = (tgt : Int)) (k : JF κ P tgt lv st E M L cn sn f) : JF κ P pc lv (.null :: st) E M L cn sn f := fun r hr H locs ls hG hl => lv_ifnullN C.1 C.2.1 hd ht (k r hr H locs ls hG hl)
theorem j_ifnonnull (C : Cx κ cc own rm ret) {x : Nat} {off : Int} {tgt : Nat} (hd : decode cc pc = .ok (.ifnonnull off, 3)) (ht : (pc : Int) + off = (tgt : Int)) (k : JF κ P tgt lv st E M L cn sn f) : JF κ P pc lv (.ref x :: st) E M L cn sn f := fun r hr H locs ls hG hl => lv_ifnonnull C.1 C.2.1 hd ht (k r hr H locs ls hG hl)
theorem j_ifnonnullN (C : Cx κ cc own rm ret) {off : Int} (hd : decode cc pc = .ok (.ifnonnull off, 3)) (k : JF κ P (pc + 3) lv st E M L cn sn f) : JF κ P pc lv (.null :: st) E M L cn sn f := fun r hr H locs ls hG hl => lv_ifnonnullN C.1 C.2.1 hd (k r hr H locs ls hG hl)
theorem j_tswHit (C : Cx κ cc own rm ret) {dflt lo hi : Int} {offs : Array Int} {len : Nat} {x c : Int32} {off : Int} {tgt : Nat} (hd : decode cc pc = .ok (.tableswitch dflt lo hi offs, len)) (hx : x = c) (h1 : ¬ c.toInt < lo) (h2 : ¬ hi < c.toInt) (ho : offs[(c.toInt - lo).toNat]? = some off) (ht : (pc : Int) + off = (tgt : Int)) (k : JF κ P tgt lv st E M L cn sn f) : JF κ P pc lv (.int x :: st) E M L cn sn f := fun r hr H locs ls hG hl => lv_tableIn C.1 C.2.1 hd (by rw [hx]; exact h1) (by rw [hx]; exact h2) (by rw [hx]; exact ho) ht (k r hr H locs ls hG hl)
theorem j_tswDef (C : Cx κ cc own rm ret) {dflt lo hi : Int} {offs : Array Int} {len : Nat} {x : Int32} {tgt : Nat} (hd : decode cc pc = .ok (.tableswitch dflt lo hi offs, len)) (h : x.toInt < lo ∨ hi < x.toInt) (ht : (pc : Int) + dflt = (tgt : Int)) (k : JF κ P tgt lv st E M L cn sn f) : JF κ P pc lv (.int x :: st) E M L cn sn f := fun r hr H locs ls hG hl => lv_tableOut C.1 C.2.1 hd h ht (k r hr H locs ls hG hl)
theorem i_neq {x c : Int32} (z : Int) (hz : c.toInt = z) (h : ¬ x = c) : x.toInt ≠ z := fun q => h (Int32.toInt_inj.mp (q.trans hz.symm))
end ROWS
