/-! NEW: constructors; a callee that makes cells gives back a world of its own -/
def Zn (n : Nat) (M : Mi) (L : Ml) : Prop := ∀ k, n ≤ k → M k = (fun _ => 0) ∧ L k = (fun _ => 0)
theorem Zn.m {n : Nat} {M : Mi} {L : Ml} (h : Zn n M L) : mN M n = M := by
  funext k
  by_cases e : k = n
  · subst e; rw [mN, upr_self, (h k (Nat.le_refl _)).1]
  · exact upr_ne e
theorem Zn.l {n : Nat} {M : Mi} {L : Ml} (h : Zn n M L) : lN0 L n = L := by
  funext k
  by_cases e : k = n
  · subst e; rw [lN0, upr_self, (h k (Nat.le_refl _)).2]
  · exact upr_ne e
theorem Zn.s {n m : Nat} {M : Mi} {L : Ml} (h : Zn n M L) (q : n ≤ m) : Zn m M L := fun k hk => h k (Nat.le_trans q hk)
theorem Zn.up {n k j : Nat} {x : Int32} {M : Mi} {L : Ml} (h : Zn n M L) (q : k < n) : Zn n (up2 M k j x) L := fun a ha => by rw [up2_ne (show a ≠ k by omega)]; exact h a ha
theorem eN_len {E : Ev} {d : Ds} {q n : Nat} (h : E.1.length = n) : (eN E d q).1.length = n + 1 := by simp [eN, h]
theorem eR_len {E : Ev} {k j k' n : Nat} (h : E.1.length = n) : (eR E k j k').1.length = n := h
abbrev Q_vx (γ : Gm) (Φ : Ev → Mi → Ml → Prop) : Unit → Array Value → State → Outcome → State → Prop := fun _ => va_Qv (fun (_ : Unit) => True) (fun _ t => ∃ E' M' L', Φ E' M' L' ∧ PX γ E' M' L' t) (gA γ)
abbrev Q_ix (γ : Gm) (v : Int32) (Φ : Ev → Mi → Ml → Prop) : Unit → Array Value → State → Outcome → State → Prop := fun _ => va_Qi (fun r (_ : Unit) => r = v) (fun _ t => ∃ E' M' L', Φ E' M' L' ∧ PX γ E' M' L' t) (gA γ)
theorem ct_ofI {ρ : Type} {γ : Gm} {y : MethodName} {cc : ByteArray} {nL : Nat} {ret : Option FieldType} {rm : Room} {avs : List Value} {E : Ev} {M : Mi} {L : Ml} {Q : ρ → Array Value → State → Outcome → State → Prop} {mc ms : Nat} {f : Option ρ} {own : String} {lv : List (Option Value)}
    (hy : plainName y.cls = true) (hown : y.cls = own) (hlv : lo_args avs ++ List.replicate (nL - (lo_args avs).length) none = lv) (hlen : (lg_sl avs).length ≤ nL)
    (hJ : ∀ κ : Kx, Cx κ cc own rm ret → kγ κ = γ → knL κ = nL → (kmeth κ).name = y.name → JF κ (PQ κ Q mc ms) 0 lv [] E M L 0 0 f) : Ct γ y cc nL ret rm avs E M L Q mc ms f := by
  intro l r hr
  refine Met.ofW (cc := cc) (maxL := nL) (ret := ret) hy rfl ?_
  intro p e s m args below meth c s₁ B hml hv
  obtain ⟨rfl, hz, hP, hD, hK, hS⟩ := hv
  have hts := atoms_spec (ws := .code y cc nL ret :: TB) B.pre
  have C : Cx (γ, nL, p, l, e, rm, s, m, avs.toArray, below, meth, c) cc own rm ret := ⟨B.exec, B.bytes, hml, by rw [← hown]; exact findClass_of_methodNamed B.named, fun w hw => hts w (List.mem_cons_of_mem _ hw), hK, hS, hz, B.notSynchronized, rfl, B.returns⟩
  rw [lg_entry_eq]
  exact hJ (γ, nL, p, l, e, rm, s, m, avs.toArray, below, meth, c) C rfl rfl (name_of_methodNamed B.named B.method).1 r hr s.heap [] _ ⟨hP, hD, va_S.rf⟩ (lo_entry avs hlen hlv)
def MN (y : MethodName) (bytes : ByteArray) (maxL n : Nat) : Prop := Cond.instanceMethod y ∈ TB ∧ Cond.initialized y.cls ∈ TB ∧ Cond.code y bytes maxL none ∈ TB ∧ y.name = "<init>" ∧ (y.cls ≠ "java/lang/invoke/MethodHandle" ∧ y.cls ≠ "java/lang/invoke/VarHandle" ∧ (parseMethodDescriptor y.desc).map (fun d => d.parameters.length) = some n)
section NW
variable {ρ : Type} {κ : Kx} {P : ρ → State → Prop} {cc : ByteArray} {own : String} {rm : Room} {ret : Option FieldType} {pc : Nat} {lv : List (Option Value)} {st stk : List Value} {E : Ev} {M : Mi} {L : Ml} {cn sn : Nat} {f g : Option ρ}
variable {ρ' : Type} {y : MethodName} {bytes : ByteArray} {maxL mc ms n i k c N b : Nat} {ry : Option FieldType} {rmc : Room} {As : List Value} {Q : ρ' → Array Value → State → Outcome → State → Prop} {fc : Option ρ'} {Cn : String} {T : u_T} {ty : Nat → FieldType} {v : ρ'} {H : Heap} {locs : List Loc} {ls : Array Slot}
theorem run_I (C : Cx κ cc own rm ret) (hct : Ct (kγ κ) y bytes maxL none rmc (.ref b :: As) E M L Q mc ms fc) (mv : MN y bytes maxL n) (hml : Cond.methodLink own i y ∈ TB) (hn : As.length = n) (hstk : stk = As.reverse ++ .ref b :: st) (hst : (st.map fun v => v.category).sum ≤ 8) (hrm : RmOk rmc rm maxL mc ms cn sn) (hd : decode cc pc = .ok (.invokespecial i, 3)) (hv : fc = some v) (hG : GW κ E M L H locs) (hl : lo_has ls (knL κ) lv) :
    va_Run (kp κ) (kl κ) (ke κ) (kR κ) (ks κ) (km κ) (ka κ) (kb κ) (kmeth κ) (kc κ) H locs cn sn mc ms (F0 (km κ) pc ls stk) st (Q v (Value.ref b :: As).toArray) (gA (kγ κ)) := by
  subst hstk
  refine va_runI C.fix (hct (kl κ) v hv) (cwI n C.ts (good_of ?_) rfl hrm.1.1 hrm.1.2 (C.w mv.2.1) (C.w hml) (C.w mv.1) mv.2.2.2.1 mv.2.2.2.2 (by rw [C.R]; exact hrm.2.1)) ⟨PW.blind, fun U hU hW => ⟨rfl, hG.pw C hU hW⟩⟩ rfl hn hl.1 rfl (lv_room hst) hd (by rw [C.R]; exact hrm.2.2)
  intro w hw
  simp only [List.mem_cons] at hw
  rcases hw with rfl | hw
  · exact mv.2.2.1
  · exact hw
theorem j_callI (C : Cx κ cc own rm ret) {Φ : Ev → Mi → Ml → Prop} (hd : decode cc pc = .ok (.invokespecial i, 3)) (hct : Ct (kγ κ) y bytes maxL none rmc (.ref b :: As) E M L (Q_vx (kγ κ) Φ) mc ms (some ())) (mv : MN y bytes maxL n) (hml : Cond.methodLink own i y ∈ TB) (hn : As.length = n) (hstk : stk = As.reverse ++ .ref b :: st) (hst : (st.map fun v => v.category).sum ≤ 8) (hrm : RmOk rmc rm maxL mc ms cn sn) (kk : ∀ E' M' L', Φ E' M' L' → JF κ P (pc + 3) lv st E' M' L' (cn + mc) (sn + ms) f) : JF κ P pc lv stk E M L cn sn f := fun r hr H locs ls hG hl => by
  have hrun := run_I C hct mv hml hn hstk hst hrm hd rfl hG hl
  refine va_callv hrun hG.2.2 (fun q _ h => h) (fun q h => h) (fun u t H1 locs1 ht hvm hw hB hz1 hk1 hS1 => ?_)
  obtain ⟨E', M', L', hΦ, hB1, hB2⟩ := hB
  rw [ht] at hB1
  exact kk E' M' L' hΦ r hr H1 locs1 ls ⟨hB1, hB2, hS1⟩ hl
theorem j_vretx {Φ : Ev → Mi → Ml → Prop} (C : Cx κ cc own rm none) (hd : decode cc pc = .ok (.return_, 1)) (hΦ : Φ E M L) : JF κ (PQ κ (Q_vx (kγ κ) Φ) cn sn) pc lv [] E M L cn sn (some ()) :=
  fun r hr H locs ls hG hl => by cases hr; exact W.vret C.1 C.2.1 C.ret (fun t ht hW => ⟨⟨(), rfl, trivial, E, M, L, hΦ, by rw [ht]; exact hG.1, hG.2.1⟩, hG.2.2.F ht⟩) hG.2.2.2.2 hd C.locks
theorem j_newQ (C : Cx κ cc own rm ret) {c N i l : Nat} {Cn : String} {T : u_T} {ty : Nat → FieldType} (hd : decode cc pc = .ok (.new i, 3)) (F : FC c Cn T N ty) (hcl : Cond.classLink own i Cn ∈ TB) (hin : Cond.instantiable Cn N ∈ TB) (hini : Cond.initialized Cn ∈ TB) (hdf : ∀ j, j < N → defaultValue (ty j) = vp_V (dflt c) j) (hl : E.1.length = l) (hZ : Zn l M L) (hRW : RW E) (hcs : cn + 1 ≤ rm.cells ∧ sn + N ≤ rm.slots) (k : ∀ q, RW (eN E (.inl c) q) → JF κ P (pc + 3) lv (.ref ((eN E (.inl c) q).2.1 l) :: st) (eN E (.inl c) q) M L (cn + 1) (sn + N) f) : JF κ P pc lv st E M L cn sn f :=
  j_new C hd F hcl hin hini hdf hRW hcs (fun q => by
    have h := k q (eN_RW hRW)
    subst hl
    rw [eN_new] at h
    rw [hZ.m, hZ.l]
    exact h)
theorem j_newaQ (C : Cx κ cc own rm ret) {n : Int32} {N l : Nat} (hd : decode cc pc = .ok (.newarray .int, 2)) (hn : ¬ n < 0) (hN : n.toNatClampNeg = N) (hb : N * 4 ≤ 536870912) (hl : E.1.length = l) (hZ : Zn l M L) (hRW : RW E) (hcs : cn + 1 ≤ rm.cells ∧ sn + N ≤ rm.slots) (k : ∀ q, RW (eN E (.inr (0, N)) q) → JF κ P (pc + 2) lv (.ref ((eN E (.inr (0, N)) q).2.1 l) :: st) (eN E (.inr (0, N)) q) M L (cn + 1) (sn + N) f) : JF κ P pc lv (.int n :: st) E M L cn sn f :=
  j_newa C hd tw_172 hn hN hb hRW hcs (fun q => by
    have h := k q (eN_RW hRW)
    subst hl
    rw [eN_new] at h
    rw [hZ.m, hZ.l]
    exact h)
theorem j_newzQ (C : Cx κ cc own rm ret) {n : Int32} {N l : Nat} (hd : decode cc pc = .ok (.newarray .boolean, 2)) (hn : ¬ n < 0) (hN : n.toNatClampNeg = N) (hb : N * 1 ≤ 536870912) (hl : E.1.length = l) (hZ : Zn l M L) (hRW : RW E) (hcs : cn + 1 ≤ rm.cells ∧ sn + N ≤ rm.slots) (k : ∀ q, RW (eN E (.inr (1, N)) q) → JF κ P (pc + 2) lv (.ref ((eN E (.inr (1, N)) q).2.1 l) :: st) (eN E (.inr (1, N)) q) M L (cn + 1) (sn + N) f) : JF κ P pc lv (.int n :: st) E M L cn sn f :=
  j_newz C hd tw_927 hn hN hb hRW hcs (fun q => by
    have h := k q (eN_RW hRW)
    subst hl
    rw [eN_new] at h
    rw [hZ.m, hZ.l]
    exact h)
theorem j_anewQ (C : Cx κ cc own rm ret) {n : Int32} {N t i l : Nat} {Cq : String} (hd : decode cc pc = .ok (.anewarray i, 3)) (ht : t < 2) (hC : (if t = 0 then RX3 else RX4) = Cq) (hcl : Cond.classLink own i Cq ∈ TB) (hn : ¬ n < 0) (hN : n.toNatClampNeg = N) (hb : N * 4 ≤ 536870912) (hl : E.1.length = l) (hZ : Zn l M L) (hRW : RW E) (hcs : cn + 1 ≤ rm.cells ∧ sn + N ≤ rm.slots) (k : ∀ q, RW (eN E (.inr (t + 2, N)) q) → JF κ P (pc + 3) lv (.ref ((eN E (.inr (t + 2, N)) q).2.1 l) :: st) (eN E (.inr (t + 2, N)) q) M L (cn + 1) (sn + N) f) : JF κ P pc lv (.int n :: st) E M L cn sn f :=
  j_anew C hd ht hC hcl hn hN hb hRW hcs (fun q => by
    have h := k q (eN_RW hRW)
    subst hl
    rw [eN_new] at h
    rw [hZ.m, hZ.l]
    exact h)
theorem j_putR (C : Cx κ cc own rm ret) {k c j i N k' t a : Nat} {Cn : String} {T : u_T} {ty : Nat → FieldType} (hd : decode cc pc = .ok (.putfield i, 3)) (hin : (kmeth κ).name = "<init>") (F : FC c Cn T N ty) (hS : E.1[k]? = some (.inl c)) (hj : j < N) (hk : (kinds c)[j]? = some (t + 2)) (hfin : (T j).2.2.2 = true) (hdecl : (T j).1 = own) (ha : a = E.2.1 k') (hn : ∀ a, narrow (ty j) (.ref a) = .ref a) (hfit : ∀ a, fits (ty j) (.ref a) = true) (hL : Cond.fieldLink own i (T j).1 (T j).2.1 (T j).2.2.1 ∈ TB) (hk' : k' < E.1.length) (hRW : RW E) (kk : RW (eR E k j k') → JF κ P (pc + 3) lv st (eR E k j k') M L cn sn f) : JF κ P pc lv (.ref a :: .ref (E.2.1 k) :: st) E M L cn sn f :=
  j_putRF C hd hin F hS hj hk hfin hdecl ha (hn _) (hfit _) hL (kk (eR_RW hRW hk'))
theorem j_iretx {v : Int32} {Φ : Ev → Mi → Ml → Prop} (C : Cx κ cc own rm (some .int)) (hd : decode cc pc = .ok (.ireturn, 1)) (hΦ : Φ E M L) : JF κ (PQ κ (Q_ix (kγ κ) v Φ) cn sn) pc lv [.int v] E M L cn sn (some ()) :=
  fun r hr H locs ls hG hl => by cases hr; exact W.iret C.1 C.2.1 C.ret (fun t ht hW => ⟨⟨v, (), rfl, rfl, E, M, L, hΦ, by rw [ht]; exact hG.1, hG.2.1⟩, hG.2.2.F ht⟩) hG.2.2.2.2 hd C.locks
end NW
/-- one more array (of type t) of N in field j of cell b -/
abbrev eA (E : Ev) (b j t N q l : Nat) : Ev := eR (eN E (.inr (t, N)) q) b j l
section NF
variable {ρ : Type} {κ : Kx} {P : ρ → State → Prop} {cc : ByteArray} {own : String} {rm : Room} {ret : Option FieldType} {pc : Nat} {E : Ev} {M : Mi} {L : Ml} {cn sn : Nat} {f : Option ρ}
theorem j_arrF (C : Cx κ cc own rm ret) {b c j i N A l : Nat} {n : Int32} {Cn : String} {T : u_T} {ty : Nat → FieldType} (hd : decode cc pc = .ok (.newarray .int, 2)) (hd2 : decode cc (pc + 2) = .ok (.putfield i, 3)) (hn : ¬ n < 0) (hN : n.toNatClampNeg = A) (hb : A * 4 ≤ 536870912) (hin : (kmeth κ).name = "<init>") (F : FC c Cn T N ty) (hS : E.1[b]? = some (.inl c)) (hj : j < N) (hk : (kinds c)[j]? = some 2) (hfin : (T j).2.2.2 = true) (hdecl : (T j).1 = own) (hnr : ∀ a, narrow (ty j) (.ref a) = .ref a) (hfit : ∀ a, fits (ty j) (.ref a) = true) (hL : Cond.fieldLink own i (T j).1 (T j).2.1 (T j).2.2.1 ∈ TB)
    (hl : E.1.length = l) (hZ : Zn l M L) (hRW : RW E) (hcs : cn + 1 ≤ rm.cells ∧ sn + A ≤ rm.slots) (k : ∀ q, RW (eA E b j 0 A q l) → (eA E b j 0 A q l).1.length = l + 1 → (eA E b j 0 A q l).1[b]? = some (.inl c) → JF κ P (pc + 2 + 3) [some (.ref ((eA E b j 0 A q l).2.1 b))] [] (eA E b j 0 A q l) M L (cn + 1) (sn + A) f) : JF κ P pc [some (.ref (E.2.1 b))] [.int n, .ref (E.2.1 b)] E M L cn sn f := by
  have hbl : b < E.1.length := (List.getElem?_eq_some_iff.mp hS).1
  refine j_newaQ C hd hn hN hb hl hZ hRW hcs (fun q hR => ?_)
  have hS' : (eN E (.inr (0, A)) q).1[b]? = some (.inl c) := by simp only [eN]; rw [List.getElem?_append_left hbl]; exact hS
  have hlen : (eN E (.inr (0, A)) q).1.length = l + 1 := eN_len hl
  rw [← eN_ad (d := .inr (0, A)) (q := q) hbl]
  exact j_putR (t := 0) C hd2 hin F hS' hj hk hfin hdecl rfl hnr hfit hL (by rw [hlen]; omega) hR (fun h => k q h hlen hS')
theorem j_arrZ (C : Cx κ cc own rm ret) {b c j i N A l : Nat} {n : Int32} {Cn : String} {T : u_T} {ty : Nat → FieldType} (hd : decode cc pc = .ok (.newarray .boolean, 2)) (hd2 : decode cc (pc + 2) = .ok (.putfield i, 3)) (hn : ¬ n < 0) (hN : n.toNatClampNeg = A) (hb : A * 1 ≤ 536870912) (hin : (kmeth κ).name = "<init>") (F : FC c Cn T N ty) (hS : E.1[b]? = some (.inl c)) (hj : j < N) (hk : (kinds c)[j]? = some 2) (hfin : (T j).2.2.2 = true) (hdecl : (T j).1 = own) (hnr : ∀ a, narrow (ty j) (.ref a) = .ref a) (hfit : ∀ a, fits (ty j) (.ref a) = true) (hL : Cond.fieldLink own i (T j).1 (T j).2.1 (T j).2.2.1 ∈ TB)
    (hl : E.1.length = l) (hZ : Zn l M L) (hRW : RW E) (hcs : cn + 1 ≤ rm.cells ∧ sn + A ≤ rm.slots) (k : ∀ q, RW (eA E b j 1 A q l) → (eA E b j 1 A q l).1.length = l + 1 → (eA E b j 1 A q l).1[b]? = some (.inl c) → JF κ P (pc + 2 + 3) [some (.ref ((eA E b j 1 A q l).2.1 b))] [] (eA E b j 1 A q l) M L (cn + 1) (sn + A) f) : JF κ P pc [some (.ref (E.2.1 b))] [.int n, .ref (E.2.1 b)] E M L cn sn f := by
  have hbl : b < E.1.length := (List.getElem?_eq_some_iff.mp hS).1
  refine j_newzQ C hd hn hN hb hl hZ hRW hcs (fun q hR => ?_)
  have hS' : (eN E (.inr (1, A)) q).1[b]? = some (.inl c) := by simp only [eN]; rw [List.getElem?_append_left hbl]; exact hS
  have hlen : (eN E (.inr (1, A)) q).1.length = l + 1 := eN_len hl
  rw [← eN_ad (d := .inr (1, A)) (q := q) hbl]
  exact j_putR (t := 0) C hd2 hin F hS' hj hk hfin hdecl rfl hnr hfit hL (by rw [hlen]; omega) hR (fun h => k q h hlen hS')
theorem j_arrQ (C : Cx κ cc own rm ret) {b c j i i0 N A l t : Nat} {n : Int32} {Cn Cq : String} {T : u_T} {ty : Nat → FieldType} (hd : decode cc pc = .ok (.anewarray i0, 3)) (ht : t < 2) (hC : (if t = 0 then RX3 else RX4) = Cq) (hcl : Cond.classLink own i0 Cq ∈ TB) (hd2 : decode cc (pc + 3) = .ok (.putfield i, 3)) (hn : ¬ n < 0) (hN : n.toNatClampNeg = A) (hb : A * 4 ≤ 536870912) (hin : (kmeth κ).name = "<init>") (F : FC c Cn T N ty) (hS : E.1[b]? = some (.inl c)) (hj : j < N) (hk : (kinds c)[j]? = some 2) (hfin : (T j).2.2.2 = true) (hdecl : (T j).1 = own) (hnr : ∀ a, narrow (ty j) (.ref a) = .ref a) (hfit : ∀ a, fits (ty j) (.ref a) = true) (hL : Cond.fieldLink own i (T j).1 (T j).2.1 (T j).2.2.1 ∈ TB)
    (hl : E.1.length = l) (hZ : Zn l M L) (hRW : RW E) (hcs : cn + 1 ≤ rm.cells ∧ sn + A ≤ rm.slots) (k : ∀ q, RW (eA E b j (t + 2) A q l) → (eA E b j (t + 2) A q l).1.length = l + 1 → (eA E b j (t + 2) A q l).1[b]? = some (.inl c) → JF κ P (pc + 3 + 3) [some (.ref ((eA E b j (t + 2) A q l).2.1 b))] [] (eA E b j (t + 2) A q l) M L (cn + 1) (sn + A) f) : JF κ P pc [some (.ref (E.2.1 b))] [.int n, .ref (E.2.1 b)] E M L cn sn f := by
  have hbl : b < E.1.length := (List.getElem?_eq_some_iff.mp hS).1
  refine j_anewQ C hd ht hC hcl hn hN hb hl hZ hRW hcs (fun q hR => ?_)
  have hS' : (eN E (.inr (t + 2, A)) q).1[b]? = some (.inl c) := by simp only [eN]; rw [List.getElem?_append_left hbl]; exact hS
  have hlen : (eN E (.inr (t + 2, A)) q).1.length = l + 1 := eN_len hl
  rw [← eN_ad (d := .inr (t + 2, A)) (q := q) hbl]
  exact j_putR (t := 0) C hd2 hin F hS' hj hk hfin hdecl rfl hnr hfit hL (by rw [hlen]; omega) hR (fun h => k q h hlen hS')
end NF
