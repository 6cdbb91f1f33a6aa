/-! MAKING: new cells come at the end of the shape -/
def RW (E : Ev) : Prop := ∀ k j x, k < E.1.length → E.2.2 k j = some x → x < E.1.length
def eN (E : Ev) (d : Ds) (q : Nat) : Ev := (E.1 ++ [d], va_up E.2.1 E.1.length q, upr E.2.2 E.1.length (fun _ => none))
def eR (E : Ev) (k j k' : Nat) : Ev := (E.1, E.2.1, up2 E.2.2 k j (some k'))
def mN (M : Mi) (n : Nat) : Mi := upr M n (fun _ => 0)
def lN0 (L : Ml) (n : Nat) : Ml := upr L n (fun _ => 0)
theorem eN_ad {E : Ev} {d : Ds} {q k : Nat} (h : k < E.1.length) : (eN E d q).2.1 k = E.2.1 k := va_up_ne _ _ (by omega)
theorem eN_new {E : Ev} {d : Ds} {q : Nat} : (eN E d q).2.1 E.1.length = q := va_up_self _ _ _
theorem eN_RW {E : Ev} {d : Ds} {q : Nat} (h : RW E) : RW (eN E d q) := by
  intro k j x hk hx
  simp only [eN, List.length_append, List.length_cons, List.length_nil] at hk hx ⊢
  by_cases e : k = E.1.length
  · rw [e, upr_self] at hx; cases hx
  · rw [upr_ne e] at hx; have := h k j x (by omega) hx; omega
theorem eR_RW {E : Ev} {k j k' : Nat} (h : RW E) (hk' : k' < E.1.length) : RW (eR E k j k') := by
  intro a b x ha hx
  simp only [eR] at ha hx ⊢
  by_cases e : a = k ∧ b = j
  · rw [e.1, e.2, up2_at] at hx; cases hx; exact hk'
  · have : up2 E.2.2 k j (some k') a b = E.2.2 a b := by
      simp only [up2]; by_cases e1 : a = k
      · have e2 : ¬ b = j := fun z => e ⟨e1, z⟩
        simp [e1, e2]
      · simp [e1]
    rw [this] at hx; exact h a b x ha hx
theorem wd_push {G : Nat → ClassId} {E : Ev} {M : Mi} {L : Ml} (d : Ds) (q : Nat) (h : RW E) : wd G (eN E d q) (mN M E.1.length) (lN0 L E.1.length) = wd G E M L ++ [(q, cE G (eN E d q) (mN M E.1.length) (lN0 L E.1.length) E.1.length d)] := by
  refine List.ext_getElem? (fun i => ?_)
  rcases Nat.lt_trichotomy i E.1.length with hi | hi | hi
  · rw [List.getElem?_append_left (by rw [wd_len]; exact hi)]
    simp only [wd, List.getElem?_mapIdx]
    have e1 : (eN E d q).1[i]? = E.1[i]? := by simp only [eN]; exact List.getElem?_append_left hi
    rw [e1]
    cases hd : E.1[i]? with
    | none => rfl
    | some d' =>
      simp only [Option.map_some]
      rw [eN_ad hi]
      congr 2
      have hn : i ≠ E.1.length := by omega
      have em : mN M E.1.length i = M i := upr_ne hn
      have el : lN0 L E.1.length i = L i := upr_ne hn
      have er : ∀ j, ((eN E d q).2.2 i j).map (eN E d q).2.1 = (E.2.2 i j).map E.2.1 := by
        intro j
        have e2 : (eN E d q).2.2 i = E.2.2 i := upr_ne hn
        rw [e2]
        cases hx : E.2.2 i j with
        | none => rfl
        | some x => simp only [Option.map_some]; rw [eN_ad (h i j x hi hx)]
      cases d' with
      | inl c =>
        simp only [cE]
        congr 2
        refine List.ext_getElem? (fun j => ?_)
        simp only [List.getElem?_mapIdx]
        cases (kinds c)[j]? with
        | none => rfl
        | some t => simp only [Option.map_some]; congr 1; match t with
          | 0 => simp only [fv, em]
          | 1 => simp only [fv, el]
          | t + 2 => simp only [fv, er]
      | inr z => obtain ⟨t, m⟩ := z; simp only [cE, em, er]
  · subst hi
    rw [List.getElem?_append_right (by rw [wd_len]; exact Nat.le_refl _), wd_len, Nat.sub_self]
    simp only [wd, List.getElem?_mapIdx, List.getElem?_cons_zero]
    have e1 : (eN E d q).1[E.1.length]? = some d := by simp [eN]
    rw [e1]
    simp only [Option.map_some, eN_new]
  · rw [List.getElem?_eq_none (by rw [wd_len]; simp [eN]; omega), List.getElem?_eq_none (by rw [List.length_append, wd_len]; simp; omega)]
theorem wd_setR {G : Nat → ClassId} {E : Ev} {M : Mi} {L : Ml} {k j k' : Nat} {d : Ds} {e : va_E} (h : E.1[k]? = some d) (he : e = cE G (eR E k j k') M L k d) (wr : va_W) : (wd G E M L ++ wr).set k (E.2.1 k, e) = wd G (eR E k j k') M L ++ wr := by
  have hl := (List.getElem?_eq_some_iff.mp h).1
  rw [List.set_append_left _ _ (by rw [wd_len]; exact hl)]
  congr 1
  refine List.ext_getElem? (fun i => ?_)
  by_cases hi : i = k
  · subst hi
    rw [List.getElem?_set_self (by rw [wd_len]; exact hl)]
    simp only [wd, List.getElem?_mapIdx]
    rw [show (eR E i j k').1[i]? = some d from h, he]; rfl
  · rw [List.getElem?_set_ne (fun q => hi q.symm)]
    simp only [wd, List.getElem?_mapIdx]
    rw [show (eR E k j k').1[i]? = E.1[i]? from rfl]
    cases E.1[i]? with
    | none => rfl
    | some d' =>
      simp only [Option.map_some]
      congr 2
      have er : (eR E k j k').2.2 i = E.2.2 i := up2_ne hi
      cases d' with
      | inl c =>
        simp only [cE]
        congr 2
        refine List.ext_getElem? (fun b => ?_)
        simp only [List.getElem?_mapIdx]
        cases (kinds c)[b]? with
        | none => rfl
        | some t => simp only [Option.map_some]; congr 1; match t with
          | 0 => rfl
          | 1 => rfl
          | t + 2 => simp only [fv, er]; rfl
      | inr z => obtain ⟨t, m⟩ := z; simp only [cE, er]; rfl
theorem fld_setR {E : Ev} {M : Mi} {L : Ml} {k c j t k' : Nat} (h : (kinds c)[j]? = some (t + 2)) : ((kinds c).mapIdx (fun j t => fv E M L k j t)).set j (.ref (E.2.1 k')) = (kinds c).mapIdx (fun i t => fv (eR E k j k') M L k i t) := by
  have hl := (List.getElem?_eq_some_iff.mp h).1
  refine List.ext_getElem? (fun i => ?_)
  by_cases hi : i = j
  · subst hi
    rw [List.getElem?_set_self (by simpa using hl)]
    simp [List.getElem?_mapIdx, h, fv, eR, up2, va_rf]
  · rw [List.getElem?_set_ne (fun q => hi q.symm)]
    simp only [List.getElem?_mapIdx]
    cases (kinds c)[i]? with
    | none => rfl
    | some t => simp only [Option.map_some]; congr 1; match t with
      | 0 => rfl
      | 1 => rfl
      | t + 2 => simp [fv, eR, up2, hi]
def dflt (c : Nat) : List Value := (kinds c).map (fun t => match t with
  | 0 => .int 0
  | 1 => .long 0
  | _ => .null)
theorem dflt_eq {E : Ev} {M : Mi} {L : Ml} {n c : Nat} (hM : M n = fun _ => 0) (hL : L n = fun _ => 0) (hR : E.2.2 n = fun _ => none) : (kinds c).mapIdx (fun j t => fv E M L n j t) = dflt c := by
  refine List.ext_getElem? (fun i => ?_)
  simp only [dflt, List.getElem?_mapIdx, List.getElem?_map]
  cases (kinds c)[i]? with
  | none => rfl
  | some t => simp only [Option.map_some]; congr 1; match t with
    | 0 => simp [fv, hM]
    | 1 => simp [fv, hL]
    | t + 2 => simp [fv, hR, va_rf]
section AL
variable {ρ : Type} {κ : Kx} {P : ρ → State → Prop} {cc : ByteArray} {own : String} {rm : Room} {ret : Option FieldType} {pc : Nat} {lv : List (Option Value)} {st : List Value} {E : Ev} {M : Mi} {L : Ml} {cn sn : Nat} {f g : Option ρ}
theorem j_widen {cn' sn' : Nat} (h1 : cn ≤ cn') (h2 : sn ≤ sn') (k : JF κ P pc lv st E M L cn' sn' f) : JF κ P pc lv st E M L cn sn f := fun r hr H locs ls hG hl => W.widen h1 h2 (k r hr H locs ls hG hl)
theorem j_objInit (C : Cx κ cc own rm ret) {a i : Nat} (hd : decode cc pc = .ok (.invokespecial i, 3)) (hL : Cond.methodLink own i Lib.objectInit ∈ TB) (h2 : Cond.instanceMethod Lib.objectInit ∈ TB) (h3 : Cond.code Lib.objectInit ⟨#[0xb1]⟩ 1 none ∈ TB) (hf : 1 ≤ rm.frames) (hlo : (st.map fun v => v.category).sum + 12 ≤ rm.locals) (k : JF κ P (pc + 3) lv st E M L cn sn f) : JF κ P pc lv (.ref a :: st) E M L cn sn f :=
  fun r hr H locs ls hG hl => W.objInit C.1 C.2.1 C.own (C.w hL) (C.w h2) (C.w h3) rfl (by rw [C.2.2.1]; exact hl.1) rfl hd (by rw [C.R]; exact hf) (by rw [C.R]; show 2 * 0 + _ + 12 ≤ _; omega) (k r hr H locs ls hG hl)
theorem j_new (C : Cx κ cc own rm ret) {c N i : Nat} {Cn : String} {T : u_T} {ty : Nat → FieldType} (hd : decode cc pc = .ok (.new i, 3)) (F : FC c Cn T N ty) (hcl : Cond.classLink own i Cn ∈ TB) (hin : Cond.instantiable Cn N ∈ TB) (hini : Cond.initialized Cn ∈ TB) (hdf : ∀ j, j < N → defaultValue (ty j) = vp_V (dflt c) j) (hRW : RW E) (hcs : cn + 1 ≤ rm.cells ∧ sn + N ≤ rm.slots) (k : ∀ q, JF κ P (pc + 3) lv (.ref q :: st) (eN E (.inl c) q) (mN M E.1.length) (lN0 L E.1.length) (cn + 1) (sn + N) f) : JF κ P pc lv st E M L cn sn f :=
  fun r hr H locs ls hG hl => by
    refine va_new C.1 C.2.1 C.ts F.2.1 ty F.2.2.1 C.own (C.w hcl) (C.w hin) (C.w hini) C.K hG.1 hG.2.1 hG.2.2 C.ap F.1 hdf (by rw [C.R]; exact hcs.1) (by rw [C.R]; exact hcs.2) hd (fun q H1 hP hD hS => ?_)
    have e : wd (gG (kγ κ)) (eN E (.inl c) q) (mN M E.1.length) (lN0 L E.1.length) = wd (gG (kγ κ)) E M L ++ [(q, .inr (c, dflt c))] := by
      rw [wd_push _ q hRW]
      simp only [cE]
      rw [dflt_eq (M := mN M E.1.length) (L := lN0 L E.1.length) (E := eN E (.inl c) q) (upr_self _ _ _) (upr_self _ _ _) (upr_self _ _ _)]
    exact k q r hr H1 locs ls ⟨by unfold wdw; rw [e]; exact hP.swap, by unfold wdw; rw [e]; exact hD.swap, hS⟩ hl
theorem j_newa (C : Cx κ cc own rm ret) {n : Int32} {N : Nat} (hd : decode cc pc = .ok (.newarray .int, 2)) (hac : Cond.arrayClass .int ∈ TB) (hn : ¬ n < 0) (hN : n.toNatClampNeg = N) (hb : N * 4 ≤ 536870912) (hRW : RW E) (hcs : cn + 1 ≤ rm.cells ∧ sn + N ≤ rm.slots) (k : ∀ q, JF κ P (pc + 2) lv (.ref q :: st) (eN E (.inr (0, N)) q) (mN M E.1.length) (lN0 L E.1.length) (cn + 1) (sn + N) f) : JF κ P pc lv (.int n :: st) E M L cn sn f :=
  fun r hr H locs ls hG hl => by
    refine va_newa (atype := .int) (ty := .int) (N' := N) (a0 := (N, .inl (fun _ => 0))) C.1 C.2.1 (C.w hac) rfl C.K hG.1 hG.2.1 hG.2.2 C.ap (fun cA => rfl) hn hN hb (by rw [C.R]; exact hcs.1) (by rw [C.R]; exact hcs.2) hd (fun q cA H1 hK hP hD hS => ?_)
    have e0 : cA = gG (kγ κ) 0 := Option.some.inj ((hK.2 4 (cA, .int) rfl).2.symm.trans (C.K.2 0 (gG (kγ κ) 0, .int) rfl).2)
    subst e0
    have e : wd (gG (kγ κ)) (eN E (.inr (0, N)) q) (mN M E.1.length) (lN0 L E.1.length) = wd (gG (kγ κ)) E M L ++ [(q, .inl (gG (kγ κ) 0, N, .inl (fun _ => 0)))] := by
      rw [wd_push _ q hRW]
      simp [cE, mN, upr_self]
    exact k q r hr H1 locs ls ⟨by unfold wdw; rw [e]; exact hP.swap, by unfold wdw; rw [e]; exact hD.swap, hS⟩ hl
theorem j_newz (C : Cx κ cc own rm ret) {n : Int32} {N : Nat} (hd : decode cc pc = .ok (.newarray .boolean, 2)) (hac : Cond.arrayClass .boolean ∈ TB) (hn : ¬ n < 0) (hN : n.toNatClampNeg = N) (hb : N * 1 ≤ 536870912) (hRW : RW E) (hcs : cn + 1 ≤ rm.cells ∧ sn + N ≤ rm.slots) (k : ∀ q, JF κ P (pc + 2) lv (.ref q :: st) (eN E (.inr (1, N)) q) (mN M E.1.length) (lN0 L E.1.length) (cn + 1) (sn + N) f) : JF κ P pc lv (.int n :: st) E M L cn sn f :=
  fun r hr H locs ls hG hl => by
    refine va_newa (atype := .boolean) (ty := .boolean) (N' := N) (a0 := (N, .inl (fun _ => 0))) C.1 C.2.1 (C.w hac) rfl C.K hG.1 hG.2.1 hG.2.2 C.ap (fun cA => rfl) hn hN hb (by rw [C.R]; exact hcs.1) (by rw [C.R]; exact hcs.2) hd (fun q cA H1 hK hP hD hS => ?_)
    have e0 : cA = gG (kγ κ) 1 := Option.some.inj ((hK.2 4 (cA, .boolean) rfl).2.symm.trans (C.K.2 1 (gG (kγ κ) 1, .boolean) rfl).2)
    subst e0
    have e : wd (gG (kγ κ)) (eN E (.inr (1, N)) q) (mN M E.1.length) (lN0 L E.1.length) = wd (gG (kγ κ)) E M L ++ [(q, .inl (gG (kγ κ) 1, N, .inl (fun _ => 0)))] := by
      rw [wd_push _ q hRW]
      simp [cE, mN, upr_self]
    exact k q r hr H1 locs ls ⟨by unfold wdw; rw [e]; exact hP.swap, by unfold wdw; rw [e]; exact hD.swap, hS⟩ hl
theorem j_anew (C : Cx κ cc own rm ret) {n : Int32} {N t i : Nat} {Cq : String} (hd : decode cc pc = .ok (.anewarray i, 3)) (ht : t < 2) (hC : (if t = 0 then RX3 else RX4) = Cq) (hcl : Cond.classLink own i Cq ∈ TB) (hn : ¬ n < 0) (hN : n.toNatClampNeg = N) (hb : N * 4 ≤ 536870912) (hRW : RW E) (hcs : cn + 1 ≤ rm.cells ∧ sn + N ≤ rm.slots) (k : ∀ q, JF κ P (pc + 3) lv (.ref q :: st) (eN E (.inr (t + 2, N)) q) (mN M E.1.length) (lN0 L E.1.length) (cn + 1) (sn + N) f) : JF κ P pc lv (.int n :: st) E M L cn sn f :=
  fun r hr H locs ls hG hl => by
    have hao : va_AO Cq (ks κ) := by
      subst hC
      match t, ht with
      | 0, _ => exact C.stat.2.1.1
      | 1, _ => exact C.stat.2.1.2
    refine va_newq C.1 C.2.1 C.own (C.w hcl) hao C.K hG.1 hG.2.1 hG.2.2 C.ap hn hN hb (by rw [C.R]; exact hcs.1) (by rw [C.R]; exact hcs.2) hd (fun q cA H1 hK hP hD hS => ?_)
    have e0 : cA = gG (kγ κ) (t + 2) := by
      obtain ⟨_, _, _, _, _, h1⟩ := (hK.2 4 (cA, .object Cq) rfl).2
      have h2 := (C.K.2 (t + 2) _ (tysG_q _ t ht)).2
      rw [hC] at h2
      obtain ⟨_, _, _, _, _, h3⟩ := h2
      exact Option.some.inj (h1.symm.trans h3)
    subst e0
    have e : wd (gG (kγ κ)) (eN E (.inr (t + 2, N)) q) (mN M E.1.length) (lN0 L E.1.length) = wd (gG (kγ κ)) E M L ++ [(q, .inl (gG (kγ κ) (t + 2), N, .inr (.inr (.inr (.inr (fun _ => none))))))] := by
      rw [wd_push _ q hRW]
      simp [cE, eN, upr_self]
    exact k q r hr H1 locs ls ⟨by unfold wdw; rw [e]; exact hP.swap, by unfold wdw; rw [e]; exact hD.swap, hS⟩ hl
theorem j_putRF (C : Cx κ cc own rm ret) {k c j i N k' t a : Nat} {Cn : String} {T : u_T} {ty : Nat → FieldType} (hd : decode cc pc = .ok (.putfield i, 3)) (hin : (kmeth κ).name = "<init>") (F : FC c Cn T N ty) (hS : E.1[k]? = some (.inl c)) (hj : j < N) (hk : (kinds c)[j]? = some (t + 2)) (hfin : (T j).2.2.2 = true) (hdecl : (T j).1 = own) (ha : a = E.2.1 k') (hn : narrow (ty j) (.ref a) = .ref a) (hfit : fits (ty j) (.ref a) = true) (hL : Cond.fieldLink own i (T j).1 (T j).2.1 (T j).2.2.1 ∈ TB) (kk : JF κ P (pc + 3) lv st (eR E k j k') M L cn sn f) : JF κ P pc lv (.ref a :: .ref (E.2.1 k) :: st) E M L cn sn f :=
  fun r hr H locs ls hG hl => va_putF C.1 C.2.1 C.ts F.2.1 ty F.2.2.1 F.2.2.2 C.own C.K hG.1 hG.2.1 hG.2.2 k (wd_obj hS _) F.1 j hj (C.w hL) (fun _ h => h) hfin hin hdecl (F.2.2.1 j hj) hn hfit (by simpa using (List.getElem?_eq_some_iff.mp hk).1) hd (fun H1 locs1 hP hD hS1 => by
    subst ha
    have e := wd_setR (G := gG (kγ κ)) (M := M) (L := L) (k' := k') (e := .inr (c, ((kinds c).mapIdx (fun j t => fv E M L k j t)).set j (.ref (E.2.1 k')))) (j := j) hS (by rw [fld_setR hk]; rfl) (gW (kγ κ))
    exact kk r hr H1 locs1 ls ⟨by unfold wdw; rw [← e]; exact hP, by unfold wdw; rw [← e]; exact hD, hS1⟩ hl)
theorem j_putIF (C : Cx κ cc own rm ret) {k c j i N : Nat} {Cn : String} {T : u_T} {ty : Nat → FieldType} {x : Int32} (hd : decode cc pc = .ok (.putfield i, 3)) (hin : (kmeth κ).name = "<init>") (F : FC c Cn T N ty) (hS : E.1[k]? = some (.inl c)) (hj : j < N) (hk : (kinds c)[j]? = some 0) (hfin : (T j).2.2.2 = true) (hdecl : (T j).1 = own) (hn : narrow (ty j) (.int x) = .int x) (hfit : fits (ty j) (.int x) = true) (hL : Cond.fieldLink own i (T j).1 (T j).2.1 (T j).2.2.1 ∈ TB) (kk : JF κ P (pc + 3) lv st E (up2 M k j x) L cn sn f) : JF κ P pc lv (.int x :: .ref (E.2.1 k) :: st) E M L cn sn f :=
  fun r hr H locs ls hG hl => va_putF C.1 C.2.1 C.ts F.2.1 ty F.2.2.1 F.2.2.2 C.own C.K hG.1 hG.2.1 hG.2.2 k (wd_obj hS _) F.1 j hj (C.w hL) (fun _ h => h) hfin hin hdecl (F.2.2.1 j hj) hn hfit (by simpa using (List.getElem?_eq_some_iff.mp hk).1) hd (fun H1 locs1 hP hD hS1 => by
    have e := wd_set (G := gG (kγ κ)) (M := M) (M' := up2 M k j x) (L := L) (L' := L) (e := .inr (c, ((kinds c).mapIdx (fun j t => fv E M L k j t)).set j (.int x))) hS (by rw [fld_set hk]; rfl) (fun a h => up2_ne h) (fun _ _ => rfl) (gW (kγ κ))
    exact kk r hr H1 locs1 ls ⟨by unfold wdw; rw [← e]; exact hP, by unfold wdw; rw [← e]; exact hD, hS1⟩ hl)
theorem j_aast (C : Cx κ cc own rm ret) {k n t k' c a : Nat} {i : Int32} {q : vw_C} (hd : decode cc pc = .ok (.aastore, 1)) (hS : E.1[k]? = some (.inr (t + 2, n))) (ht : t < 2) (hS' : E.1[k']? = some (.inl c)) (hq : vwCl[c]? = some q) (hqn : (if t = 0 then RX3 else RX4) = q.1) (ha : a = E.2.1 k') (hix : ix i n = true) (kk : JF κ P (pc + 1) lv st (eR E k i.toNatClampNeg k') M L cn sn f) : JF κ P pc lv (.ref a :: .int i :: .ref (E.2.1 k) :: st) E M L cn sn f :=
  fun r hr H locs ls hG hl => by
    subst ha
    refine va_astq C.1 C.2.1 C.K hG.1 hG.2.1 hG.2.2 k (t + 2) k' c (wd_arq hS _) (by rw [tysG_q _ t ht, hqn]) (wd_obj hS' _) hq (ix_in hix) hd (fun H1 locs1 hP hD hS1 => ?_)
    have e := wd_setR (G := gG (kγ κ)) (M := M) (L := L) (k' := k') (j := i.toNatClampNeg) (e := .inl (gG (kγ κ) (t + 2), n, .inr (.inr (.inr (.inr (va_up (fun j => (E.2.2 k j).map E.2.1) i.toNatClampNeg (some (E.2.1 k')))))))) hS (by
      simp only [cE]
      rw [if_neg (by omega)]
      congr 7
      funext j
      simp only [eR, up2, va_up]
      by_cases hj : j = i.toNatClampNeg <;> simp [hj]) (gW (kγ κ))
    exact kk r hr H1 locs1 ls ⟨by unfold wdw; rw [← e]; exact hP, by unfold wdw; rw [← e]; exact hD, hS1⟩ hl
end AL
