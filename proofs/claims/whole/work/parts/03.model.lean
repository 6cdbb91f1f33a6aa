/-! THE MEMORY MODEL: cells by number, shapes, ints, longs, references; the judgement JF: 'from here the method ends with what f says' -/
abbrev Ds : Type := Nat ⊕ (Nat × Nat)
abbrev Mi : Type := Nat → Nat → Int32
abbrev Ml : Type := Nat → Nat → Int64
abbrev Mr : Type := Nat → Nat → Option Nat
abbrev Ev : Type := List Ds × (Nat → Nat) × Mr
def up2 {α : Type} (M : Nat → Nat → α) (k j : Nat) (x : α) : Nat → Nat → α := fun a b => if a = k then (if b = j then x else M a b) else M a b
theorem up2_ne {α : Type} {M : Nat → Nat → α} {k j a : Nat} {x : α} (h : a ≠ k) : up2 M k j x a = M a := by funext b; simp [up2, h]
theorem up2_self (M : Mi) (k j : Nat) (x : Int32) : up2 M k j x k = upd (M k) j x := by funext b; simp [up2, upd]
theorem up2_at {α : Type} (M : Nat → Nat → α) (k j : Nat) (x : α) : up2 M k j x k j = x := by simp [up2]
theorem up2_off {α : Type} {M : Nat → Nat → α} {k j b : Nat} {x : α} (h : b ≠ j) : up2 M k j x k b = M k b := by simp [up2, h]
/-- a whole row anew -/
def upr {α : Type} (M : Nat → Nat → α) (k : Nat) (f : Nat → α) : Nat → Nat → α := fun a => if a = k then f else M a
theorem upr_ne {α : Type} {M : Nat → Nat → α} {k a : Nat} {f : Nat → α} (h : a ≠ k) : upr M k f a = M a := by simp [upr, h]
theorem upr_self {α : Type} (M : Nat → Nat → α) (k : Nat) (f : Nat → α) : upr M k f k = f := by simp [upr]
def kinds : Nat → List Nat
  | 0 => [1, 1, 0, 0, 0, 2, 2, 2, 2]
  | 1 => [2, 2, 0]
  | 2 => [2, 2, 0, 0, 0, 0, 0, 0, 0]
  | 3 => [2, 0, 0]
  | 4 => [2, 0, 0]
  | 5 => [2, 2, 2, 2, 2, 2, 2, 0]
  | 6 => [0, 2, 2, 0, 0, 2, 0, 0, 1, 1, 2, 0, 0, 0, 0, 0, 0, 0, 0, 0, 0, 0, 0, 0, 1, 0, 0, 0, 2, 0, 0, 2, 0, 0, 0, 1, 1, 2, 2, 2, 2]
  | _ => []
def fv (E : Ev) (M : Mi) (L : Ml) (k j t : Nat) : Value := match t with
  | 0 => .int (M k j)
  | 1 => .long (L k j)
  | _ => va_rf ((E.2.2 k j).map E.2.1)
def cE (G : Nat → ClassId) (E : Ev) (M : Mi) (L : Ml) (k : Nat) (d : Ds) : va_E := match d with
  | .inl c => .inr (c, (kinds c).mapIdx (fun j t => fv E M L k j t))
  | .inr (t, n) => .inl (G t, n, if t < 2 then .inl (M k) else .inr (.inr (.inr (.inr (fun j => (E.2.2 k j).map E.2.1)))))
def wd (G : Nat → ClassId) (E : Ev) (M : Mi) (L : Ml) : va_W := E.1.mapIdx (fun k d => (E.2.1 k, cE G E M L k d))
theorem wd_len (G : Nat → ClassId) (E : Ev) (M : Mi) (L : Ml) : (wd G E M L).length = E.1.length := by simp [wd]
theorem wd_get {G : Nat → ClassId} {E : Ev} {M : Mi} {L : Ml} {k : Nat} {d : Ds} (h : E.1[k]? = some d) (wr : va_W) : (wd G E M L ++ wr)[k]? = some (E.2.1 k, cE G E M L k d) := by
  have hl := (List.getElem?_eq_some_iff.mp h).1
  rw [List.getElem?_append_left (by rw [wd_len]; exact hl)]
  simp [wd, List.getElem?_mapIdx, h]
theorem wd_fld {E : Ev} {M : Mi} {L : Ml} {k c j t : Nat} (h : (kinds c)[j]? = some t) : ((kinds c).mapIdx (fun j t => fv E M L k j t))[j]? = some (fv E M L k j t) := by
  simp [List.getElem?_mapIdx, h]
theorem cE_ne {G : Nat → ClassId} {E : Ev} {M M' : Mi} {L L' : Ml} {k : Nat} (d : Ds) (h : M' k = M k) (h2 : L' k = L k) : cE G E M' L' k d = cE G E M L k d := by
  cases d with
  | inl c =>
    simp only [cE]
    congr 2
    refine List.ext_getElem? (fun i => ?_)
    simp only [List.getElem?_mapIdx]
    cases (kinds c)[i]? with
    | none => rfl
    | some t => simp only [Option.map_some]; congr 1; match t with
      | 0 => simp [fv, h]
      | 1 => simp [fv, h2]
      | t + 2 => rfl
  | inr q => obtain ⟨t, n⟩ := q; simp [cE, h]
theorem wd_set {G : Nat → ClassId} {E : Ev} {M M' : Mi} {L L' : Ml} {k : Nat} {d : Ds} {e : va_E} (h : E.1[k]? = some d) (he : e = cE G E M' L' k d) (hM : ∀ a, a ≠ k → M' a = M a) (hL : ∀ a, a ≠ k → L' a = L a) (wr : va_W) : (wd G E M L ++ wr).set k (E.2.1 k, e) = wd G E M' L' ++ wr := by
  have hl := (List.getElem?_eq_some_iff.mp h).1
  rw [List.set_append_left _ _ (by rw [wd_len]; exact hl)]
  congr 1
  refine List.ext_getElem? (fun i => ?_)
  by_cases hi : i = k
  · subst hi
    rw [List.getElem?_set_self (by rw [wd_len]; exact hl)]
    simp [wd, List.getElem?_mapIdx, h, he]
  · rw [List.getElem?_set_ne (fun q => hi q.symm)]
    simp only [wd, List.getElem?_mapIdx]
    cases E.1[i]? with
    | none => rfl
    | some d' => simp only [Option.map_some]; rw [cE_ne d' (hM i hi) (hL i hi)]
theorem fld_set {E : Ev} {M : Mi} {L : Ml} {k c j : Nat} {x : Int32} (h : (kinds c)[j]? = some 0) : ((kinds c).mapIdx (fun j t => fv E M L k j t)).set j (.int x) = (kinds c).mapIdx (fun i t => fv E (up2 M k j x) L k i t) := by
  have hl := (List.getElem?_eq_some_iff.mp h).1
  refine List.ext_getElem? (fun i => ?_)
  by_cases hi : i = j
  · subst hi
    rw [List.getElem?_set_self (by simpa using hl)]
    simp [List.getElem?_mapIdx, h, fv, up2]
  · rw [List.getElem?_set_ne (fun q => hi q.symm)]
    simp only [List.getElem?_mapIdx]
    cases (kinds c)[i]? with
    | none => rfl
    | some t => simp only [Option.map_some]; congr 1; match t with
      | 0 => simp [fv, up2, hi]
      | 1 => rfl
      | t + 2 => rfl
theorem fld_setL {E : Ev} {M : Mi} {L : Ml} {k c j : Nat} {x : Int64} (h : (kinds c)[j]? = some 1) : ((kinds c).mapIdx (fun j t => fv E M L k j t)).set j (.long x) = (kinds c).mapIdx (fun i t => fv E M (up2 L k j x) k i t) := by
  have hl := (List.getElem?_eq_some_iff.mp h).1
  refine List.ext_getElem? (fun i => ?_)
  by_cases hi : i = j
  · subst hi
    rw [List.getElem?_set_self (by simpa using hl)]
    simp [List.getElem?_mapIdx, h, fv, up2]
  · rw [List.getElem?_set_ne (fun q => hi q.symm)]
    simp only [List.getElem?_mapIdx]
    cases (kinds c)[i]? with
    | none => rfl
    | some t => simp only [Option.map_some]; congr 1; match t with
      | 0 => rfl
      | 1 => simp [fv, up2, hi]
      | t + 2 => rfl
/-! the locals, a place a slot -/
def lo_has (ls : Array Slot) (nL : Nat) (lv : List (Option Value)) : Prop := ls.size = nL ∧ lv_wf ls ∧ ∀ (i : Nat) (v : Value), lv[i]? = some (some v) → ls[i]? = some (.val v)
def lo_al (lv : List (Option Value)) : List (Nat × Value) := (List.range lv.length).filterMap (fun i => (lv[i]?).bind (fun o => o.map (fun v => (i, v))))
theorem lo_al_mem {lv : List (Option Value)} {i : Nat} {v : Value} : (i, v) ∈ lo_al lv ↔ lv[i]? = some (some v) := by
  simp only [lo_al, List.mem_filterMap, List.mem_range]
  constructor
  · rintro ⟨a, ha, h⟩
    cases hq : lv[a]? with
    | none => rw [hq] at h; cases h
    | some o =>
      rw [hq] at h
      cases o with
      | none => cases h
      | some w =>
        simp only [Option.bind_some, Option.map_some, Option.some.injEq, Prod.mk.injEq] at h
        obtain ⟨rfl, rfl⟩ := h
        exact hq
  · intro h
    exact ⟨i, (List.getElem?_eq_some_iff.mp h).1, by rw [h]; rfl⟩
theorem lo_to {ls : Array Slot} {nL : Nat} {lv : List (Option Value)} (h : lo_has ls nL lv) : lv_has ls nL (lo_al lv) := ⟨h.1, h.2.1, fun q hq => h.2.2 q.1 q.2 (lo_al_mem.mp hq)⟩
def lo_st (lv : List (Option Value)) (i : Nat) (v : Value) : List (Option Value) := lv.mapIdx (fun j o => if j = i then some v else if j + 1 = i then (match o with | some w => if w.category = 2 then none else some w | none => none) else o)
def lo_st2 (lv : List (Option Value)) (i : Nat) (v : Value) : List (Option Value) := lv.mapIdx (fun j o => if j = i then some v else if j = i + 1 then none else if j + 1 = i then (match o with | some w => if w.category = 2 then none else some w | none => none) else o)
theorem lo_of1 {ls : Array Slot} {nL i : Nat} {lv : List (Option Value)} {v : Value} (h : lv_has ls nL ((i, v) :: (lo_al lv).filter (fun q => !(q.1 == i) && !(q.1 + 1 == i && q.2.category == 2)))) : lo_has ls nL (lo_st lv i v) := by
  refine ⟨h.1, h.2.1, fun j w hj => ?_⟩
  simp only [lo_st, List.getElem?_mapIdx] at hj
  cases hq : lv[j]? with
  | none => rw [hq] at hj; cases hj
  | some o =>
    rw [hq] at hj
    simp only [Option.map_some, Option.some.injEq] at hj
    by_cases e : j = i
    · rw [if_pos e] at hj; cases hj; subst e; exact h.2.2 _ List.mem_cons_self
    · rw [if_neg e] at hj
      by_cases e2 : j + 1 = i
      · rw [if_pos e2] at hj
        cases o with
        | none => cases hj
        | some w' =>
          simp only at hj
          by_cases e3 : w'.category = 2
          · rw [if_pos e3] at hj; cases hj
          · rw [if_neg e3] at hj; cases hj
            exact h.2.2 (j, w) (List.mem_cons_of_mem _ (List.mem_filter.mpr ⟨lo_al_mem.mpr hq, by simp [e, e3]⟩))
      · rw [if_neg e2] at hj
        subst hj
        exact h.2.2 (j, w) (List.mem_cons_of_mem _ (List.mem_filter.mpr ⟨lo_al_mem.mpr hq, by simp [e, e2]⟩))
theorem lo_of2 {ls : Array Slot} {nL i : Nat} {lv : List (Option Value)} {v : Value} (h : lv_has ls nL ((i, v) :: (lo_al lv).filter (fun q => !(q.1 == i) && (!(q.1 == i + 1) && !(q.1 + 1 == i && q.2.category == 2))))) : lo_has ls nL (lo_st2 lv i v) := by
  refine ⟨h.1, h.2.1, fun j w hj => ?_⟩
  simp only [lo_st2, List.getElem?_mapIdx] at hj
  cases hq : lv[j]? with
  | none => rw [hq] at hj; cases hj
  | some o =>
    rw [hq] at hj
    simp only [Option.map_some, Option.some.injEq] at hj
    by_cases e : j = i
    · rw [if_pos e] at hj; cases hj; subst e; exact h.2.2 _ List.mem_cons_self
    · rw [if_neg e] at hj
      by_cases e0 : j = i + 1
      · rw [if_pos e0] at hj; cases hj
      · rw [if_neg e0] at hj
        by_cases e2 : j + 1 = i
        · rw [if_pos e2] at hj
          cases o with
          | none => cases hj
          | some w' =>
            simp only at hj
            by_cases e3 : w'.category = 2
            · rw [if_pos e3] at hj; cases hj
            · rw [if_neg e3] at hj; cases hj
              exact h.2.2 (j, w) (List.mem_cons_of_mem _ (List.mem_filter.mpr ⟨lo_al_mem.mpr hq, by simp [e, e0, e3]⟩))
        · rw [if_neg e2] at hj
          subst hj
          exact h.2.2 (j, w) (List.mem_cons_of_mem _ (List.mem_filter.mpr ⟨lo_al_mem.mpr hq, by simp [e, e0, e2]⟩))
/-- fewer locals -/
theorem lo_sub {ls : Array Slot} {nL : Nat} {lv lv' : List (Option Value)} (h : lo_has ls nL lv) (hs : ∀ (i : Nat) (v : Value), lv'[i]? = some (some v) → lv[i]? = some (some v)) : lo_has ls nL lv' := ⟨h.1, h.2.1, fun i v hi => h.2.2 i v (hs i v hi)⟩
def lo_args : List Value → List (Option Value)
  | [] => []
  | v :: vs => if v.category = 2 then some v :: none :: lo_args vs else some v :: lo_args vs
theorem lo_args_in : ∀ (vs : List Value) (n i : Nat) (v : Value), (lo_args vs)[i]? = some (some v) → (n + i, v) ∈ lv_args n vs := by
  intro vs
  induction vs with
  | nil => intro n i v h; simp [lo_args] at h
  | cons w vs ih =>
    intro n i v h
    unfold lo_args at h
    unfold lv_args
    by_cases hc : w.category = 2
    · rw [if_pos hc] at h ⊢
      match i with
      | 0 => simp at h; subst h; exact List.mem_cons_self
      | 1 => simp at h
      | i + 2 =>
        simp at h
        exact List.mem_cons_of_mem _ (by have := ih (n + 2) i v h; rwa [show n + 2 + i = n + (i + 2) by omega] at this)
    · rw [if_neg hc] at h ⊢
      match i with
      | 0 => simp at h; subst h; exact List.mem_cons_self
      | i + 1 =>
        simp at h
        exact List.mem_cons_of_mem _ (by have := ih (n + 1) i v h; rwa [show n + 1 + i = n + (i + 1) by omega] at this)
theorem lo_entry (vs : List Value) {n : Nat} (h : (lg_sl vs).length ≤ n) {lv : List (Option Value)} (hlv : lo_args vs ++ List.replicate (n - (lo_args vs).length) none = lv) : lo_has ((lg_sl vs ++ List.replicate (n - (lg_sl vs).length) Slot.unset).toArray) n lv := by
  have h1 := lv_entry vs h
  refine ⟨h1.1, h1.2.1, fun i v hi => ?_⟩
  subst hlv
  by_cases hl : i < (lo_args vs).length
  · rw [List.getElem?_append_left hl] at hi
    have := lo_args_in vs 0 i v hi
    rw [Nat.zero_add] at this
    exact h1.2.2 (i, v) this
  · rw [List.getElem?_append_right (by omega)] at hi
    have h9 := List.mem_of_getElem? hi
    rw [List.mem_replicate] at h9
    cases h9.2

