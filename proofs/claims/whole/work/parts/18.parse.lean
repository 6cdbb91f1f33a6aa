/-! PURE: the parser (a fault's place, or where to go on and the code), what its code does -/
abbrev PR := Nat ⊕ (Nat × List Int32)
def pbd (r : PR) (k : Nat → List Int32 → PR) : PR := match r with
  | .inl q => .inl q
  | .inr x => k x.1 x.2
theorem pbd_l (q : Nat) (k : Nat → List Int32 → PR) : pbd (.inl q) k = .inl q := rfl
theorem pbd_r (p : Nat) (c : List Int32) (k : Nat → List Int32 → PR) : pbd (.inr (p, c)) k = k p c := rfl
def chn (f : Nat → Int32) (n : Nat) (op : Int32 → Option Int32) (sub : Nat → PR) : Nat → Nat → List Int32 → PR
  | 0, p, c => .inr (p, c)
  | m + 1, p, c => match op (tc f n p) with
    | none => .inr (p, c)
    | some o => pbd (sub (te f n p)) fun p' c' => chn f n op sub m p' (c ++ c' ++ [o])
def opT (t : Int32) : Option Int32 := if t = 42 then some (-15) else none
def opS (t : Int32) : Option Int32 := if t = 43 then some (-13) else if t = 45 then some (-14) else none
def opC (t : Int32) : Option Int32 := if t = 60 then some (-11) else if t = 61 then some (-12) else none
def opA (t : Int32) : Option Int32 := if t = 263 then some (-10) else none
def opE (t : Int32) : Option Int32 := if t = 262 then some (-9) else none
def mkTerm (f : Nat → Int32) (n : Nat) (one : Nat → PR) (p : Nat) : PR := pbd (one p) fun p c => chn f n opT one FU p c
def mkSum (f : Nat → Int32) (n : Nat) (one : Nat → PR) (p : Nat) : PR := pbd (mkTerm f n one p) fun p c => chn f n opS (mkTerm f n one) FU p c
def mkCmp (f : Nat → Int32) (n : Nat) (one : Nat → PR) (p : Nat) : PR := pbd (mkSum f n one p) fun p c => match opC (tc f n p) with
  | none => .inr (p, c)
  | some o => pbd (mkSum f n one (te f n p)) fun p' c' => .inr (p', c ++ c' ++ [o])
def mkAnd (f : Nat → Int32) (n : Nat) (no : Nat → PR) (p : Nat) : PR := pbd (no p) fun p c => chn f n opA no FU p c
def mkE (f : Nat → Int32) (n : Nat) (no : Nat → PR) (p : Nat) : PR := pbd (mkAnd f n no p) fun p c => chn f n opE (mkAnd f n no) FU p c
abbrev PL := (Nat → PR) × (Nat → PR) × (Nat → PR)
def mkOne (f : Nat → Int32) (n : Nat) (up : Option PL) (p : Nat) : PR :=
  if tc f n p = 257 then .inr (te f n p, [tv f n p]) else if tc f n p < 0 then .inr (te f n p, [tc f n p]) else
  if tc f n p = 45 then (match up with
    | none => .inl (ta f n p)
    | some u => pbd (u.1 (te f n p)) fun p' c => .inr (p', c ++ [-8])) else
  if tc f n p = 40 then (match up with
    | none => .inl (ta f n p)
    | some u => pbd (u.2.2 (te f n p)) fun p' c => if tc f n p' = 41 then .inr (te f n p', c) else .inl (ta f n p')) else .inl (ta f n p)
def mkNot (f : Nat → Int32) (n : Nat) (up : Option PL) (one : Nat → PR) (p : Nat) : PR :=
  if tc f n p = 264 then (match up with
    | none => .inl (ta f n p)
    | some u => pbd (u.2.1 (te f n p)) fun p' c => .inr (p', c ++ [-7])) else mkCmp f n one p
def mkPL (f : Nat → Int32) (n : Nat) (up : Option PL) : PL := (mkOne f n up, mkNot f n up (mkOne f n up), mkE f n (mkNot f n up (mkOne f n up)))
def pl (f : Nat → Int32) (n : Nat) : Nat → PL
  | 0 => mkPL f n none
  | d + 1 => mkPL f n (some (pl f n d))
/-- what is one before the level: nothing, or the level with one open fewer -/
def upl (f : Nat → Int32) (n : Nat) : Nat → Option PL
  | 0 => none
  | d + 1 => some (pl f n d)
theorem pl_up (f : Nat → Int32) (n d : Nat) : pl f n d = mkPL f n (upl f n d) := by cases d <;> rfl
theorem tc_256 {f : Nat → Int32} {n p : Nat} (h : tc f n p ≠ 256) : ¬ n ≤ ta f n p := fun q => h (by unfold tc; rw [if_pos q])
theorem tc_end {f : Nat → Int32} {n p : Nat} (h : n ≤ p) (hp : p ≤ n) : tc f n p = 256 := by unfold tc; rw [if_pos (Nat.le_trans h (ta_le hp))]
theorem te_go {f : Nat → Int32} {n p : Nat} (hp : p ≤ n) (h : tc f n p ≠ 256) : p < te f n p := Nat.lt_of_le_of_lt (ta_le hp) (te_gt hp (tc_256 h))
/-- the parser gets on, and by more than it writes -/
def PP (n : Nat) (r : PR) (p : Nat) : Prop := match r with
  | .inl q => q ≤ n
  | .inr x => x.1 ≤ n ∧ p + x.2.length ≤ x.1 ∧ 1 ≤ x.2.length
theorem PP_bd {n : Nat} {r : PR} {p p0 : Nat} {k : Nat → List Int32 → PR} (h : PP n r p) (g : ∀ p' c, p' ≤ n → p + c.length ≤ p' → 1 ≤ c.length → PP n (k p' c) p0) : PP n (pbd r k) p0 := by
  cases r with
  | inl q => exact h
  | inr x => exact g x.1 x.2 h.1 h.2.1 h.2.2
theorem PP_chn {f : Nat → Int32} {n : Nat} {op : Int32 → Option Int32} {sub : Nat → PR} (ho : op 256 = none) (hs : ∀ p, p ≤ n → PP n (sub p) p) : ∀ (m p0 p : Nat) (c : List Int32), p ≤ n → p0 + c.length ≤ p → 1 ≤ c.length → PP n (chn f n op sub m p c) p0 := by
  intro m
  induction m with
  | zero => intro p0 p c h1 h2 h3; exact ⟨h1, h2, h3⟩
  | succ m ih =>
    intro p0 p c h1 h2 h3
    rw [chn]
    cases ho' : op (tc f n p) with
    | none => exact ⟨h1, h2, h3⟩
    | some o =>
      have hne : tc f n p ≠ 256 := fun e => by rw [e, ho] at ho'; cases ho'
      have hg := te_go h1 hne
      refine PP_bd (hs (te f n p) (te_n h1)) (fun p' c' g1 g2 g3 => ih p0 p' _ g1 ?_ ?_)
      · simp only [List.length_append, List.length_cons, List.length_nil]; omega
      · simp only [List.length_append, List.length_cons, List.length_nil]; omega
theorem PP_term {f : Nat → Int32} {n : Nat} {one : Nat → PR} (hs : ∀ p, p ≤ n → PP n (one p) p) (p : Nat) (hp : p ≤ n) : PP n (mkTerm f n one p) p :=
  PP_bd (hs p hp) fun _ _ g1 g2 g3 => PP_chn (by decide) hs _ _ _ _ g1 g2 g3
theorem PP_sum {f : Nat → Int32} {n : Nat} {one : Nat → PR} (hs : ∀ p, p ≤ n → PP n (one p) p) (p : Nat) (hp : p ≤ n) : PP n (mkSum f n one p) p :=
  PP_bd (PP_term hs p hp) fun _ _ g1 g2 g3 => PP_chn (by decide) (PP_term hs) _ _ _ _ g1 g2 g3
theorem PP_cmp {f : Nat → Int32} {n : Nat} {one : Nat → PR} (hs : ∀ p, p ≤ n → PP n (one p) p) (p : Nat) (hp : p ≤ n) : PP n (mkCmp f n one p) p := by
  refine PP_bd (PP_sum hs p hp) fun p' c g1 g2 g3 => ?_
  cases ho : opC (tc f n p') with
  | none => exact ⟨g1, g2, g3⟩
  | some o =>
    have hne : tc f n p' ≠ 256 := fun e => by rw [e, show opC 256 = none from rfl] at ho; cases ho
    have hg := te_go g1 hne
    refine PP_bd (PP_sum hs _ (te_n g1)) fun p2 c2 q1 q2 q3 => ⟨q1, ?_, ?_⟩
    · simp only [List.length_append, List.length_cons, List.length_nil]; omega
    · simp only [List.length_append, List.length_cons, List.length_nil]; omega
theorem PP_and {f : Nat → Int32} {n : Nat} {no : Nat → PR} (hs : ∀ p, p ≤ n → PP n (no p) p) (p : Nat) (hp : p ≤ n) : PP n (mkAnd f n no p) p :=
  PP_bd (hs p hp) fun _ _ g1 g2 g3 => PP_chn (by decide) hs _ _ _ _ g1 g2 g3
theorem PP_E {f : Nat → Int32} {n : Nat} {no : Nat → PR} (hs : ∀ p, p ≤ n → PP n (no p) p) (p : Nat) (hp : p ≤ n) : PP n (mkE f n no p) p :=
  PP_bd (PP_and hs p hp) fun _ _ g1 g2 g3 => PP_chn (by decide) (PP_and hs) _ _ _ _ g1 g2 g3
def PPL (n : Nat) (u : PL) : Prop := (∀ p, p ≤ n → PP n (u.1 p) p) ∧ (∀ p, p ≤ n → PP n (u.2.1 p) p) ∧ (∀ p, p ≤ n → PP n (u.2.2 p) p)
theorem PP_one {f : Nat → Int32} {n : Nat} {up : Option PL} (hu : ∀ u, up = some u → PPL n u) (p : Nat) (hp : p ≤ n) : PP n (mkOne f n up p) p := by
  have hta := ta_n (f := f) hp
  have hte := te_n (f := f) hp
  have hg := te_go (f := f) hp
  unfold mkOne
  by_cases h1 : tc f n p = 257
  · rw [if_pos h1]; exact ⟨hte, hg (by rw [h1]; decide), Nat.le_refl _⟩
  rw [if_neg h1]
  by_cases h2 : tc f n p < 0
  · rw [if_pos h2]; exact ⟨hte, hg (fun e => by rw [e] at h2; exact absurd h2 (by decide)), Nat.le_refl _⟩
  rw [if_neg h2]
  by_cases h3 : tc f n p = 45
  · rw [if_pos h3]
    have hg := hg (by rw [h3]; decide)
    cases up with
    | none => exact hta
    | some u => exact PP_bd ((hu u rfl).1 _ hte) fun p' c g1 g2 g3 => ⟨g1, by simp only [List.length_append, List.length_cons, List.length_nil]; omega, by simp only [List.length_append, List.length_cons, List.length_nil]; omega⟩
  rw [if_neg h3]
  by_cases h4 : tc f n p = 40
  · rw [if_pos h4]
    have hg := hg (by rw [h4]; decide)
    cases up with
    | none => exact hta
    | some u =>
      refine PP_bd ((hu u rfl).2.2 _ hte) fun p' c g1 g2 g3 => ?_
      by_cases h5 : tc f n p' = 41
      · simp only [if_pos h5]
        have := te_go (f := f) g1 (by rw [h5]; decide)
        exact ⟨te_n g1, by show p + c.length ≤ te f n p'; omega, g3⟩
      · simp only [if_neg h5]; exact ta_n g1
  rw [if_neg h4]; exact hta
theorem PP_not {f : Nat → Int32} {n : Nat} {up : Option PL} {one : Nat → PR} (hu : ∀ u, up = some u → PPL n u) (hs : ∀ p, p ≤ n → PP n (one p) p) (p : Nat) (hp : p ≤ n) : PP n (mkNot f n up one p) p := by
  unfold mkNot
  by_cases h1 : tc f n p = 264
  · rw [if_pos h1]
    have hg := te_go (f := f) hp (by rw [h1]; decide)
    cases up with
    | none => exact ta_n hp
    | some u => exact PP_bd ((hu u rfl).2.1 _ (te_n hp)) fun p' c g1 g2 g3 => ⟨g1, by simp only [List.length_append, List.length_cons, List.length_nil]; omega, by simp only [List.length_append, List.length_cons, List.length_nil]; omega⟩
  · rw [if_neg h1]; exact PP_cmp hs p hp
theorem PP_mk {f : Nat → Int32} {n : Nat} {up : Option PL} (hu : ∀ u, up = some u → PPL n u) : PPL n (mkPL f n up) :=
  ⟨PP_one hu, PP_not hu (PP_one hu), PP_E (PP_not hu (PP_one hu))⟩
theorem PP_pl (f : Nat → Int32) (n : Nat) : ∀ d, PPL n (pl f n d)
  | 0 => PP_mk (fun _ h => by cases h)
  | d + 1 => PP_mk (fun _ h => by cases h; exact PP_pl f n d)
theorem PP_up (f : Nat → Int32) (n : Nat) : ∀ d u, upl f n d = some u → PPL n u
  | 0, _, h => by cases h
  | d + 1, _, h => by cases h; exact PP_pl f n d
/-! what code does, on a stack -/
def bin (o x y : Int32) : Int32 :=
  if o = -9 then (if x = 0 then (if y = 0 then 0 else 1) else 1) else if o = -10 then (if x = 0 then 0 else if y = 0 then 0 else 1) else
  if o = -11 then (if x < y then 1 else 0) else if o = -12 then (if x = y then 1 else 0) else if o = -13 then x + y else if o = -14 then x - y else x * y
def un (o x : Int32) : Int32 := if o = -8 then -x else if x = 0 then 1 else 0
def stp (ρ : Int32 → Int32) (o : Int32) (st : List Int32) : Option (List Int32) :=
  if o < -6 then (if o < -8 then (match st with
      | y :: x :: s => some (bin o x y :: s)
      | _ => none) else (match st with
      | x :: s => some (un o x :: s)
      | _ => none))
  else if 40 ≤ st.length then none else some ((if o < 0 then ρ o else o) :: st)
def rnn (ρ : Int32 → Int32) : List Int32 → List Int32 → Option (List Int32)
  | [], st => some st
  | o :: c, st => (stp ρ o st).bind (rnn ρ c)
theorem rnn_app (ρ : Int32 → Int32) : ∀ (c d st : List Int32), rnn ρ (c ++ d) st = (rnn ρ c st).bind (rnn ρ d)
  | [], d, st => rfl
  | o :: c, d, st => by
    show (stp ρ o st).bind (rnn ρ (c ++ d)) = ((stp ρ o st).bind (rnn ρ c)).bind (rnn ρ d)
    cases stp ρ o st with
    | none => rfl
    | some s => exact rnn_app ρ c d s
/-- the code puts v on the stack, with at most D more on it -/
def VV (ρ : Int32 → Int32) (c : List Int32) (D : Nat) (v : Int32) : Prop := ∀ st : List Int32, st.length + D ≤ 40 → rnn ρ c st = some (v :: st)
theorem VV.mono {ρ : Int32 → Int32} {c : List Int32} {D K : Nat} {v : Int32} (h : VV ρ c D v) (hk : D ≤ K) : VV ρ c K v := fun st hs => h st (by omega)
theorem VV.bin {ρ : Int32 → Int32} {c c' : List Int32} {D D' K : Nat} {v v' o : Int32} (h : VV ρ c D v) (h' : VV ρ c' D' v') (ho : o < -8) (hk : D ≤ K) (hk' : D' + 1 ≤ K) : VV ρ (c ++ c' ++ [o]) K (bin o v v') := by
  intro st hs
  rw [rnn_app, rnn_app, h st (by omega), Option.bind_some, h' (v :: st) (by simp only [List.length_cons]; omega), Option.bind_some, rnn, stp, if_pos (by rw [i_lt] at ho ⊢; have : (-8 : Int32).toInt = -8 := rfl; have : (-6 : Int32).toInt = -6 := rfl; omega), if_pos ho]
  rfl
theorem VV.un {ρ : Int32 → Int32} {c : List Int32} {D : Nat} {v o : Int32} (h : VV ρ c D v) (ho : o = -7 ∨ o = -8) : VV ρ (c ++ [o]) D (un o v) := by
  intro st hs
  rw [rnn_app, h st hs, Option.bind_some, rnn]; unfold stp
  rw [if_pos (by rcases ho with rfl | rfl <;> decide), if_neg (by rcases ho with rfl | rfl <;> decide)]
  rfl
theorem VV.lit {ρ : Int32 → Int32} {x : Int32} (h : 0 ≤ x) : VV ρ [x] 1 x := by
  intro st hs
  rw [i_le] at h
  have h0 : (0 : Int32).toInt = 0 := rfl
  rw [rnn]; unfold stp
  rw [if_neg (by rw [i_lt]; have : (-6 : Int32).toInt = -6 := rfl; omega), if_neg (by omega), if_neg (by rw [i_lt]; omega)]
  rfl
theorem VV.name {ρ : Int32 → Int32} {x : Int32} (h : ¬ x < -6) (h0 : x < 0) : VV ρ [x] 1 (ρ x) := by
  intro st hs
  rw [rnn]; unfold stp
  rw [if_neg h, if_neg (by omega), if_pos h0]
  rfl
