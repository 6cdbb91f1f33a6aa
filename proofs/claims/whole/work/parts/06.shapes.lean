/-! SHAPES: what is where -/
def tlen (E : Ev) (t : Nat) : Nat := match E.1[t + 1]? with
  | some (.inr (_, n)) => n
  | _ => 0
def FAt (E : Ev) (b : Nat) : Prop := E.1[b]? = some (.inl 0) ∧ E.2.2 b 5 = some (b + 1) ∧ E.1[(b + 1)]? = some (.inr (0, 5)) ∧ E.2.2 b 6 = some (b + 2) ∧ E.1[(b + 2)]? = some (.inr (0, 5)) ∧ E.2.2 b 7 = some (b + 3) ∧ E.1[(b + 3)]? = some (.inr (0, 5)) ∧ E.2.2 b 8 = some (b + 4) ∧ E.1[(b + 4)]? = some (.inr (0, 5))
theorem FAt.S {E : Ev} {b : Nat} (h : FAt E b) : E.1[b]? = some (.inl 0) := h.1
theorem FAt.R_kind {E : Ev} {b : Nat} (h : FAt E b) : E.2.2 b 5 = some (b + 1) := h.2.1
theorem FAt.P_kind {E : Ev} {b : Nat} (h : FAt E b) : E.1[(b + 1)]? = some (.inr (0, 5)) := h.2.2.1
theorem FAt.R_number {E : Ev} {b : Nat} (h : FAt E b) : E.2.2 b 6 = some (b + 2) := h.2.2.2.1
theorem FAt.P_number {E : Ev} {b : Nat} (h : FAt E b) : E.1[(b + 2)]? = some (.inr (0, 5)) := h.2.2.2.2.1
theorem FAt.R_on {E : Ev} {b : Nat} (h : FAt E b) : E.2.2 b 7 = some (b + 3) := h.2.2.2.2.2.1
theorem FAt.P_on {E : Ev} {b : Nat} (h : FAt E b) : E.1[(b + 3)]? = some (.inr (0, 5)) := h.2.2.2.2.2.2.1
theorem FAt.R_weary {E : Ev} {b : Nat} (h : FAt E b) : E.2.2 b 8 = some (b + 4) := h.2.2.2.2.2.2.2.1
theorem FAt.P_weary {E : Ev} {b : Nat} (h : FAt E b) : E.1[(b + 4)]? = some (.inr (0, 5)) := h.2.2.2.2.2.2.2.2
def TAt (E : Ev) (b : Nat) : Prop := E.1[b]? = some (.inl 4) ∧ E.2.2 b 0 = some (b + 1) ∧ E.1[(b + 1)]? = some (.inr (0, tlen E b))
theorem TAt.S {E : Ev} {b : Nat} (h : TAt E b) : E.1[b]? = some (.inl 4) := h.1
theorem TAt.R_code {E : Ev} {b : Nat} (h : TAt E b) : E.2.2 b 0 = some (b + 1) := h.2.1
theorem TAt.P_code {E : Ev} {b : Nat} (h : TAt E b) : E.1[(b + 1)]? = some (.inr (0, tlen E b)) := h.2.2
def SAt (E : Ev) (b : Nat) : Prop := E.1[b]? = some (.inl 3) ∧ E.2.2 b 0 = some (b + 1) ∧ E.1[(b + 1)]? = some (.inr (0, 40))
theorem SAt.S {E : Ev} {b : Nat} (h : SAt E b) : E.1[b]? = some (.inl 3) := h.1
theorem SAt.R_items {E : Ev} {b : Nat} (h : SAt E b) : E.2.2 b 0 = some (b + 1) := h.2.1
theorem SAt.P_items {E : Ev} {b : Nat} (h : SAt E b) : E.1[(b + 1)]? = some (.inr (0, 40)) := h.2.2
def LAt (E : Ev) : Prop := E.1[21]? = some (.inl 1) ∧ E.2.2 21 0 = some 22 ∧ E.1[22]? = some (.inr (3, 6)) ∧ E.2.2 21 1 = some 23 ∧ E.1[23]? = some (.inr (0, 40)) ∧ ∀ j z, E.2.2 22 j = some z → TAt E z
theorem LAt.S {E : Ev} (h : LAt E) : E.1[21]? = some (.inl 1) := h.1
theorem LAt.R_texts {E : Ev} (h : LAt E) : E.2.2 21 0 = some 22 := h.2.1
theorem LAt.P_texts {E : Ev} (h : LAt E) : E.1[22]? = some (.inr (3, 6)) := h.2.2.1
theorem LAt.R_stack {E : Ev} (h : LAt E) : E.2.2 21 1 = some 23 := h.2.2.2.1
theorem LAt.P_stack {E : Ev} (h : LAt E) : E.1[23]? = some (.inr (0, 40)) := h.2.2.2.2.1
theorem LAt.TAx {E : Ev} (h : LAt E) : ∀ j z, E.2.2 22 j = some z → TAt E z := h.2.2.2.2.2
def RAt (E : Ev) : Prop := E.1[24]? = some (.inl 2) ∧ E.2.2 24 0 = some 25 ∧ E.1[25]? = some (.inr (0, 160)) ∧ E.2.2 24 1 = some 26 ∧ E.1[26]? = some (.inr (0, 160))
theorem RAt.S {E : Ev} (h : RAt E) : E.1[24]? = some (.inl 2) := h.1
theorem RAt.R_tape {E : Ev} (h : RAt E) : E.2.2 24 0 = some 25 := h.2.1
theorem RAt.P_tape {E : Ev} (h : RAt E) : E.1[25]? = some (.inr (0, 160)) := h.2.2.1
theorem RAt.R_code {E : Ev} (h : RAt E) : E.2.2 24 1 = some 26 := h.2.2.2.1
theorem RAt.P_code {E : Ev} (h : RAt E) : E.1[26]? = some (.inr (0, 160)) := h.2.2.2.2
def XAt (E : Ev) : Prop := E.1[0]? = some (.inl 5) ∧ E.2.2 0 0 = some 1 ∧ FAt E 1 ∧ E.2.2 0 1 = some 6 ∧ FAt E 6 ∧ E.2.2 0 2 = some 11 ∧ FAt E 11 ∧ E.2.2 0 3 = some 16 ∧ FAt E 16 ∧ E.2.2 0 4 = some 21 ∧ LAt E ∧ E.2.2 0 5 = some 24 ∧ RAt E ∧ E.2.2 0 6 = some 27 ∧ E.1[27]? = some (.inr (2, 4)) ∧ (∀ j, j < 4 → E.2.2 27 j = some (28 + 2 * j)) ∧ ∀ j, j < 4 → SAt E (28 + 2 * j)
theorem XAt.S {E : Ev} (h : XAt E) : E.1[0]? = some (.inl 5) := h.1
theorem XAt.R_now {E : Ev} (h : XAt E) : E.2.2 0 0 = some 1 := h.2.1
theorem XAt.P_now {E : Ev} (h : XAt E) : FAt E 1 := h.2.2.1
theorem XAt.R_thought {E : Ev} (h : XAt E) : E.2.2 0 1 = some 6 := h.2.2.2.1
theorem XAt.P_thought {E : Ev} (h : XAt E) : FAt E 6 := h.2.2.2.2.1
theorem XAt.R_later {E : Ev} (h : XAt E) : E.2.2 0 2 = some 11 := h.2.2.2.2.2.1
theorem XAt.P_later {E : Ev} (h : XAt E) : FAt E 11 := h.2.2.2.2.2.2.1
theorem XAt.R_kept {E : Ev} (h : XAt E) : E.2.2 0 3 = some 16 := h.2.2.2.2.2.2.2.1
theorem XAt.P_kept {E : Ev} (h : XAt E) : FAt E 16 := h.2.2.2.2.2.2.2.2.1
theorem XAt.R_law {E : Ev} (h : XAt E) : E.2.2 0 4 = some 21 := h.2.2.2.2.2.2.2.2.2.1
theorem XAt.P_law {E : Ev} (h : XAt E) : LAt E := h.2.2.2.2.2.2.2.2.2.2.1
theorem XAt.R_reader {E : Ev} (h : XAt E) : E.2.2 0 5 = some 24 := h.2.2.2.2.2.2.2.2.2.2.2.1
theorem XAt.P_reader {E : Ev} (h : XAt E) : RAt E := h.2.2.2.2.2.2.2.2.2.2.2.2.1
theorem XAt.R_sheets {E : Ev} (h : XAt E) : E.2.2 0 6 = some 27 := h.2.2.2.2.2.2.2.2.2.2.2.2.2.1
theorem XAt.P_sheets {E : Ev} (h : XAt E) : E.1[27]? = some (.inr (2, 4)) := h.2.2.2.2.2.2.2.2.2.2.2.2.2.2.1
theorem XAt.Shx {E : Ev} (h : XAt E) : (∀ j, j < 4 → E.2.2 27 j = some (28 + 2 * j)) ∧ ∀ j, j < 4 → SAt E (28 + 2 * j) := h.2.2.2.2.2.2.2.2.2.2.2.2.2.2.2
def MAt (E : Ev) : Prop := E.1[0]? = some (.inl 6) ∧ E.2.2 0 1 = some 1 ∧ E.1[1]? = some (.inr (0, 960)) ∧ E.2.2 0 2 = some 2 ∧ E.1[2]? = some (.inr (0, 6)) ∧ E.2.2 0 5 = some 3 ∧ E.1[3]? = some (.inr (0, 160)) ∧ E.2.2 0 10 = some 4 ∧ E.1[4]? = some (.inr (0, 20)) ∧ E.2.2 0 28 = some 5 ∧ E.1[5]? = some (.inr (0, 21)) ∧ E.2.2 0 31 = some 6 ∧ E.1[6]? = some (.inr (0, 20)) ∧ E.2.2 0 37 = some 7 ∧ E.1[7]? = some (.inr (1, 4)) ∧ E.2.2 0 38 = some 8 ∧ E.1[8]? = some (.inr (0, 4)) ∧ E.2.2 0 39 = some 9 ∧ E.1[9]? = some (.inr (0, 4)) ∧ E.2.2 0 40 = some 10 ∧ E.1[10]? = some (.inr (0, 160))
theorem MAt.S {E : Ev} (h : MAt E) : E.1[0]? = some (.inl 6) := h.1
theorem MAt.R_texts {E : Ev} (h : MAt E) : E.2.2 0 1 = some 1 := h.2.1
theorem MAt.P_texts {E : Ev} (h : MAt E) : E.1[1]? = some (.inr (0, 960)) := h.2.2.1
theorem MAt.R_textSize {E : Ev} (h : MAt E) : E.2.2 0 2 = some 2 := h.2.2.2.1
theorem MAt.P_textSize {E : Ev} (h : MAt E) : E.1[2]? = some (.inr (0, 6)) := h.2.2.2.2.1
theorem MAt.R_tape {E : Ev} (h : MAt E) : E.2.2 0 5 = some 3 := h.2.2.2.2.2.1
theorem MAt.P_tape {E : Ev} (h : MAt E) : E.1[3]? = some (.inr (0, 160)) := h.2.2.2.2.2.2.1
theorem MAt.R_rows {E : Ev} (h : MAt E) : E.2.2 0 10 = some 4 := h.2.2.2.2.2.2.2.1
theorem MAt.P_rows {E : Ev} (h : MAt E) : E.1[4]? = some (.inr (0, 20)) := h.2.2.2.2.2.2.2.2.1
theorem MAt.R_was {E : Ev} (h : MAt E) : E.2.2 0 28 = some 5 := h.2.2.2.2.2.2.2.2.2.1
theorem MAt.P_was {E : Ev} (h : MAt E) : E.1[5]? = some (.inr (0, 21)) := h.2.2.2.2.2.2.2.2.2.2.1
theorem MAt.R_rowsKept {E : Ev} (h : MAt E) : E.2.2 0 31 = some 6 := h.2.2.2.2.2.2.2.2.2.2.2.1
theorem MAt.P_rowsKept {E : Ev} (h : MAt E) : E.1[6]? = some (.inr (0, 20)) := h.2.2.2.2.2.2.2.2.2.2.2.2.1
theorem MAt.R_isThere {E : Ev} (h : MAt E) : E.2.2 0 37 = some 7 := h.2.2.2.2.2.2.2.2.2.2.2.2.2.1
theorem MAt.P_isThere {E : Ev} (h : MAt E) : E.1[7]? = some (.inr (1, 4)) := h.2.2.2.2.2.2.2.2.2.2.2.2.2.2.1
theorem MAt.R_sorts {E : Ev} (h : MAt E) : E.2.2 0 38 = some 8 := h.2.2.2.2.2.2.2.2.2.2.2.2.2.2.2.1
theorem MAt.P_sorts {E : Ev} (h : MAt E) : E.1[8]? = some (.inr (0, 4)) := h.2.2.2.2.2.2.2.2.2.2.2.2.2.2.2.2.1
theorem MAt.R_sheetSize {E : Ev} (h : MAt E) : E.2.2 0 39 = some 9 := h.2.2.2.2.2.2.2.2.2.2.2.2.2.2.2.2.2.1
theorem MAt.P_sheetSize {E : Ev} (h : MAt E) : E.1[9]? = some (.inr (0, 4)) := h.2.2.2.2.2.2.2.2.2.2.2.2.2.2.2.2.2.2.1
theorem MAt.R_items {E : Ev} (h : MAt E) : E.2.2 0 40 = some 10 := h.2.2.2.2.2.2.2.2.2.2.2.2.2.2.2.2.2.2.2.1
theorem MAt.P_items {E : Ev} (h : MAt E) : E.1[10]? = some (.inr (0, 160)) := h.2.2.2.2.2.2.2.2.2.2.2.2.2.2.2.2.2.2.2.2
theorem LAt.TA {E : Ev} (h : LAt E) {j z : Nat} (hz : E.2.2 22 j = some z) : TAt E z := h.TAx j z hz
theorem XAt.sheetR {E : Ev} (h : XAt E) {i : Int32} (q : ix i 4 = true) : E.2.2 27 i.toNatClampNeg = some (28 + 2 * i.toNatClampNeg) :=
  h.Shx.1 _ (Nat.not_le.mp (fun z => ix_in q (Or.inr z)))
def shc (t : Nat) : Bool := decide (t = 28 ∨ t = 30 ∨ t = 32 ∨ t = 34)
theorem XAt.SA {E : Ev} (h : XAt E) {t : Nat} (ht : shc t = true) : SAt E t := by
  rcases of_decide_eq_true ht with rfl | rfl | rfl | rfl
  · exact h.Shx.2 0 (by decide)
  · exact h.Shx.2 1 (by decide)
  · exact h.Shx.2 2 (by decide)
  · exact h.Shx.2 3 (by decide)
def FU : Nat := 1000
section XR
variable {ρ : Type} {κ : Kx} {P : ρ → State → Prop} {cc : ByteArray} {own : String} {rm : Room} {ret : Option FieldType} {pc : Nat} {lv : List (Option Value)} {st : List Value} {E : Ev} {M : Mi} {L : Ml} {cn sn : Nat} {f g : Option ρ}
theorem j_pc {pc2 : Nat} (h : pc = pc2) (k : JF κ P pc2 lv st E M L cn sn f) : JF κ P pc lv st E M L cn sn f := h ▸ k
theorem j_mask (ks : List Bool) {lv' : List (Option Value)} (h : List.zipWith (fun k o => if k = true then o else none) ks lv = lv') (k : JF κ P pc lv' st E M L cn sn f) : JF κ P pc lv st E M L cn sn f := by
  refine j_lo (fun i v hi => ?_) k
  rw [← h, List.getElem?_zipWith] at hi
  cases h1 : ks[i]? with
  | none => rw [h1] at hi; cases hi
  | some b =>
    cases h2 : lv[i]? with
    | none => rw [h1, h2] at hi; cases hi
    | some o =>
      rw [h1, h2] at hi
      simp only [Option.some.injEq] at hi
      by_cases hb : b = true
      · rw [if_pos hb] at hi; rw [hi]
      · rw [if_neg hb] at hi; cases hi
theorem j_nmi {e : Int32} {g : Int32 → Option ρ} (k : ∀ x : Int32, JF κ P pc lv (.int x :: st) E M L cn sn (g x)) : JF κ P pc lv (.int e :: st) E M L cn sn ((some e).bind g) := k e
theorem j_nml {e : Int64} {g : Int64 → Option ρ} (k : ∀ x : Int64, JF κ P pc lv (.long x :: st) E M L cn sn (g x)) : JF κ P pc lv (.long e :: st) E M L cn sn ((some e).bind g) := k e
theorem j_opt {v : Option Nat} {A : Option ρ} {B : Nat → Option ρ} (kn : JF κ P pc lv (.null :: st) E M L cn sn A) (ks : ∀ t, shc t = true → JF κ P pc lv (.ref (E.2.1 t) :: st) E M L cn sn (B t)) : JF κ P pc lv (va_rf (v.map E.2.1) :: st) E M L cn sn (match v with | none => A | some t => if shc t = true then B t else none) := by
  cases v with
  | none => exact kn
  | some t => exact j_guard (ks t)
theorem lv_room0 {n : Nat} {st : List Value} (h : (st.map fun v => v.category).sum ≤ n) : (st.map fun v => v.category).sum ≤ n := h
end XR
