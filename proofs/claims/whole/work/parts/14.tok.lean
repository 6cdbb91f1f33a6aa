/-! PURE: tokens of a text (f, n): where one begins and ends, what it is; class' advance -/
theorem up2_same {α : Type} (M : Nat → Nat → α) (k j : Nat) (x y : α) : up2 (up2 M k j x) k j y = up2 M k j y := by
  funext a b; simp only [up2]; by_cases ha : a = k <;> by_cases hb : b = j <;> simp [ha, hb]
theorem up2_id {α : Type} {M : Nat → Nat → α} {k j : Nat} {x : α} (h : M k j = x) : up2 M k j x = M := by
  funext a b; simp only [up2]; by_cases ha : a = k
  · subst ha; by_cases hb : b = j
    · subst hb; simp [h]
    · simp [hb]
  · simp [ha]
theorem up2_b {α : Type} {M : Nat → Nat → α} {k j b : Nat} {x : α} (h : b ≠ j) : up2 M k j x k b = M k b := up2_off h
theorem up2_a {α : Type} {M : Nat → Nat → α} {k j a b : Nat} {x : α} (h : a ≠ k) : up2 M k j x a b = M a b := by rw [up2_ne h]
def isLet (x : Int32) : Bool := decide (97 ≤ x.toInt ∧ x.toInt ≤ 122)
def isDig (x : Int32) : Bool := decide (48 ≤ x.toInt ∧ x.toInt ≤ 57)
def isSgn (x : Int32) : Bool := decide (x = 40 ∨ x = 41 ∨ x = 59 ∨ x = 43 ∨ x = 45 ∨ x = 42 ∨ x = 60 ∨ x = 61)
def isBl (x : Int32) : Bool := decide (x = 32 ∨ x = 10)
def run (q : Int32 → Bool) (f : Nat → Int32) (n : Nat) : Nat → Nat → Nat
  | 0, i => i
  | d + 1, i => if i < n ∧ q (f i) = true then run q f n d (i + 1) else i
def rto (q : Int32 → Bool) (f : Nat → Int32) (n i : Nat) : Nat := run q f n (n - i) i
theorem rto_go {q : Int32 → Bool} {f : Nat → Int32} {n i : Nat} (h : i < n) (hq : q (f i) = true) : rto q f n i = rto q f n (i + 1) := by
  unfold rto
  rw [show n - i = (n - (i + 1)) + 1 by omega]
  simp only [run]
  rw [if_pos ⟨h, hq⟩]
theorem rto_stop {q : Int32 → Bool} {f : Nat → Int32} {n i : Nat} (h : ¬ (i < n ∧ q (f i) = true)) : rto q f n i = i := by
  unfold rto
  cases hd : n - i with
  | zero => rfl
  | succ d => simp only [run]; rw [if_neg h]
theorem rto_bd (q : Int32 → Bool) (f : Nat → Int32) (n : Nat) : ∀ (d i : Nat), n - i ≤ d → i ≤ n → i ≤ rto q f n i ∧ rto q f n i ≤ n := by
  intro d
  induction d with
  | zero => intro i h hi; rw [rto_stop (by omega)]; omega
  | succ d ih =>
    intro i h hi
    by_cases hc : i < n ∧ q (f i) = true
    · rw [rto_go hc.1 hc.2]; have := ih (i + 1) (by omega) (by omega); omega
    · rw [rto_stop hc]; omega
theorem rto_le {q : Int32 → Bool} {f : Nat → Int32} {n i : Nat} (hi : i ≤ n) : i ≤ rto q f n i := (rto_bd q f n (n - i) i (Nat.le_refl _) hi).1
theorem rto_n {q : Int32 → Bool} {f : Nat → Int32} {n i : Nat} (hi : i ≤ n) : rto q f n i ≤ n := (rto_bd q f n (n - i) i (Nat.le_refl _) hi).2
theorem rto_end (q : Int32 → Bool) (f : Nat → Int32) (n : Nat) : ∀ (d i : Nat), n - i ≤ d → ¬ (rto q f n i < n ∧ q (f (rto q f n i)) = true) := by
  intro d
  induction d with
  | zero => intro i h; rw [rto_stop (by omega)]; omega
  | succ d ih =>
    intro i h
    by_cases hc : i < n ∧ q (f i) = true
    · rw [rto_go hc.1 hc.2]; exact ih (i + 1) (by omega)
    · rw [rto_stop hc]; exact hc
/-- all between hold -/
theorem rto_all (q : Int32 → Bool) (f : Nat → Int32) (n : Nat) : ∀ (d i : Nat), n - i ≤ d → ∀ j, i ≤ j → j < rto q f n i → q (f j) = true := by
  intro d
  induction d with
  | zero => intro i h j h1 h2; rw [rto_stop (by omega)] at h2; omega
  | succ d ih =>
    intro i h j h1 h2
    by_cases hc : i < n ∧ q (f i) = true
    · rw [rto_go hc.1 hc.2] at h2
      by_cases e : j = i
      · rw [e]; exact hc.2
      · exact ih (i + 1) (by omega) j (by omega) h2
    · rw [rto_stop hc] at h2; omega
def ta (f : Nat → Int32) (n p : Nat) : Nat := rto isBl f n p
def te (f : Nat → Int32) (n p : Nat) : Nat :=
  if n ≤ ta f n p then n else if isLet (f (ta f n p)) = true then rto isLet f n (ta f n p) else if isDig (f (ta f n p)) = true then rto isDig f n (ta f n p) else ta f n p + 1
/-- a word is spelt from a to e -/
def spl (f : Nat → Int32) (a e w : Nat) : Bool := decide (e - a = jL.getD w 0 ∧ ∀ k, k < jL.getD w 0 → f (a + k) = (jB.getD w []).getD k 0)
def wc (f : Nat → Int32) (a e : Nat) : Int32 :=
  if spl f a e 1 = true then -1 else if spl f a e 2 = true then -2 else if spl f a e 3 = true then -3 else if spl f a e 4 = true then -4 else if spl f a e 5 = true then -5 else if spl f a e 6 = true then -6 else
  if spl f a e 7 = true then 259 else if spl f a e 8 = true then 260 else if spl f a e 9 = true then 261 else if spl f a e 10 = true then 262 else if spl f a e 11 = true then 263 else if spl f a e 12 = true then 264 else 258
def tc (f : Nat → Int32) (n p : Nat) : Int32 :=
  if n ≤ ta f n p then 256 else if isLet (f (ta f n p)) = true then wc f (ta f n p) (te f n p) else if isDig (f (ta f n p)) = true then (if te f n p - ta f n p ≤ 4 then 257 else 258) else if isSgn (f (ta f n p)) = true then f (ta f n p) else 258
def dval (f : Nat → Int32) (a : Nat) : Nat → Int32
  | 0 => 0
  | k + 1 => 10 * dval f a k + f (a + k) - 48
def tv (f : Nat → Int32) (n p : Nat) : Int32 := dval f (ta f n p) (te f n p - ta f n p)
theorem ta_le {f : Nat → Int32} {n p : Nat} (h : p ≤ n) : p ≤ ta f n p := rto_le h
theorem ta_n {f : Nat → Int32} {n p : Nat} (h : p ≤ n) : ta f n p ≤ n := rto_n h
theorem te_n {f : Nat → Int32} {n p : Nat} (h : p ≤ n) : te f n p ≤ n := by
  have := ta_n (f := f) h
  unfold te
  split
  · exact Nat.le_refl _
  · split
    · exact rto_n (by omega)
    · split
      · exact rto_n (by omega)
      · omega
theorem te_gt {f : Nat → Int32} {n p : Nat} (h : p ≤ n) (ht : ¬ n ≤ ta f n p) : ta f n p < te f n p := by
  unfold te
  rw [if_neg ht]
  split
  · rename_i h1; rw [rto_go (by omega) h1]; exact rto_le (by omega)
  · split
    · rename_i h1; rw [rto_go (by omega) h1]; exact rto_le (by omega)
    · omega
theorem F_isLetterX (x : Int32) : F_X2_isLetter x = some (zb (isLet x)) := by
  unfold F_X2_isLetter isLet
  simp only [i_lt, rz_0, rz_1, show (97 : Int32).toInt = 97 from rfl, show (122 : Int32).toInt = 122 from rfl]
  by_cases h1 : x.toInt < 97
  · rw [if_pos h1]; congr 2; simp; omega
  · rw [if_neg h1]; by_cases h2 : 122 < x.toInt
    · rw [if_pos h2]; congr 2; simp; omega
    · rw [if_neg h2]; congr 2; simp; omega
theorem F_isDigitX (x : Int32) : F_X2_isDigit x = some (zb (isDig x)) := by
  unfold F_X2_isDigit isDig
  simp only [i_lt, rz_0, rz_1, show (48 : Int32).toInt = 48 from rfl, show (57 : Int32).toInt = 57 from rfl]
  by_cases h1 : x.toInt < 48
  · rw [if_pos h1]; congr 2; simp; omega
  · rw [if_neg h1]; by_cases h2 : 57 < x.toInt
    · rw [if_pos h2]; congr 2; simp; omega
    · rw [if_neg h2]; congr 2; simp; omega
theorem F_isSignX (x : Int32) : F_X2_isSign x = some (zb (isSgn x)) := by
  unfold F_X2_isSign F_X2_isSign_k48 isSgn
  simp only [rz_0, rz_1]
  by_cases h1 : x = 40
  · subst h1; rfl
  · by_cases h2 : x = 41
    · subst h2; rfl
    · by_cases h3 : x = 59
      · subst h3; rfl
      · by_cases h4 : x = 43
        · subst h4; rfl
        · by_cases h5 : x = 45
          · subst h5; rfl
          · by_cases h6 : x = 42
            · subst h6; rfl
            · by_cases h7 : x = 60
              · subst h7; rfl
              · by_cases h8 : x = 61
                · subst h8; rfl
                · simp [h1, h2, h3, h4, h5, h6, h7, h8]
/-- how class' reader stands: text (M 25, n), scanning from p -/
theorem spl_go (f : Nat → Int32) (M : Mi) (L : Ml) (a w : Nat) (hw : w < 13) (hf : M 25 = f) (ha : M 24 5 = nI a) (hb : a + jL.getD w 0 ≤ 160) : ∀ (d k m : Nat), k + d = jL.getD w 0 → d < m → ∃ b : Bool, F_X2_spells_k20 w M L m (nI k) = some (zb b) ∧ (b = true ↔ ∀ j, k ≤ j → j < jL.getD w 0 → f (a + j) = (jB.getD w []).getD j 0) := by
  intro d
  have hl := (jB_len w hw).2
  induction d with
  | zero =>
    intro k m hk hm
    obtain ⟨m, rfl⟩ : ∃ q, m = q + 1 := ⟨m - 1, by omega⟩
    refine ⟨true, ?_, ⟨fun _ j h1 h2 => by omega, fun _ => rfl⟩⟩
    rw [F_X2_spells_k20, if_pos (nI_le (by omega) (by omega)), rz_1]
  | succ d ih =>
    intro k m hk hm
    obtain ⟨m, rfl⟩ : ∃ q, m = q + 1 := ⟨m - 1, by omega⟩
    rw [F_X2_spells_k20, if_neg (nI_ge (by omega) (by omega)), ha, nI_add, if_pos (ix_nI (by omega) (by decide)), if_pos (ix_nI (by omega) (by omega)), nI_clamp (by omega), nI_clamp (by omega), hf]
    by_cases h : f (a + k) = (jB.getD w []).getD k 0
    · obtain ⟨b, h1, h2⟩ := ih (k + 1) m (by omega) (by omega)
      refine ⟨b, by rw [if_pos h, nI_1, h1], h2.trans ⟨fun q j g1 g2 => ?_, fun q j g1 g2 => q j (by omega) g2⟩⟩
      by_cases e : j = k
      · rw [e]; exact h
      · exact q j (by omega) g2
    · exact ⟨false, by rw [if_neg h, rz_0], ⟨(fun q => by cases q), fun q => absurd (q k (Nat.le_refl _) (by omega)) h⟩⟩
theorem F_spellsX (f : Nat → Int32) (M : Mi) (L : Ml) {a e w : Nat} (hw : w < 13) (hf : M 25 = f) (ha : M 24 5 = nI a) (he : M 24 6 = nI e) (hae : a ≤ e) (hn : e ≤ 160) : F_X2_spells w M L = some (zb (spl f a e w)) := by
  unfold F_X2_spells spl
  have hl := (jB_len w hw).2
  rw [ha, he, pk_sub hae]
  by_cases h : e - a = jL.getD w 0
  · obtain ⟨b, h1, h2⟩ := spl_go f M L a w hw hf ha (by omega) (jL.getD w 0) 0 FU (by omega) (by unfold FU; omega)
    rw [if_pos (by rw [h]), show F_X2_spells_k20 w M L FU 0 = some (zb b) from h1]
    have : b = decide (e - a = jL.getD w 0 ∧ ∀ k, k < jL.getD w 0 → f (a + k) = (jB.getD w []).getD k 0) := by
      rw [Bool.eq_iff_iff, decide_eq_true_iff, h2]
      exact ⟨fun q => ⟨h, fun k hk => q k (Nat.zero_le _) hk⟩, fun q j _ hj => q.2 j hj⟩
    rw [← this]
  · rw [if_neg (fun q => h ((nI_eq (by omega) (by omega)).mp q)), rz_0]
    have : false = decide (e - a = jL.getD w 0 ∧ ∀ k, k < jL.getD w 0 → f (a + k) = (jB.getD w []).getD k 0) := by
      symm; rw [decide_eq_false_iff_not]; exact fun q => h q.1
    rw [← this]
theorem F_wordReadX (f : Nat → Int32) (M : Mi) (L : Ml) {a e : Nat} (hf : M 25 = f) (ha : M 24 5 = nI a) (he : M 24 6 = nI e) (hae : a ≤ e) (hn : e ≤ 160) : F_X2_wordRead M L = some (wc f a e) := by
  unfold F_X2_wordRead wc
  have h : ∀ w, w < 13 → F_X2_spells w M L = some (zb (spl f a e w)) := fun w hw => F_spellsX f M L hw hf ha he hae hn
  simp only [h 1 (by decide), h 2 (by decide), h 3 (by decide), h 4 (by decide), h 5 (by decide), h 6 (by decide), h 7 (by decide), h 8 (by decide), h 9 (by decide), h 10 (by decide), h 11 (by decide), h 12 (by decide), Option.bind_some, zb_if]
  by_cases h1 : spl f a e 1 = true
  · rw [if_pos h1, if_pos h1]
  · rw [if_neg h1, if_neg h1]
    by_cases h2 : spl f a e 2 = true
    · rw [if_pos h2, if_pos h2]
    · rw [if_neg h2, if_neg h2]
      by_cases h3 : spl f a e 3 = true
      · rw [if_pos h3, if_pos h3]
      · rw [if_neg h3, if_neg h3]
        by_cases h4 : spl f a e 4 = true
        · rw [if_pos h4, if_pos h4]
        · rw [if_neg h4, if_neg h4]
          by_cases h5 : spl f a e 5 = true
          · rw [if_pos h5, if_pos h5]
          · rw [if_neg h5, if_neg h5]
            by_cases h6 : spl f a e 6 = true
            · rw [if_pos h6, if_pos h6]
            · rw [if_neg h6, if_neg h6]
              by_cases h7 : spl f a e 7 = true
              · rw [if_pos h7, if_pos h7]
              · rw [if_neg h7, if_neg h7]
                by_cases h8 : spl f a e 8 = true
                · rw [if_pos h8, if_pos h8]
                · rw [if_neg h8, if_neg h8]
                  by_cases h9 : spl f a e 9 = true
                  · rw [if_pos h9, if_pos h9]
                  · rw [if_neg h9, if_neg h9]
                    by_cases h10 : spl f a e 10 = true
                    · rw [if_pos h10, if_pos h10]
                    · rw [if_neg h10, if_neg h10]
                      by_cases h11 : spl f a e 11 = true
                      · rw [if_pos h11, if_pos h11]
                      · rw [if_neg h11, if_neg h11]
                        by_cases h12 : spl f a e 12 = true
                        · rw [if_pos h12, if_pos h12]
                        · rw [if_neg h12, if_neg h12]
/-- what the tokenizer leaves: all but the Reader's cell stays; of it the size, the fault, what is written -/
def tokd (f : Nat → Int32) (n p : Nat) (M M' : Mi) : Prop :=
  (∀ k, k ≠ 24 → M' k = M k) ∧ (∀ j, j ≠ 4 → j ≠ 5 → j ≠ 6 → j ≠ 7 → M' 24 j = M 24 j) ∧ M' 24 4 = tc f n p ∧ M' 24 5 = nI (ta f n p) ∧ M' 24 6 = nI (te f n p) ∧ (tc f n p = 257 → M' 24 7 = tv f n p)
theorem adv_blanks (f : Nat → Int32) (n : Nat) (hn : n ≤ 160) (L : Ml) : ∀ (d p m : Nat) (M : Mi), M 25 = f → M 24 2 = nI n → M 24 6 = nI p → p ≤ n → n - p ≤ d → d < m → F_X2_advance_k0 m M L = F_X2_advance_k52 (up2 M 24 6 (nI (ta f n p))) L := by
  intro d
  induction d with
  | zero =>
    intro p m M hf h2 h6 hp hd hm
    obtain ⟨m, rfl⟩ : ∃ q, m = q + 1 := ⟨m - 1, by omega⟩
    rw [F_X2_advance_k0, h2, h6, if_pos (nI_le (by omega) (by omega))]
    unfold ta; rw [rto_stop (by omega), up2_id h6]
  | succ d ih =>
    intro p m M hf h2 h6 hp hd hm
    obtain ⟨m, rfl⟩ : ∃ q, m = q + 1 := ⟨m - 1, by omega⟩
    by_cases hpn : p < n
    · have go : isBl (f p) = true → F_X2_advance_k0 m (up2 M 24 6 (nI (p + 1))) L = F_X2_advance_k52 (up2 M 24 6 (nI (ta f n p))) L := by
        intro hb
        rw [ih (p + 1) m (up2 M 24 6 (nI (p + 1))) (by rw [up2_ne (by decide)]; exact hf) (by rw [up2_b (by decide)]; exact h2) (up2_at _ _ _ _) (by omega) (by omega) (by omega), up2_same]
        unfold ta; rw [rto_go hpn hb]
      rw [F_X2_advance_k0, h2, h6, if_neg (nI_ge hpn (by omega)), if_pos (ix_nI (by omega) (by decide)), nI_clamp (by omega), hf]
      unfold F_X2_advance_k39
      rw [h6, nI_1]
      by_cases h32 : f p = 32
      · rw [if_pos h32]; exact go (by simp [isBl, h32])
      · rw [if_neg h32]
        by_cases h10 : f p = 10
        · rw [if_pos h10, if_pos (ix_nI (by omega) (by decide))]; exact go (by simp [isBl, h10])
        · rw [if_neg h10, if_pos (ix_nI (by omega) (by decide))]
          unfold ta; rw [rto_stop (by simp [isBl, h32, h10]), up2_id h6]
    · rw [F_X2_advance_k0, h2, h6, if_pos (nI_le (by omega) (by omega))]
      unfold ta; rw [rto_stop (by omega), up2_id h6]
theorem adv_word (f : Nat → Int32) (n a : Nat) (hn : n ≤ 160) (L : Ml) : ∀ (d p m : Nat) (M : Mi), M 25 = f → M 24 2 = nI n → M 24 5 = nI a → M 24 6 = nI p → a ≤ p → p ≤ n → n - p ≤ d → d < m → F_X2_advance_k96 m M L = some (up2 (up2 M 24 6 (nI (rto isLet f n p))) 24 4 (wc f a (rto isLet f n p)), L) := by
  intro d
  have fin : ∀ (p : Nat) (M : Mi), M 25 = f → M 24 5 = nI a → M 24 6 = nI p → a ≤ p → p ≤ n → ¬ (p < n ∧ isLet (f p) = true) → F_X2_advance_k135 M L = some (up2 (up2 M 24 6 (nI (rto isLet f n p))) 24 4 (wc f a (rto isLet f n p)), L) := by
    intro p M hf h5 h6 hap hp hs
    unfold F_X2_advance_k135
    rw [F_wordReadX f M L hf h5 h6 hap (by omega), Option.bind_some, rto_stop hs, up2_id h6]
  induction d with
  | zero =>
    intro p m M hf h2 h5 h6 hap hp hd hm
    obtain ⟨m, rfl⟩ : ∃ q, m = q + 1 := ⟨m - 1, by omega⟩
    rw [F_X2_advance_k96, h2, h6, if_pos (nI_le (by omega) (by omega))]
    exact fin p M hf h5 h6 hap hp (by omega)
  | succ d ih =>
    intro p m M hf h2 h5 h6 hap hp hd hm
    obtain ⟨m, rfl⟩ : ∃ q, m = q + 1 := ⟨m - 1, by omega⟩
    by_cases hpn : p < n
    · rw [F_X2_advance_k96, h2, h6, if_neg (nI_ge hpn (by omega)), if_pos (ix_nI (by omega) (by decide)), nI_clamp (by omega), hf, F_isLetterX, Option.bind_some, zb_if]
      by_cases hl : isLet (f p) = true
      · rw [if_pos hl, nI_1, ih (p + 1) m _ (by rw [up2_ne (by decide)]; exact hf) (by rw [up2_b (by decide)]; exact h2) (by rw [up2_b (by decide)]; exact h5) (up2_at _ _ _ _) (by omega) (by omega) (by omega) (by omega), up2_same, rto_go hpn hl]
      · rw [if_neg hl]; exact fin p M hf h5 h6 hap hp (fun q => hl q.2)
    · rw [F_X2_advance_k96, h2, h6, if_pos (nI_le (by omega) (by omega))]
      exact fin p M hf h5 h6 hap hp (by omega)
theorem adv_num (f : Nat → Int32) (n a : Nat) (hn : n ≤ 160) (L : Ml) : ∀ (d p m : Nat) (M : Mi), M 25 = f → M 24 2 = nI n → M 24 5 = nI a → M 24 6 = nI p → M 24 7 = dval f a (p - a) → a ≤ p → p ≤ n → n - p ≤ d → d < m → F_X2_readDigits_k5 m M L = F_X2_readDigits_k68 (up2 (up2 M 24 7 (dval f a (rto isDig f n p - a))) 24 6 (nI (rto isDig f n p))) L := by
  intro d
  have fin : ∀ (p : Nat) (M : Mi), M 24 6 = nI p → M 24 7 = dval f a (p - a) → ¬ (p < n ∧ isDig (f p) = true) → F_X2_readDigits_k68 M L = F_X2_readDigits_k68 (up2 (up2 M 24 7 (dval f a (rto isDig f n p - a))) 24 6 (nI (rto isDig f n p))) L := by
    intro p M h6 h7 hs
    rw [rto_stop hs, up2_id h7, up2_id h6]
  induction d with
  | zero =>
    intro p m M hf h2 h5 h6 h7 hap hp hd hm
    obtain ⟨m, rfl⟩ : ∃ q, m = q + 1 := ⟨m - 1, by omega⟩
    rw [F_X2_readDigits_k5, h2, h6, if_pos (nI_le (by omega) (by omega))]
    exact fin p M h6 h7 (by omega)
  | succ d ih =>
    intro p m M hf h2 h5 h6 h7 hap hp hd hm
    obtain ⟨m, rfl⟩ : ∃ q, m = q + 1 := ⟨m - 1, by omega⟩
    by_cases hpn : p < n
    · rw [F_X2_readDigits_k5, h2, h6, if_neg (nI_ge hpn (by omega)), if_pos (ix_nI (by omega) (by decide)), nI_clamp (by omega), hf, F_isDigitX, Option.bind_some, zb_if]
      by_cases hl : isDig (f p) = true
      · rw [if_pos hl, if_pos (ix_nI (by omega) (by decide)), up2_b (by decide), h6, nI_1]
        have e7 : (10 : Int32) * M 24 7 + f p - 48 = dval f a (p + 1 - a) := by
          rw [show p + 1 - a = (p - a) + 1 by omega, dval, h7, show a + (p - a) = p by omega]
        rw [e7, ih (p + 1) m _ (by rw [up2_ne (by decide), up2_ne (by decide)]; exact hf) (by rw [up2_b (by decide), up2_b (by decide)]; exact h2) (by rw [up2_b (by decide), up2_b (by decide)]; exact h5) (up2_at _ _ _ _) (by rw [up2_b (by decide), up2_at]) (by omega) (by omega) (by omega) (by omega), rto_go hpn hl]
        congr 1
        funext x y
        simp only [up2]
        by_cases hx : x = 24
        · subst hx; by_cases hy6 : y = 6
          · simp [hy6]
          · by_cases hy7 : y = 7 <;> simp [hy6, hy7]
        · simp [hx]
      · rw [if_neg hl]; exact fin p M h6 h7 (fun q => hl q.2)
    · rw [F_X2_readDigits_k5, h2, h6, if_pos (nI_le (by omega) (by omega))]
      exact fin p M h6 h7 (by omega)
theorem F_advanceX (f : Nat → Int32) (n p : Nat) (hn : n ≤ 160) (M : Mi) (L : Ml) (hf : M 25 = f) (h2 : M 24 2 = nI n) (h6 : M 24 6 = nI p) (hp : p ≤ n) : ∃ M', F_X2_advance M L = some (M', L) ∧ tokd f n p M M' := by
  unfold F_X2_advance
  rw [adv_blanks f n hn L (n - p) p FU M hf h2 h6 hp (Nat.le_refl _) (by unfold FU; omega)]
  have hta := ta_n (f := f) hp
  unfold F_X2_advance_k52
  simp only [up2_at, up2_b (show (6 : Nat) ≠ 5 by decide), up2_b (show (2 : Nat) ≠ 5 by decide), up2_b (show (2 : Nat) ≠ 6 by decide), up2_a (show (25 : Nat) ≠ 24 by decide), h2, hf]
  generalize ea : ta f n p = a at *
  by_cases ha : n ≤ a
  · rw [if_neg (nI_nlt ha (by omega))]
    refine ⟨_, rfl, ?_, ?_, ?_, ?_, ?_, ?_⟩
    · intro k hk; funext j; simp [up2, hk]
    · intro j h4 h5 h6 h7; simp [up2, h4, h5, h6]
    · simp [up2, tc, ea, ha]
    · simp [up2, ea]
    · simp [up2, te, ea, ha]; congr 1; omega
    · intro h; simp [tc, ea, ha] at h
  · rw [if_pos (nI_lt (by omega) (by omega)), if_pos (ix_nI (by omega) (by decide)), nI_clamp (by omega), F_isLetterX, Option.bind_some, zb_if]
    by_cases hl : isLet (f a) = true
    · rw [if_pos hl, adv_word f n a hn L (n - a) a FU _ (by rw [up2_ne (by decide), up2_ne (by decide)]; exact hf) (by rw [up2_b (by decide), up2_b (by decide)]; exact h2) (up2_at _ _ _ _) (by rw [up2_b (by decide), up2_at]) (Nat.le_refl _) (by omega) (Nat.le_refl _) (by unfold FU; omega)]
      refine ⟨_, rfl, ?_, ?_, ?_, ?_, ?_, ?_⟩
      · intro k hk; funext j; simp [up2, hk]
      · intro j h4 h5 h6 h7; simp [up2, h4, h5, h6]
      · simp [up2, tc, te, ea, ha, hl]
      · simp [up2, ea]
      · simp [up2, te, ea, ha, hl]
      · intro h
        simp only [tc, ea, ha, hl, if_true, if_false] at h
        exfalso
        have : ∀ x : Int32, wc f a (te f n p) = x → x ≠ 257 := by
          intro x hx; unfold wc at hx
          repeat (first | (split at hx; (subst hx; decide)) | (subst hx; decide))
        exact this _ h rfl
    · rw [if_neg hl, if_pos (ix_nI (by omega) (by decide)), F_isDigitX, Option.bind_some, zb_if]
      by_cases hd : isDig (f a) = true
      · rw [if_pos hd]
        unfold F_X2_readDigits
        rw [adv_num f n a hn L (n - a) a FU _ (by rw [up2_ne (by decide), up2_ne (by decide), up2_ne (by decide)]; exact hf) (by rw [up2_b (by decide), up2_b (by decide), up2_b (by decide)]; exact h2) (by rw [up2_b (by decide), up2_at]) (by rw [up2_b (by decide), up2_b (by decide), up2_at]) (by rw [up2_at, Nat.sub_self]; rfl) (Nat.le_refl _) (by omega) (Nat.le_refl _) (by unfold FU; omega)]
        have hge : a ≤ rto isDig f n a := rto_le (by omega)
        have hle : rto isDig f n a ≤ n := rto_n (by omega)
        unfold F_X2_readDigits_k68
        simp only [up2_at, up2_b (show (5 : Nat) ≠ 6 by decide), up2_b (show (5 : Nat) ≠ 7 by decide)]
        rw [pk_sub hge]
        by_cases h4 : rto isDig f n a - a ≤ 4
        · rw [if_neg (show ¬ (4 : Int32) < nI (rto isDig f n a - a) from nI_nlt (a := 4) h4 (by decide))]
          refine ⟨_, rfl, ?_, ?_, ?_, ?_, ?_, ?_⟩
          · intro k hk; funext j; simp [up2, hk]
          · intro j h4 h5 h6 h7; simp [up2, h4, h5, h6, h7]
          · simp [up2, tc, te, ea, ha, hl, hd, h4]
          · simp [up2, ea]
          · simp [up2, te, ea, ha, hl, hd]
          · intro h; simp [up2, tv, te, ea, ha, hl, hd]
        · rw [if_pos (show (4 : Int32) < nI (rto isDig f n a - a) from nI_lt (a := 4) (by omega) (by omega))]
          refine ⟨_, rfl, ?_, ?_, ?_, ?_, ?_, ?_⟩
          · intro k hk; funext j; simp [up2, hk]
          · intro j h4 h5 h6 h7; simp [up2, h4, h5, h6, h7]
          · simp [up2, tc, te, ea, ha, hl, hd, h4]
          · simp [up2, ea]
          · simp [up2, te, ea, ha, hl, hd]
          · intro h; simp [tc, te, ea, ha, hl, hd, h4] at h
      · rw [if_neg hd, if_pos (ix_nI (by omega) (by decide)), F_isSignX, Option.bind_some, zb_if]
        unfold F_X2_advance_k199
        by_cases hs : isSgn (f a) = true
        · rw [if_pos hs, if_pos (ix_nI (by omega) (by decide))]
          refine ⟨_, rfl, ?_, ?_, ?_, ?_, ?_, ?_⟩
          · intro k hk; funext j; simp [up2, hk]
          · intro j h4 h5 h6 h7; simp [up2, h4, h5, h6, h7]
          · simp [up2, tc, te, ea, ha, hl, hd, hs]
          · simp [up2, ea]
          · simp [up2, te, ea, ha, hl, hd]; exact nI_1 a
          · intro h
            have h9 : f a = 257 := by simpa [tc, ea, ha, hl, hd, hs] using h
            exfalso; rw [h9] at hs; revert hs; decide
        · rw [if_neg hs]
          refine ⟨_, rfl, ?_, ?_, ?_, ?_, ?_, ?_⟩
          · intro k hk; funext j; simp [up2, hk]
          · intro j h4 h5 h6 h7; simp [up2, h4, h5, h6, h7]
          · simp [up2, tc, te, ea, ha, hl, hd, hs]
          · simp [up2, ea]
          · simp [up2, te, ea, ha, hl, hd]; exact nI_1 a
          · intro h; simp [tc, te, ea, ha, hl, hd, hs] at h
