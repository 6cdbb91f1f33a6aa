/-! PURE: one pass of one party -/
theorem way_lt_all : ∀ k, k < 199 → (sp_way (nI k - 99)).toNatClampNeg < 8 ∧ sp_way (nI k - 99) = nI (sp_way (nI k - 99)).toNatClampNeg := by decide +kernel
theorem bnd99 (v : Int32) : ∃ k, k < 199 ∧ bnd v (-99) 99 = nI k - 99 := by
  obtain ⟨h1, h2⟩ := bnd_in v (-99) 99 (by decide)
  generalize bnd v (-99) 99 = x at *
  rw [i_le] at h1 h2
  have e1 : (-99 : Int32).toInt = -99 := rfl
  have e2 : (99 : Int32).toInt = 99 := rfl
  refine ⟨(x.toInt + 99).toNat, by omega, ?_⟩
  rw [i_eq]
  have := pk_sub_toInt (a := (x.toInt + 99).toNat) (b := 99) (by omega) (by omega)
  have h3 : (nI (x.toInt + 99).toNat - 99).toInt = ((x.toInt + 99).toNat : Int) - 99 := by simpa [nI] using this
  rw [h3]; omega
theorem sp_way_lt (v : Int32) : ∃ d, d < 8 ∧ sp_way (bnd v (-99) 99) = nI d := by
  obtain ⟨k, hk, e⟩ := bnd99 v
  rw [e]
  exact ⟨_, (way_lt_all k hk).1, (way_lt_all k hk).2⟩
theorem i99 (x : Int32) (h : 0 ≤ x ∧ x ≤ 99) : ∃ k, k < 100 ∧ x = nI k := by
  rw [i_le, i_le] at h
  have e1 : (0 : Int32).toInt = 0 := rfl
  have e2 : (99 : Int32).toInt = 99 := rfl
  refine ⟨x.toInt.toNat, by omega, ?_⟩
  rw [i_eq, nI_toInt (by omega)]; omega
theorem wear_all : ∀ a, a < 100 → ∀ b, b < 100 → (if (0 : Int32) < nI a - nI b then nI a - nI b else 0) = bnd (nI a - nI b) 0 99 ∧ (if nI a + nI b < 99 then nI a + nI b else 99) = bnd (nI a + nI b) 0 99 := by decide +kernel
theorem wear_down {w x : Int32} (hw : 0 ≤ w ∧ w ≤ 99) (hx : 0 ≤ x ∧ x ≤ 99) : (if 0 < w - x then w - x else 0) = bnd (w - x) 0 99 := by
  obtain ⟨a, ha, rfl⟩ := i99 w hw
  obtain ⟨b, hb, rfl⟩ := i99 x hx
  exact (wear_all a ha b hb).1
theorem wear_up {w x : Int32} (hw : 0 ≤ w ∧ w ≤ 99) (hx : 0 ≤ x ∧ x ≤ 99) : (if w + x < 99 then w + x else 99) = bnd (w + x) 0 99 := by
  obtain ⟨a, ha, rfl⟩ := i99 w hw
  obtain ⟨b, hb, rfl⟩ := i99 x hx
  exact (wear_all a ha b hb).2
