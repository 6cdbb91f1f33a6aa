theorem F_nextR {f : Nat → Int32} {n o p : Nat} {M : Mi} (L : Ml) (hR : RT f n o M) (h21 : M 0 21 = nI p) (hp : p ≤ n) : ∃ M' L', F_X6_next M L = some (M', L') ∧ rtokd f n p M M' L L' := by
  have hn := hR.1
  unfold F_X6_next
  rw [nx_blanks f n o L (fun M => F_X6_next_k0 1 M L) (fun M p m hR h21 hp hs => by
    show F_X6_next_k0 (m + 1) M L = F_X6_next_k0 (0 + 1) M L
    have hn := hR.1
    have e : (if p < n then f p else -1) ≠ 32 ∧ (if p < n then f p else -1) ≠ 10 := by
      by_cases hpn : p < n
      · rw [if_pos hpn]
        have : ¬ isBl (f p) = true := fun q => hs ⟨hpn, q⟩
        simp only [isBl, decide_eq_true_eq] at this
        exact ⟨fun q => this (Or.inl q), fun q => this (Or.inr q)⟩
      · rw [if_neg hpn]; decide
    rw [F_X6_next_k0, F_X6_next_k0, h21, F_byteAtR L hR (by omega)]
    simp only [Option.bind_some, if_neg e.1, if_neg e.2]) (n - p) p FU M hR h21 hp (Nat.le_refl _) (by unfold FU; omega)]
  have hta := ta_n (f := f) hp
  have hend := rto_end isBl f n (n - p) p (Nat.le_refl _)
  change ¬ (ta f n p < n ∧ isBl (f (ta f n p)) = true) at hend
  have hM : RT f n o (up2 M 0 21 (nI (ta f n p))) := hR.keep (up2_ne (by decide)) (up2_b (by decide)) (up2_b (by decide))
  have hM2 : RT f n o (up2 (up2 M 0 21 (nI (ta f n p))) 0 23 (nI (ta f n p))) := hM.keep (up2_ne (by decide)) (up2_b (by decide)) (up2_b (by decide))
  show ∃ M' L', F_X6_next_k0 (0 + 1) (up2 M 0 21 (nI (ta f n p))) L = some (M', L') ∧ _
  rw [F_X6_next_k0]
  simp only [up2_at, up2_b (show (21 : Nat) ≠ 23 by decide), up2_b (show (20 : Nat) ≠ 22 by decide), up2_b (show (20 : Nat) ≠ 23 by decide), up2_b (show (20 : Nat) ≠ 21 by decide), hR.2.2.2.1]
  rw [F_byteAtR L hM (by omega), F_byteAtR L hM2 (by omega)]
  have hby := hR.2.2.2.2.2
  generalize ea : ta f n p = a at *
  have e : (if a < n then f a else -1) ≠ 32 ∧ (if a < n then f a else -1) ≠ 10 := by
    by_cases hpn : a < n
    · rw [if_pos hpn]
      have : ¬ isBl (f a) = true := fun q => hend ⟨hpn, q⟩
      simp only [isBl, decide_eq_true_eq] at this
      exact ⟨fun q => this (Or.inl q), fun q => this (Or.inr q)⟩
    · rw [if_neg hpn]; decide
  simp only [Option.bind_some, if_neg e.1, if_neg e.2]
  by_cases ha : a < n
  · simp only [if_pos ha]
    have ha' : ¬ n ≤ a := by omega
    rw [if_pos (by rw [i_le]; exact hby a ha), F_inLet, Option.bind_some, zb_if]
    by_cases hl : isLet (f a) = true
    · rw [if_pos hl, nx_word f n o L (n - a) a FU _ (hM2.keep (by rw [up2_ne (by decide), up2_ne (by decide)]) (by rw [up2_b (by decide), up2_b (by decide)]) (by rw [up2_b (by decide), up2_b (by decide)])) (by rw [up2_b (by decide), up2_b (by decide), up2_b (by decide), up2_at]) (by omega) (Nat.le_refl _) (by unfold FU; omega)]
      refine ⟨_, _, rfl, ?_, ?_, fun _ _ _ => rfl, ?_, ?_, ?_, ?_, ?_⟩
      · intro k hk; funext j; simp [up2, hk]
      · intro j h1 h2 h3; simp [up2, h1, h2, h3]
      · simp [up2, rc, ea, ha', hl]
      · simp [up2, ea]
      · intro _; simp [up2, te, ea, ha', hl]
      · intro h; simp [rc, ea, ha', hl] at h
      · intro h; simp [rc, ea, ha', hl] at h
    · rw [if_neg hl, F_inDig, Option.bind_some, zb_if]
      by_cases hd : isDig (f a) = true
      · rw [if_pos hd]
        obtain ⟨L', q1, q2, q3⟩ := nx_num f n o a (n - a) a FU (up2 (up2 (up2 (up2 M 0 21 (nI a)) 0 23 (nI a)) 0 22 4) 0 22 2) (up2 L 0 24 0) (hM2.keep (by rw [up2_ne (by decide), up2_ne (by decide)]) (by rw [up2_b (by decide), up2_b (by decide)]) (by rw [up2_b (by decide), up2_b (by decide)])) (by rw [up2_b (by decide), up2_b (by decide), up2_b (by decide), up2_at]) (Nat.le_refl _) (by omega) (by rw [up2_at, Nat.sub_self]; rfl) (Nat.le_refl _) (by unfold FU; omega)
        rw [Nat.sub_self] at q1
        rw [show (0 : Int32) = nI 0 from rfl, q1]
        have hge : a ≤ rto isDig f n a := rto_le (by omega)
        have hall := rto_all isDig f n (n - a) a (Nat.le_refl _)
        refine ⟨_, _, rfl, ?_, ?_, ?_, ?_, ?_, ?_, ?_, ?_⟩
        · intro k hk; funext j; simp [up2, hk]
        · intro j h1 h2 h3; simp [up2, h1, h2, h3]
        · intro k j hkj; rw [q2 k j hkj]
          rcases hkj with hk | hj
          · exact up2_a hk
          · by_cases hk : k = 0
            · subst hk; exact up2_b hj
            · exact up2_a hk
        · simp [up2, rc, te, ea, ha', hl, hd]
        · simp [up2, ea]
        · intro _; simp [up2, te, ea, ha', hl, hd]
        · intro h
          have h4 : rto isDig f n a - a ≤ 4 := by
            by_cases q : rto isDig f n a - a ≤ 4
            · exact q
            · simp [rc, te, ea, ha', hl, hd, q] at h
          rw [q3, show min 4 (rto isDig f n a - a) = rto isDig f n a - a by omega]
          rw [l_eq, toL]
          have e9 : tv f n p = dval f a (rto isDig f n a - a) := by simp [tv, te, ea, ha', hl, hd]
          rw [e9]
          exact (lval_dval f a _ h4 (fun j hj => hall (a + j) (by omega) (by omega))).1.symm
        · intro h
          by_cases q : rto isDig f n a - a ≤ 4 <;> simp [rc, te, ea, ha', hl, hd, q] at h
      · rw [if_neg hd]
        have hsg : ∀ (M9 : Mi), (if f a = 40 then F_X6_next_k300 M9 L (f a) else if f a = 41 then F_X6_next_k300 M9 L (f a) else if f a = 59 then F_X6_next_k300 M9 L (f a) else if f a = 43 then F_X6_next_k300 M9 L (f a) else if f a = 45 then F_X6_next_k300 M9 L (f a) else if f a = 42 then F_X6_next_k300 M9 L (f a) else if f a = 60 then F_X6_next_k300 M9 L (f a) else if f a = 61 then F_X6_next_k300 M9 L (f a) else some (M9, L)) = if isSgn (f a) = true then F_X6_next_k300 M9 L (f a) else some (M9, L) := by
          intro M9
          unfold isSgn
          by_cases h1 : f a = 40
          · simp [h1]
          · by_cases h2 : f a = 41
            · simp [h2]
            · by_cases h3 : f a = 59
              · simp [h3]
              · by_cases h4 : f a = 43
                · simp [h4]
                · by_cases h5 : f a = 45
                  · simp [h5]
                  · by_cases h6 : f a = 42
                    · simp [h6]
                    · by_cases h7 : f a = 60
                      · simp [h7]
                      · by_cases h8 : f a = 61
                        · simp [h8]
                        · simp [h1, h2, h3, h4, h5, h6, h7, h8]
        rw [hsg]
        by_cases hs : isSgn (f a) = true
        · rw [if_pos hs]
          unfold F_X6_next_k300
          refine ⟨_, _, rfl, ?_, ?_, ?_, ?_, ?_, ?_, ?_, ?_⟩
          · intro k hk; funext j; simp [up2, hk]
          · intro j h1 h2 h3; simp [up2, h1, h2, h3]
          · intro k j hkj
            rcases hkj with hk | hj
            · exact up2_a hk
            · by_cases hk : k = 0
              · subst hk; exact up2_b hj
              · exact up2_a hk
          · simp [up2, rc, ea, ha', hl, hd, hs]
          · simp [up2, ea]
          · intro _; simp [up2, te, ea, ha', hl, hd]; exact nI_1 a
          · intro h; simp [rc, ea, ha', hl, hd, hs] at h
          · intro _; rw [up2_at]; simp [tc, ea, ha', hl, hd, hs]
        · rw [if_neg hs]
          refine ⟨_, _, rfl, ?_, ?_, fun _ _ _ => rfl, ?_, ?_, ?_, ?_, ?_⟩
          · intro k hk; funext j; simp [up2, hk]
          · intro j h1 h2 h3; simp [up2, h1, h2, h3]
          · simp [up2, rc, ea, ha', hl, hd, hs]
          · simp [up2, ea]
          · intro h; simp [rc, ea, ha', hl, hd, hs] at h
          · intro h; simp [rc, ea, ha', hl, hd, hs] at h
          · intro h; simp [rc, ea, ha', hl, hd, hs] at h
  · have ha' : n ≤ a := by omega
    simp only [if_neg ha]
    rw [if_neg (by decide)]
    refine ⟨_, _, rfl, ?_, ?_, fun _ _ _ => rfl, ?_, ?_, ?_, ?_, ?_⟩
    · intro k hk; funext j; simp [up2, hk]
    · intro j h1 h2 h3; simp [up2, h1, h2, h3]
    · simp [up2, rc, ea, ha']
    · simp [up2, ea]; congr 1; omega
    · intro _; simp [up2, te, ea, ha']; congr 1; omega
    · intro h; simp [rc, ea, ha'] at h
    · intro h; simp [rc, ea, ha'] at h
