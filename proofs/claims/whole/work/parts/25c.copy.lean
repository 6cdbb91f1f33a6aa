/-! known branches and known answers; copyOf; a text read -/
section KN
variable {ρ α : Type} {κ : Kx} {P : ρ → State → Prop} {pc : Nat} {lv : List (Option Value)} {st : List Value} {E : Ev} {M : Mi} {L : Ml} {cn sn : Nat} {f : Option ρ}
theorem j_take {c : Prop} [Decidable c] (hc : c) (k : JF κ P pc lv st E M L cn sn (if c then f else none)) : JF κ P pc lv st E M L cn sn f := by rw [if_pos hc] at k; exact k
theorem j_skip {c : Prop} [Decidable c] (hc : ¬ c) (k : JF κ P pc lv st E M L cn sn (if c then none else f)) : JF κ P pc lv st E M L cn sn f := by rw [if_neg hc] at k; exact k
theorem j_known {fc : Option α} {v0 : α} (h : fc = some v0) (k : JF κ P pc lv st E M L cn sn (fc.bind fun r => @ite _ (r = v0) (Classical.propDecidable _) f none)) : JF κ P pc lv st E M L cn sn f := by rw [h, Option.bind_some, if_pos rfl] at k; exact k
theorem j_at {r v0 : α} (k : r = v0 → JF κ P pc lv st E M L cn sn f) : JF κ P pc lv st E M L cn sn (@ite _ (r = v0) (Classical.propDecidable _) f none) := by
  by_cases h : r = v0
  · rw [if_pos h]; exact k h
  · rw [if_neg h]; exact jf_none
end KN
abbrev Q_rx (γ : Gm) (Φ : Nat → Ev → Mi → Ml → Prop) : Unit → Array Value → State → Outcome → State → Prop := fun _ => va_Qr (fun (_ : Unit) => True) (fun _ a t => ∃ E' M' L', Φ a E' M' L' ∧ PX γ E' M' L' t) (gA γ)
abbrev Q_nx (γ : Gm) (Φ : Ev → Mi → Ml → Prop) : Unit → Array Value → State → Outcome → State → Prop := fun _ => va_Qq (fun r (_ : Unit) => r = none) (fun _ t => ∃ E' M' L', Φ E' M' L' ∧ PX γ E' M' L' t) (gA γ)
section RX
variable {κ : Kx} {cc : ByteArray} {own : String} {rm : Room} {pc : Nat} {lv : List (Option Value)} {E : Ev} {M : Mi} {L : Ml} {cn sn : Nat} {rt : FieldType}
theorem j_aretx {a : Nat} {Φ : Nat → Ev → Mi → Ml → Prop} (hrt : (∃ n, rt = .object n) ∨ ∃ t, rt = .array t) (C : Cx κ cc own rm (some rt)) (hd : decode cc pc = .ok (.areturn, 1)) (hΦ : Φ a E M L) : JF κ (PQ κ (Q_rx (kγ κ) Φ) cn sn) pc lv [.ref a] E M L cn sn (some ()) :=
  fun r hr H locs ls hG hl => by cases hr; exact W.aret C.1 C.2.1 C.ret hrt (Or.inr ⟨_, rfl⟩) (fun t ht hW => ⟨⟨(), a, rfl, trivial, E, M, L, hΦ, by rw [ht]; exact hG.1, hG.2.1⟩, hG.2.2.F ht⟩) hG.2.2.2.2 hd C.locks
theorem j_aretn {Φ : Ev → Mi → Ml → Prop} (hrt : (∃ n, rt = .object n) ∨ ∃ t, rt = .array t) (C : Cx κ cc own rm (some rt)) (hd : decode cc pc = .ok (.areturn, 1)) (hΦ : Φ E M L) : JF κ (PQ κ (Q_nx (kγ κ) Φ) cn sn) pc lv [.null] E M L cn sn (some ()) :=
  fun r hr H locs ls hG hl => by cases hr; exact W.aret C.1 C.2.1 C.ret hrt (Or.inl rfl) (fun t ht hW => ⟨⟨none, (), rfl, rfl, E, M, L, hΦ, by rw [ht]; exact hG.1, hG.2.1⟩, hG.2.2.F ht⟩) hG.2.2.2.2 hd C.locks
end RX
section CX
variable {ρ : Type} {κ : Kx} {P : ρ → State → Prop} {cc : ByteArray} {own : String} {rm : Room} {ret : Option FieldType} {pc : Nat} {lv : List (Option Value)} {st stk : List Value} {E : Ev} {M : Mi} {L : Ml} {cn sn : Nat} {f : Option ρ}
variable {y : MethodName} {bytes : ByteArray} {maxL mc ms n i k c N : Nat} {ry : Option FieldType} {rmc : Room} {As : List Value} {Cn : String} {T : u_T} {ty : Nat → FieldType}
theorem j_callS_rx (C : Cx κ cc own rm ret) {Φ : Nat → Ev → Mi → Ml → Prop} (hd : decode cc pc = .ok (.invokestatic i, 3)) (hct : Ct (kγ κ) y bytes maxL ry rmc As E M L (Q_rx (kγ κ) Φ) mc ms (some ())) (mv : MS y bytes maxL ry n) (hml : Cond.methodLink own i y ∈ TB) (hn : As.length = n) (hstk : stk = As.reverse ++ st) (hst : (st.map fun v => v.category).sum ≤ 8) (hrm : RmOk rmc rm maxL mc ms cn sn) (kk : ∀ a E' M' L', Φ a E' M' L' → JF κ P (pc + 3) lv (.ref a :: st) E' M' L' (cn + mc) (sn + ms) f) : JF κ P pc lv stk E M L cn sn f := fun r hr H locs ls hG hl => by
  have hrun := run_S C hct mv hml hn hstk hst hrm hd rfl hG hl
  refine va_callr hrun hG.2.2 (fun q _ h => h) (fun q h => h) (fun u a t H1 locs1 ht hvm hw hB hz1 hk1 hS1 => ?_)
  obtain ⟨E', M', L', hΦ, hB1, hB2⟩ := hB
  rw [ht] at hB1
  exact kk a E' M' L' hΦ r hr H1 locs1 ls ⟨hB1, hB2, hS1⟩ hl
theorem j_callV_rx (C : Cx κ cc own rm ret) {Φ : Nat → Ev → Mi → Ml → Prop} (hd : decode cc pc = .ok (.invokevirtual i, 3)) (hct : Ct (kγ κ) y bytes maxL ry rmc (.ref (E.2.1 k) :: As) E M L (Q_rx (kγ κ) Φ) mc ms (some ())) (mv : MV Cn y bytes maxL ry n) (hml : Cond.methodLink own i y ∈ TB) (F : FC c Cn T N ty) (hS : E.1[k]? = some (.inl c)) (hn : As.length = n) (hstk : stk = As.reverse ++ .ref (E.2.1 k) :: st) (hst : (st.map fun v => v.category).sum ≤ 8) (hrm : RmOk rmc rm maxL mc ms cn sn) (kk : ∀ a E' M' L', Φ a E' M' L' → JF κ P (pc + 3) lv (.ref a :: st) E' M' L' (cn + mc) (sn + ms) f) : JF κ P pc lv stk E M L cn sn f := fun r hr H locs ls hG hl => by
  have hrun := run_V C hct mv hml F hS hn hstk hst hrm hd rfl hG hl
  refine va_callr hrun hG.2.2 (fun q _ h => h) (fun q h => h) (fun u a t H1 locs1 ht hvm hw hB hz1 hk1 hS1 => ?_)
  obtain ⟨E', M', L', hΦ, hB1, hB2⟩ := hB
  rw [ht] at hB1
  exact kk a E' M' L' hΦ r hr H1 locs1 ls ⟨hB1, hB2, hS1⟩ hl
theorem j_callV_nx (C : Cx κ cc own rm ret) {Φ : Ev → Mi → Ml → Prop} (hd : decode cc pc = .ok (.invokevirtual i, 3)) (hct : Ct (kγ κ) y bytes maxL ry rmc (.ref (E.2.1 k) :: As) E M L (Q_nx (kγ κ) Φ) mc ms (some ())) (mv : MV Cn y bytes maxL ry n) (hml : Cond.methodLink own i y ∈ TB) (F : FC c Cn T N ty) (hS : E.1[k]? = some (.inl c)) (hn : As.length = n) (hstk : stk = As.reverse ++ .ref (E.2.1 k) :: st) (hst : (st.map fun v => v.category).sum ≤ 8) (hrm : RmOk rmc rm maxL mc ms cn sn) (kk : ∀ E' M' L', Φ E' M' L' → JF κ P (pc + 3) lv (.null :: st) E' M' L' (cn + mc) (sn + ms) f) : JF κ P pc lv stk E M L cn sn f := fun r hr H locs ls hG hl => by
  have hrun := run_V C hct mv hml F hS hn hstk hst hrm hd rfl hG hl
  refine va_callq hrun hG.2.2 (fun q _ h => h) (fun q h => h) (fun r2 u t H1 locs1 ht hvm hw hB hz1 hk1 hS1 => ?_)
  subst hw
  obtain ⟨E', M', L', hΦ, hB1, hB2⟩ := hB
  rw [ht] at hB1
  exact kk E' M' L' hΦ r hr H1 locs1 ls ⟨hB1, hB2, hS1⟩ hl
theorem j_callV_ix (C : Cx κ cc own rm ret) {v : Int32} {Φ : Ev → Mi → Ml → Prop} (hd : decode cc pc = .ok (.invokevirtual i, 3)) (hct : Ct (kγ κ) y bytes maxL ry rmc (.ref (E.2.1 k) :: As) E M L (Q_ix (kγ κ) v Φ) mc ms (some ())) (mv : MV Cn y bytes maxL ry n) (hml : Cond.methodLink own i y ∈ TB) (F : FC c Cn T N ty) (hS : E.1[k]? = some (.inl c)) (hn : As.length = n) (hstk : stk = As.reverse ++ .ref (E.2.1 k) :: st) (hst : (st.map fun v => v.category).sum ≤ 8) (hrm : RmOk rmc rm maxL mc ms cn sn) (kk : ∀ E' M' L', Φ E' M' L' → JF κ P (pc + 3) lv (.int v :: st) E' M' L' (cn + mc) (sn + ms) f) : JF κ P pc lv stk E M L cn sn f := fun r hr H locs ls hG hl => by
  have hrun := run_V C hct mv hml F hS hn hstk hst hrm hd rfl hG hl
  refine va_calli hrun hG.2.2 (fun q _ h => h) (fun q h => h) (fun r2 u t H1 locs1 ht hvm hw hB hz1 hk1 hS1 => ?_)
  subst hw
  obtain ⟨E', M', L', hΦ, hB1, hB2⟩ := hB
  rw [ht] at hB1
  exact kk E' M' L' hΦ r hr H1 locs1 ls ⟨hB1, hB2, hS1⟩ hl
end CX
theorem nI_neg {N : Nat} (h : N < 2 ^ 31) : ¬ nI N < 0 := fun q => by
  have q2 := Int32.lt_iff_toInt_lt.mp q
  rw [nI_toIntc h, show (0 : Int32).toInt = 0 from rfl] at q2
  omega
theorem mi_J9_min : MS yJ9_min_7cf53 cJ9_min_7cf53 2 (some .int) 2 := ⟨tw_397, tw_112, tw_398, by decide +kernel⟩
theorem mi_copyOf : MS yJ7_copyOf_59c91 cJ7_copyOf_59c91 3 (some (.array .int)) 2 := ⟨tw_387, tw_111, tw_388, by decide +kernel⟩
theorem mi_readText : MV RX2 yX2_readText cX2_readText 3 (some (.object RX4)) 0 := ⟨tw_302, tw_303, tw_104, tw_304, by decide +kernel⟩
theorem ct_min (γ : Gm) (E : Ev) (M : Mi) (L : Ml) (x y : Int32) (h : y < x) : Ct γ yJ9_min_7cf53 cJ9_min_7cf53 2 (some .int) ⟨0, 0, 0, 0⟩ [.int x, .int y] E M L (Q_i γ E M L) 0 0 (some y) := by
  refine ct_ofF (own := RJ9) (lv := [some (.int x), some (.int y)]) (by decide +kernel) rfl rfl (Nat.le_of_ble_eq_true rfl) (fun κ C hγ hN => ?_)
  subst hγ
  refine j_iload_n C dJ9_min_7cf53_0 rfl rfl ?_
  refine j_iload_n C dJ9_min_7cf53_1 rfl rfl ?_
  refine j_take h (j_icmp_gt (tgt := 9) C dJ9_min_7cf53_2 (by decide) ?_ jf_none)
  refine j_iload_n C dJ9_min_7cf53_9 rfl rfl ?_
  exact j_iret C dJ9_min_7cf53_10
set_option maxRecDepth 100000 in
set_option maxHeartbeats 4000000 in
theorem ct_copyOf (γ : Gm) (E : Ev) (M : Mi) (L : Ml) (k0 N l : Nat) (hN : N < 160) (hS : E.1[k0]? = some (.inr (0, 160))) (hl : E.1.length = l) (hZ : Zn l M L) (hR : RW E) : Ct γ yJ7_copyOf_59c91 cJ7_copyOf_59c91 3 (some (.array .int)) ⟨1, 1, 160, 60⟩ [.ref (E.2.1 k0), .int (nI N)] E M L (Q_rx γ (fun a E' M' L' => ∃ q, E' = eN E (.inr (0, N)) q ∧ a = E'.2.1 l ∧ M' = upr M l (va_cpy (M k0) (M l) 0 0 N) ∧ L' = L ∧ RW E')) 1 160 (some ()) := by
  refine ct_of (own := RJ7) (lv := [some (.ref (E.2.1 k0)), some (.int (nI N)), none]) (by decide +kernel) rfl rfl (Nat.le_of_ble_eq_true rfl) (fun κ C hγ hNL => ?_)
  subst hγ
  have hk0 : k0 < E.1.length := (List.getElem?_eq_some_iff.mp hS).1
  have hne : k0 ≠ l := by omega
  refine j_iload_n C dJ7_copyOf_59c91_0 rfl rfl ?_
  refine j_aload_n C dJ7_copyOf_59c91_1 rfl rfl ?_
  refine j_alen C dJ7_copyOf_59c91_2 hS ?_
  refine j_skip (c := nI N = nI 160) (fun q => by have := (nI_eq (by omega) (by decide)).mp q; omega) (j_icmp_ne (tgt := 14) C dJ7_copyOf_59c91_3 (by decide) ?_ jf_none)
  refine j_iload_n C dJ7_copyOf_59c91_14 rfl rfl ?_
  refine j_newaQ (N := N) C dJ7_copyOf_59c91_15 (nI_neg (by omega)) (nI_clamp (show N < 2 ^ 31 by omega)) (by omega) hl hZ hR ⟨by decide, by dsimp only; omega⟩ (fun q hR1 => ?_)
  refine j_astore_n (i := 2) (lv' := [some (.ref (E.2.1 k0)), some (.int (nI N)), some (.ref ((eN E (.inr (0, N)) q).2.1 l))]) C dJ7_copyOf_59c91_17 rfl (by rw [hNL]; decide) rfl ?_
  have hS0 : (eN E (.inr (0, N)) q).1[k0]? = some (.inr (0, 160)) := by simp only [eN]; rw [List.getElem?_append_left hk0]; exact hS
  have hS1 : (eN E (.inr (0, N)) q).1[l]? = some (.inr (0, N)) := by simp only [eN]; rw [List.getElem?_append_right (by omega), hl, Nat.sub_self]; rfl
  rw [← eN_ad (d := .inr (0, N)) (q := q) hk0]
  refine j_aload_n C dJ7_copyOf_59c91_18 rfl rfl ?_
  refine j_iconst (v := (0 : Int32)) C dJ7_copyOf_59c91_19 rfl ?_
  refine j_aload_n C dJ7_copyOf_59c91_20 rfl rfl ?_
  refine j_iconst (v := (0 : Int32)) C dJ7_copyOf_59c91_21 rfl ?_
  refine j_aload_n C dJ7_copyOf_59c91_22 rfl rfl ?_
  refine j_alen C dJ7_copyOf_59c91_23 hS0 ?_
  refine j_iload_n C dJ7_copyOf_59c91_24 rfl rfl ?_
  refine j_known (v0 := nI N) rfl (j_callS_i (st := [.int 0, .ref ((eN E (.inr (0, N)) q).2.1 l), .int 0, .ref ((eN E (.inr (0, N)) q).2.1 k0)]) C dJ7_copyOf_59c91_25 (ct_min (kγ κ) _ M L (nI 160) (nI N) (nI_lt (by omega) (by decide))) mi_J9_min tw_396 rfl rfl (Nat.le_of_ble_eq_true rfl) ⟨⟨rfl, rfl⟩, ⟨Nat.le_of_ble_eq_true rfl, Nat.le_of_ble_eq_true rfl⟩, ⟨by decide, by dsimp only; omega⟩⟩ (fun v => j_at (fun hv => ?_)))
  subst hv
  refine j_take (c := cpok 0 0 (nI N) 160 N = true) (by unfold cpok; rw [decide_eq_true_eq, nI_clamp (show N < 2 ^ 31 by omega)]; exact ⟨by decide, by decide, nI_neg (by omega), by show 0 + N ≤ 160; omega, by show 0 + N ≤ N; omega⟩) (j_copyi C dJ7_copyOf_59c91_28 hS0 hS1 tw_399 tw_401 tw_400 tw_113 (Nat.le_of_ble_eq_true rfl) (Nat.le_of_ble_eq_true rfl) ?_)
  refine j_aload_n C dJ7_copyOf_59c91_31 rfl rfl ?_
  refine j_widen (cn' := 1) (sn' := 160) (by decide) (by omega) ?_
  exact j_aretx (Or.inr ⟨_, rfl⟩) C dJ7_copyOf_59c91_32 ⟨q, rfl, rfl, by rw [nI_clamp (show N < 2 ^ 31 by omega)]; rfl, rfl, hR1⟩
