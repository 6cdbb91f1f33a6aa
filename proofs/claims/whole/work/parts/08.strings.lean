/-! String constants: length, charAt, over the JDK's own code -/
theorem mi_J0_coder_7d493 : MV RJ0 yJ0_coder_7d493 cJ0_coder_7d493 1 (some .byte) 0 := ⟨tw_254, tw_255, tw_106, tw_256, by decide +kernel⟩
theorem mi_J0_isLatin1_aae02 : MV RJ0 yJ0_isLatin1_aae02 cJ0_isLatin1_aae02 1 (some .boolean) 0 := ⟨tw_264, tw_265, tw_106, tw_266, by decide +kernel⟩
theorem mi_J0_checkIndex_df160 : MS yJ0_checkIndex_df160 cJ0_checkIndex_df160 2 none 2 := ⟨tw_271, tw_106, tw_272, by decide +kernel⟩
theorem mi_J1_charAt_3b067 : MS yJ1_charAt_3b067 cJ1_charAt_3b067 2 (some .char) 2 := ⟨tw_268, tw_107, tw_269, by decide +kernel⟩
theorem mi_PC : MS yJ3_checkIndex_8e157 cJ3_checkIndex_8e157 3 (some .int) 3 := ⟨tw_276, tw_108, tw_277, by decide +kernel⟩
theorem jB_len : ∀ w, w < 13 → jL.getD w 0 = (jB.getD w []).length ∧ jL.getD w 0 < 100 := by decide
theorem jB_255 : ∀ w, w < 13 → ∀ b ∈ jB.getD w [], b &&& 255 = b := by decide
theorem getD_mem' {l : List Int32} {k : Nat} {d : Int32} (h : k < l.length) : l.getD k d ∈ l := by
  rw [List.getD_eq_getElem?_getD, List.getElem?_eq_getElem h]; exact List.getElem_mem h
theorem getD_out' {l : List Int32} {k : Nat} {d : Int32} (h : l.length ≤ k) : l.getD k d = d := by
  rw [List.getD_eq_getElem?_getD, List.getElem?_eq_none h]; rfl
theorem jB_at {w : Nat} (hw : w < 13) (k : Nat) : ((jB.getD w []).getD k 0) &&& 255 = (jB.getD w []).getD k 0 := by
  by_cases h : k < (jB.getD w []).length
  · exact jB_255 w hw _ (getD_mem' h)
  · rw [getD_out' (by omega)]; rfl
section STR0
variable {ρ : Type} {κ : Kx} {P : ρ → State → Prop} {cc : ByteArray} {own : String} {rm : Room} {ret : Option FieldType} {pc : Nat} {lv : List (Option Value)} {st stk : List Value} {E : Ev} {M : Mi} {L : Ml} {cn sn : Nat} {f g : Option ρ}
theorem j_sgetV (C : Cx κ cc own rm ret) {w i : Nat} (hw : w < 13) (hd : decode cc pc = .ok (.getfield i, 3)) (hL : Cond.fieldLink own i "java/lang/String" "value" "[B" ∈ TB) (k : JF κ P (pc + 3) lv (.ref (gV (kγ κ) w) :: st) E M L cn sn f) : JF κ P pc lv (.ref (gK (kγ κ) w) :: st) E M L cn sn f :=
  fun r hr H locs ls hG hl => vk_getf C.1 C.2.1 (C.stat.2.2.2.2.1.1 w hw).2.2.1 hG.2.2 C.own (C.w hL) (fun _ h => h) hd (k r hr H locs ls hG hl)
theorem j_sgetC (C : Cx κ cc own rm ret) {w i : Nat} (hw : w < 13) (hd : decode cc pc = .ok (.getfield i, 3)) (hL : Cond.fieldLink own i "java/lang/String" "coder" "B" ∈ TB) (k : JF κ P (pc + 3) lv (.int 0 :: st) E M L cn sn f) : JF κ P pc lv (.ref (gK (kγ κ) w) :: st) E M L cn sn f :=
  fun r hr H locs ls hG hl => vk_getf C.1 C.2.1 (C.stat.2.2.2.2.1.1 w hw).2.1 hG.2.2 C.own (C.w hL) (fun _ h => h) hd (k r hr H locs ls hG hl)
theorem j_slen (C : Cx κ cc own rm ret) {w : Nat} (hw : w < 13) (hd : decode cc pc = .ok (.arraylength, 1)) (k : JF κ P (pc + 1) lv (.int (nI (jL.getD w 0)) :: st) E M L cn sn f) : JF κ P pc lv (.ref (gV (kγ κ) w) :: st) E M L cn sn f :=
  fun r hr H locs ls hG hl => va_tlen C.1 C.2.1 (C.stat.2.2.2.2.1.1 w hw).2.2.2 hG.2.2 rfl hd (k r hr H locs ls hG hl)
theorem j_sbald (C : Cx κ cc own rm ret) {w : Nat} {x : Int32} (hw : w < 13) (hd : decode cc pc = .ok (.baload, 1)) (k : JF κ P (pc + 1) lv (.int ((jB.getD w []).getD x.toNatClampNeg 0) :: st) E M L cn sn f) : JF κ P pc lv (.int x :: .ref (gV (kγ κ) w) :: st) E M L cn sn (if ix x (jL.getD w 0) = true then f else none) :=
  fun r hr H locs ls hG hl => by
    by_cases h : ix x (jL.getD w 0) = true
    · rw [if_pos h] at hr; exact va_tb C.1 C.2.1 (C.stat.2.2.2.2.1.1 w hw).2.2.2 hG.2.2 (ix_in h) rfl hd (k r hr H locs ls hG hl)
    · rw [if_neg h] at hr; cases hr
theorem j_getCS (C : Cx κ cc own rm ret) {i : Nat} (hd : decode cc pc = .ok (.getstatic i, 3)) (hL : Cond.fieldLink own i "java/lang/String" "COMPACT_STRINGS" "Z" ∈ TB) (k : JF κ P (pc + 3) lv (.int 1 :: st) E M L cn sn f) : JF κ P pc lv st E M L cn sn f :=
  fun r hr H locs ls hG hl => va_gets C.1 C.2.1 C.stat.2.2.2.1.1 hG.2.2 C.own (C.w hL) (fun _ h => h) hd (k r hr H locs ls hG hl)
theorem j_getSI (C : Cx κ cc own rm ret) {i : Nat} (hd : decode cc pc = .ok (.getstatic i, 3)) (hL : Cond.fieldLink own i "jdk/internal/util/Preconditions" "SIOOBE_FORMATTER" "Ljava/util/function/BiFunction;" ∈ TB) (kn : JF κ P (pc + 3) lv (.null :: st) E M L cn sn f) (k : ∀ t, JF κ P (pc + 3) lv (.ref t :: st) E M L cn sn f) : JF κ P pc lv st E M L cn sn f :=
  fun r hr H locs ls hG hl => by
    rcases C.stat.2.2.2.1.2 with h | ⟨t, h⟩
    · exact va_gets C.1 C.2.1 h hG.2.2 C.own (C.w hL) (fun _ h => h) hd (kn r hr H locs ls hG hl)
    · exact va_gets C.1 C.2.1 h hG.2.2 C.own (C.w hL) (fun _ h => h) hd (k t r hr H locs ls hG hl)
theorem j_i2c (C : Cx κ cc own rm ret) {x : Int32} (hd : decode cc pc = .ok (.i2c, 1)) (k : JF κ P (pc + 1) lv (.int ((x.toUInt32 % 65536).toInt32) :: st) E M L cn sn f) : JF κ P pc lv (.int x :: st) E M L cn sn f := fun r hr H locs ls hG hl => lv_i2c C.1 C.2.1 hd rfl (k r hr H locs ls hG hl)
theorem j_ishr (C : Cx κ cc own rm ret) {x y : Int32} (hd : decode cc pc = .ok (.ishr, 1)) (k : JF κ P (pc + 1) lv (.int (x >>> (y &&& 31)) :: st) E M L cn sn f) : JF κ P pc lv (.int y :: .int x :: st) E M L cn sn f := fun r hr H locs ls hG hl => lv_ishr C.1 C.2.1 hd (k r hr H locs ls hG hl)
theorem j_nret {ty : FieldType} (C : Cx κ cc own rm (some ty)) {v : Int32} (hn : narrow ty (.int v) = .int v) (hd : decode cc pc = .ok (.ireturn, 1)) : JF κ (PQ κ (Q_i (kγ κ) E M L) cn sn) pc lv [.int v] E M L cn sn (some v) :=
  fun r hr H locs ls hG hl => by cases hr; exact W.zret C.1 C.2.1 C.ret hn (fun t ht hW => ⟨⟨v, (), rfl, rfl, by rw [ht]; exact hG.1, hG.2.1⟩, hG.2.2.F ht⟩) hG.2.2.2.2 hd C.locks
variable {ρ' : Type} {y : MethodName} {bytes : ByteArray} {maxL mc ms n i w : Nat} {ry : Option FieldType} {rmc : Room} {As : List Value} {Q : ρ' → Array Value → State → Outcome → State → Prop} {fc : Option ρ'} {v : ρ'} {H : Heap} {locs : List Loc} {ls : Array Slot}
theorem run_J (C : Cx κ cc own rm ret) (hw : w < 13) (hct : Ct (kγ κ) y bytes maxL ry rmc (.ref (gK (kγ κ) w) :: As) E M L Q mc ms fc) (mv : MV "java/lang/String" y bytes maxL ry n) (hml : Cond.methodLink own i y ∈ TB) (hn : As.length = n) (hstk : stk = As.reverse ++ .ref (gK (kγ κ) w) :: st) (hst : (st.map fun v => v.category).sum ≤ 8) (hrm : RmOk rmc rm maxL mc ms cn sn) (hd : decode cc pc = .ok (.invokevirtual i, 3)) (hv : fc = some v) (hG : GW κ E M L H locs) (hl : lo_has ls (knL κ) lv) :
    va_Run (kp κ) (kl κ) (ke κ) (kR κ) (ks κ) (km κ) (ka κ) (kb κ) (kmeth κ) (kc κ) H locs cn sn mc ms (F0 (km κ) pc ls stk) st (Q v (Value.ref (gK (kγ κ) w) :: As).toArray) (gA (kγ κ)) := by
  subst hstk
  refine va_runV C.fix (hct (kl κ) v hv) (cwV n C.ts (good_of ?_) rfl hrm.1.1 hrm.1.2 mv.2.2.2.2 (by rw [C.R]; exact hrm.2.1)) ⟨PW.blind, vk_recv C.stat.2.2.2.2.1 hw hG.2.2, fun U hU hW => ⟨rfl, hG.pw C hU hW⟩⟩ rfl hn hl.1 rfl (lv_room hst) hd (by rw [C.R]; exact hrm.2.2)
  intro w hw
  simp only [wsV, List.cons_append, List.nil_append, List.mem_cons] at hw
  rcases hw with rfl | rfl | rfl | rfl | rfl | hw
  · exact hml
  · exact mv.1
  · exact mv.2.1
  · exact mv.2.2.1
  · exact mv.2.2.2.1
  · exact hw
theorem j_callJ_i (C : Cx κ cc own rm ret) {fc : Option Int32} {g : Int32 → Option ρ} (hd : decode cc pc = .ok (.invokevirtual i, 3)) (hw : w < 13) (hct : Ct (kγ κ) y bytes maxL ry rmc (.ref (gK (kγ κ) w) :: As) E M L (Q_i (kγ κ) E M L) 0 0 fc) (mv : MV "java/lang/String" y bytes maxL ry n) (hml : Cond.methodLink own i y ∈ TB) (hn : As.length = n) (hstk : stk = As.reverse ++ .ref (gK (kγ κ) w) :: st) (hst : (st.map fun v => v.category).sum ≤ 8) (hrm : RmOk rmc rm maxL 0 0 cn sn) (kk : ∀ v, JF κ P (pc + 3) lv (.int v :: st) E M L cn sn (g v)) : JF κ P pc lv stk E M L cn sn (fc.bind g) := fun r hr H locs ls hG hl => by
  cases hf : fc with
  | none => rw [hf] at hr; cases hr
  | some v =>
    rw [hf, Option.bind_some] at hr
    have hrun := run_J C hw hct mv hml hn hstk hst hrm hd hf hG hl
    refine va_calli hrun hG.2.2 (fun q _ h => h) (fun q h => h) (fun r2 u t H1 locs1 ht hvm hw hB hz1 hk1 hS1 => ?_)
    subst hw
    have hB1 := hB.1
    rw [ht] at hB1
    exact kk _ r hr H1 locs1 ls ⟨hB1, hB.2, hS1⟩ hl
end STR0
set_option maxRecDepth 100000 in
set_option maxHeartbeats 4000000 in
theorem ct_coder (γ : Gm) (E : Ev) (M : Mi) (L : Ml) (w : Nat) (hw : w < 13) : Ct γ yJ0_coder_7d493 cJ0_coder_7d493 1 (some .byte) ⟨0, 0, 0, 0⟩ [.ref (gK γ w)] E M L (Q_i γ E M L) 0 0 (some 0) := by
  refine ct_ofF (own := RJ0) (lv := [some (.ref (gK γ w))]) (by decide +kernel) rfl rfl (Nat.le_of_ble_eq_true rfl) (fun κ C hγ hN => ?_)
  subst hγ
  refine j_getCS C dJ0_coder_7d493_0 tw_257 ?_
  refine j_lo (lv' := [some (.ref (gK (kγ κ) w))]) (fun _ _ h => h) ?_
  have h1 : JF κ (PQ κ (Q_i (kγ κ) E M L) 0 0) 6 [some (.ref (gK (kγ κ) w))] [] E M L 0 0 (some 0) := by
    refine j_aload_n C dJ0_coder_7d493_6 rfl rfl ?_
    refine j_sgetC C hw dJ0_coder_7d493_7 tw_1389 ?_
    refine j_goto (tgt := 14) C dJ0_coder_7d493_10 (by decide) ?_
    exact j_nret C rfl dJ0_coder_7d493_14
  have h2 := j_if_eq (tgt := 13) (x := 1) (g := some 0) (f := none) (P := PQ κ (Q_i (kγ κ) E M L) 0 0) (lv := [some (.ref (gK (kγ κ) w))]) (st := []) (E := E) (M := M) (L := L) (cn := 0) (sn := 0) C dJ0_coder_7d493_3 (by decide) jf_none h1
  exact h2
set_option maxRecDepth 100000 in
set_option maxHeartbeats 4000000 in
theorem ct_isLatin1 (γ : Gm) (E : Ev) (M : Mi) (L : Ml) (w : Nat) (hw : w < 13) : Ct γ yJ0_isLatin1_aae02 cJ0_isLatin1_aae02 1 (some .boolean) ⟨0, 0, 0, 0⟩ [.ref (gK γ w)] E M L (Q_i γ E M L) 0 0 (some 1) := by
  refine ct_ofF (own := RJ0) (lv := [some (.ref (gK γ w))]) (by decide +kernel) rfl rfl (Nat.le_of_ble_eq_true rfl) (fun κ C hγ hN => ?_)
  subst hγ
  refine j_getCS C dJ0_isLatin1_aae02_0 tw_257 ?_
  have h1 : JF κ (PQ κ (Q_i (kγ κ) E M L) 0 0) 6 [some (.ref (gK (kγ κ) w))] [] E M L 0 0 (some 1) := by
    refine j_aload_n C dJ0_isLatin1_aae02_6 rfl rfl ?_
    refine j_sgetC C hw dJ0_isLatin1_aae02_7 tw_1389 ?_
    have h3 : JF κ (PQ κ (Q_i (kγ κ) E M L) 0 0) 13 [some (.ref (gK (kγ κ) w))] [] E M L 0 0 (some 1) := by
      refine j_iconst (v := 1) C dJ0_isLatin1_aae02_13 rfl ?_
      refine j_goto (tgt := 18) C dJ0_isLatin1_aae02_14 (by decide) ?_
      exact j_nret C rfl dJ0_isLatin1_aae02_18
    have h2 := j_if_ne (tgt := 17) (x := 0) (g := some 1) (f := none) (P := PQ κ (Q_i (kγ κ) E M L) 0 0) (lv := [some (.ref (gK (kγ κ) w))]) (st := []) (E := E) (M := M) (L := L) (cn := 0) (sn := 0) C dJ0_isLatin1_aae02_10 (by decide) jf_none h3
    exact h2
  have h2 := j_if_eq (tgt := 17) (x := 1) (g := some 1) (f := none) (P := PQ κ (Q_i (kγ κ) E M L) 0 0) (lv := [some (.ref (gK (kγ κ) w))]) (st := []) (E := E) (M := M) (L := L) (cn := 0) (sn := 0) C dJ0_isLatin1_aae02_3 (by decide) jf_none h1
  exact h2
set_option maxRecDepth 100000 in
set_option maxHeartbeats 4000000 in
theorem ct_slength (γ : Gm) (E : Ev) (M : Mi) (L : Ml) (w : Nat) (hw : w < 13) : Ct γ yJ0_length_8abf5 cJ0_length_8abf5 1 (some .int) ⟨1, 0, 0, 20⟩ [.ref (gK γ w)] E M L (Q_i γ E M L) 0 0 (some (nI (jL.getD w 0))) := by
  refine ct_ofF (own := RJ0) (lv := [some (.ref (gK γ w))]) (by decide +kernel) rfl rfl (Nat.le_of_ble_eq_true rfl) (fun κ C hγ hN => ?_)
  subst hγ
  refine j_aload_n C dJ0_length_8abf5_0 rfl rfl ?_
  refine j_sgetV C hw dJ0_length_8abf5_1 tw_1388 ?_
  refine j_slen C hw dJ0_length_8abf5_4 ?_
  refine j_aload_n C dJ0_length_8abf5_5 rfl rfl ?_
  have h2 := j_callJ_i (st := [.int (nI (jL.getD w 0))]) (g := fun v => some (nI (jL.getD w 0) >>> (v &&& 31))) C dJ0_length_8abf5_6 hw (ct_coder (kγ κ) E M L w hw) mi_J0_coder_7d493 tw_253 rfl rfl (Nat.le_of_ble_eq_true rfl) ⟨⟨rfl, rfl⟩, ⟨Nat.le_of_ble_eq_true rfl, Nat.le_of_ble_eq_true rfl⟩, ⟨Nat.zero_le _, Nat.zero_le _⟩⟩ (P := PQ κ (Q_i (kγ κ) E M L) 0 0) (lv := [some (.ref (gK (kγ κ) w))]) (fun v => by
    refine j_ishr C dJ0_length_8abf5_9 ?_
    exact j_iret C dJ0_length_8abf5_10)
  have e : nI (jL.getD w 0) >>> ((0 : Int32) &&& 31) = nI (jL.getD w 0) := sc_shr0 (by have := (jB_len w hw).2; omega)
  rw [show (some (nI (jL.getD w 0)) : Option Int32) = (some (0 : Int32)).bind (fun v => some (nI (jL.getD w 0) >>> (v &&& 31))) by rw [Option.bind_some, e]]
  exact h2
def F_ckP (x y : Int32) : Option Int32 := if x < 0 then none else if x < y then some x else none
def F_ck (x y : Int32) : Option Unit := (F_ckP x y).bind fun _ => some ()
set_option maxRecDepth 100000 in
set_option maxHeartbeats 4000000 in
theorem ct_PCn (γ : Gm) (E : Ev) (M : Mi) (L : Ml) (x y : Int32)  : Ct γ yJ3_checkIndex_8e157 cJ3_checkIndex_8e157 3 (some .int) ⟨0, 0, 0, 0⟩ [.int x, .int y, .null] E M L (Q_i γ E M L) 0 0 (F_ckP x y) := by
  refine ct_ofF (own := RJ3) (lv := [some (.int x), some (.int y), some (.null)]) (by decide +kernel) rfl rfl (Nat.le_of_ble_eq_true rfl) (fun κ C hγ hN => ?_)
  subst hγ
  unfold F_ckP
  refine j_iload_n C dJ3_checkIndex_8e157_0 rfl rfl ?_
  refine j_if_lt (tgt := 9) C dJ3_checkIndex_8e157_1 (by decide) jf_none ?_
  refine j_iload_n C dJ3_checkIndex_8e157_4 rfl rfl ?_
  refine j_iload_n C dJ3_checkIndex_8e157_5 rfl rfl ?_
  refine j_icmp_lt (tgt := 16) C dJ3_checkIndex_8e157_6 (by decide) ?_ jf_none
  refine j_iload_n C dJ3_checkIndex_8e157_16 rfl rfl ?_
  exact j_iret C dJ3_checkIndex_8e157_17
set_option maxRecDepth 100000 in
set_option maxHeartbeats 4000000 in
theorem ct_PCr (γ : Gm) (E : Ev) (M : Mi) (L : Ml) (x y : Int32) (t : Nat)  : Ct γ yJ3_checkIndex_8e157 cJ3_checkIndex_8e157 3 (some .int) ⟨0, 0, 0, 0⟩ [.int x, .int y, .ref t] E M L (Q_i γ E M L) 0 0 (F_ckP x y) := by
  refine ct_ofF (own := RJ3) (lv := [some (.int x), some (.int y), some (.ref t)]) (by decide +kernel) rfl rfl (Nat.le_of_ble_eq_true rfl) (fun κ C hγ hN => ?_)
  subst hγ
  unfold F_ckP
  refine j_iload_n C dJ3_checkIndex_8e157_0 rfl rfl ?_
  refine j_if_lt (tgt := 9) C dJ3_checkIndex_8e157_1 (by decide) jf_none ?_
  refine j_iload_n C dJ3_checkIndex_8e157_4 rfl rfl ?_
  refine j_iload_n C dJ3_checkIndex_8e157_5 rfl rfl ?_
  refine j_icmp_lt (tgt := 16) C dJ3_checkIndex_8e157_6 (by decide) ?_ jf_none
  refine j_iload_n C dJ3_checkIndex_8e157_16 rfl rfl ?_
  exact j_iret C dJ3_checkIndex_8e157_17
set_option maxRecDepth 100000 in
set_option maxHeartbeats 4000000 in
theorem ct_sck (γ : Gm) (E : Ev) (M : Mi) (L : Ml) (x y : Int32)  : Ct γ yJ0_checkIndex_df160 cJ0_checkIndex_df160 2 none ⟨1, 0, 0, 30⟩ [.int x, .int y] E M L (Q_v γ E M L) 0 0 (F_ck x y) := by
  refine ct_ofF (own := RJ0) (lv := [some (.int x), some (.int y)]) (by decide +kernel) rfl rfl (Nat.le_of_ble_eq_true rfl) (fun κ C hγ hN => ?_)
  subst hγ
  unfold F_ck
  refine j_iload_n C dJ0_checkIndex_df160_0 rfl rfl ?_
  refine j_iload_n C dJ0_checkIndex_df160_1 rfl rfl ?_
  refine j_getSI C dJ0_checkIndex_df160_2 tw_273 ?_ (fun t => ?_)
  · refine j_callS_i (st := []) C dJ0_checkIndex_df160_5 (ct_PCn (kγ κ) E M L x y) mi_PC tw_275 rfl rfl (Nat.le_of_ble_eq_true rfl) ⟨⟨rfl, rfl⟩, ⟨Nat.le_of_ble_eq_true rfl, Nat.le_of_ble_eq_true rfl⟩, ⟨Nat.zero_le _, Nat.zero_le _⟩⟩ (fun v => ?_)
    refine j_pop C dJ0_checkIndex_df160_8 rfl ?_
    exact j_vret C dJ0_checkIndex_df160_9
  · refine j_callS_i (st := []) C dJ0_checkIndex_df160_5 (ct_PCr (kγ κ) E M L x y t) mi_PC tw_275 rfl rfl (Nat.le_of_ble_eq_true rfl) ⟨⟨rfl, rfl⟩, ⟨Nat.le_of_ble_eq_true rfl, Nat.le_of_ble_eq_true rfl⟩, ⟨Nat.zero_le _, Nat.zero_le _⟩⟩ (fun v => ?_)
    refine j_pop C dJ0_checkIndex_df160_8 rfl ?_
    exact j_vret C dJ0_checkIndex_df160_9
def F_l1 (w : Nat) (x : Int32) : Option Int32 := (F_ck x (nI (jL.getD w 0))).bind fun _ => if ix x (jL.getD w 0) = true then some ((jB.getD w []).getD x.toNatClampNeg 0) else none
theorem F_l1_eq {w : Nat} {x : Int32} (hw : w < 13) : F_l1 w x = if ix x (jL.getD w 0) = true then some ((jB.getD w []).getD x.toNatClampNeg 0) else none := by
  unfold F_l1 F_ck F_ckP
  have h2 := (jB_len w hw).2
  by_cases h : ix x (jL.getD w 0) = true
  · have hin := ix_in h
    obtain ⟨j, hj, rfl⟩ := vp_in_of hin (by omega)
    rw [if_neg (nI_pos (by omega)), if_pos (nI_lt hj (by omega))]
    rfl
  · by_cases h0 : x < 0
    · rw [if_pos h0, if_neg h]; rfl
    · rw [if_neg h0]; by_cases h1 : x < nI (jL.getD w 0)
      · rw [if_pos h1, if_neg h]; rfl
      · rw [if_neg h1, if_neg h]; rfl
set_option maxRecDepth 100000 in
set_option maxHeartbeats 4000000 in
theorem ct_l1 (γ : Gm) (E : Ev) (M : Mi) (L : Ml) (w : Nat) (x : Int32) (hw : w < 13) : Ct γ yJ1_charAt_3b067 cJ1_charAt_3b067 2 (some .char) ⟨2, 0, 0, 60⟩ [.ref (gV γ w), .int x] E M L (Q_i γ E M L) 0 0 (F_l1 w x) := by
  refine ct_ofF (own := RJ1) (lv := [some (.ref (gV γ w)), some (.int x)]) (by decide +kernel) rfl rfl (Nat.le_of_ble_eq_true rfl) (fun κ C hγ hN => ?_)
  subst hγ
  unfold F_l1
  refine j_iload_n C dJ1_charAt_3b067_0 rfl rfl ?_
  refine j_aload_n C dJ1_charAt_3b067_1 rfl rfl ?_
  refine j_slen C hw dJ1_charAt_3b067_2 ?_
  refine j_callS_v (st := []) C dJ1_charAt_3b067_3 (ct_sck (kγ κ) E M L x (nI (jL.getD w 0))) mi_J0_checkIndex_df160 tw_270 rfl rfl (Nat.le_of_ble_eq_true rfl) ⟨⟨rfl, rfl⟩, ⟨Nat.le_of_ble_eq_true rfl, Nat.le_of_ble_eq_true rfl⟩, ⟨Nat.zero_le _, Nat.zero_le _⟩⟩ (fun v => ?_)
  refine j_aload_n C dJ1_charAt_3b067_6 rfl rfl ?_
  refine j_iload_n C dJ1_charAt_3b067_7 rfl rfl ?_
  refine j_sbald C hw dJ1_charAt_3b067_8 ?_
  refine j_sipush (v := 255) C dJ1_charAt_3b067_9 (by decide) ?_
  refine j_iand C dJ1_charAt_3b067_12 ?_
  refine j_i2c C dJ1_charAt_3b067_13 ?_
  rw [sc_c2, jB_at hw]
  exact j_nret C (by rw [← jB_at hw]; exact sc_nar _) dJ1_charAt_3b067_14
set_option maxRecDepth 100000 in
set_option maxHeartbeats 4000000 in
theorem ct_scharAt (γ : Gm) (E : Ev) (M : Mi) (L : Ml) (w : Nat) (x : Int32) (hw : w < 13) : Ct γ yJ0_charAt_5068e cJ0_charAt_5068e 2 (some .char) ⟨3, 0, 0, 90⟩ [.ref (gK γ w), .int x] E M L (Q_i γ E M L) 0 0 (F_l1 w x) := by
  refine ct_ofF (own := RJ0) (lv := [some (.ref (gK γ w)), some (.int x)]) (by decide +kernel) rfl rfl (Nat.le_of_ble_eq_true rfl) (fun κ C hγ hN => ?_)
  subst hγ
  refine j_aload_n C dJ0_charAt_5068e_0 rfl rfl ?_
  have h2 := j_callJ_i (st := []) (g := fun v => if v = 0 then none else F_l1 w x) C dJ0_charAt_5068e_1 hw (ct_isLatin1 (kγ κ) E M L w hw) mi_J0_isLatin1_aae02 tw_263 rfl rfl (Nat.le_of_ble_eq_true rfl) ⟨⟨rfl, rfl⟩, ⟨Nat.le_of_ble_eq_true rfl, Nat.le_of_ble_eq_true rfl⟩, ⟨Nat.zero_le _, Nat.zero_le _⟩⟩ (P := PQ κ (Q_i (kγ κ) E M L) 0 0) (lv := [some (.ref (gK (kγ κ) w)), some (.int x)]) (fun v => by
    refine j_if_eq (tgt := 16) C dJ0_charAt_5068e_4 (by decide) jf_none ?_
    refine j_aload_n C dJ0_charAt_5068e_7 rfl rfl ?_
    refine j_sgetV C hw dJ0_charAt_5068e_8 tw_1388 ?_
    refine j_iload_n C dJ0_charAt_5068e_11 rfl rfl ?_
    have h3 := j_callS_i (st := []) (g := fun v => if v &&& 255 = v then some v else none) C dJ0_charAt_5068e_12 (ct_l1 (kγ κ) E M L w x hw) mi_J1_charAt_3b067 tw_267 rfl rfl (Nat.le_of_ble_eq_true rfl) ⟨⟨rfl, rfl⟩, ⟨Nat.le_of_ble_eq_true rfl, Nat.le_of_ble_eq_true rfl⟩, ⟨Nat.zero_le _, Nat.zero_le _⟩⟩ (P := PQ κ (Q_i (kγ κ) E M L) 0 0) (lv := [some (.ref (gK (kγ κ) w)), some (.int x)]) (fun v => by
      refine j_guard (fun hv => ?_)
      exact j_nret C (by rw [← hv]; exact sc_nar _) dJ0_charAt_5068e_15)
    have e : F_l1 w x = (F_l1 w x).bind (fun v => if v &&& 255 = v then some v else none) := by
      rw [F_l1_eq hw]
      by_cases h : ix x (jL.getD w 0) = true
      · rw [if_pos h, Option.bind_some, if_pos (jB_at hw _)]
      · rw [if_neg h]; rfl
    rw [e]
    exact h3)
  rw [Option.bind_some, if_neg (by decide)] at h2
  exact h2
section STR
variable {ρ : Type} {κ : Kx} {P : ρ → State → Prop} {cc : ByteArray} {own : String} {rm : Room} {ret : Option FieldType} {pc : Nat} {lv : List (Option Value)} {st : List Value} {E : Ev} {M : Mi} {L : Ml} {cn sn : Nat} {f g : Option ρ}
theorem j_strLen (C : Cx κ cc own rm ret) {w i : Nat} (hd : decode cc pc = .ok (.invokevirtual i, 3)) (hw : w < 13) (mv : MV RJ0 yJ0_length_8abf5 cJ0_length_8abf5 1 (some .int) 0) (hml : Cond.methodLink own i yJ0_length_8abf5 ∈ TB) (hst : (st.map fun v => v.category).sum ≤ 8) (hf : 6 ≤ rm.frames) (hlo : 260 ≤ rm.locals) (hcs : cn ≤ rm.cells ∧ sn ≤ rm.slots) (k : JF κ P (pc + 3) lv (.int (nI (jL.getD w 0)) :: st) E M L cn sn f) : JF κ P pc lv (.ref (gK (kγ κ) w) :: st) E M L cn sn f := by
  have h := j_callJ_i (st := st) (g := fun v => if v = nI (jL.getD w 0) then f else none) C hd hw (ct_slength (kγ κ) E M L w hw) mv hml rfl rfl hst (P := P) (lv := lv) (cn := cn) (sn := sn) ⟨⟨rfl, rfl⟩, ⟨by show 1 + 1 ≤ _; omega, by show 8 + (1 + 11) + 20 ≤ _; omega⟩, hcs⟩ (fun v => j_guard (fun hv => hv ▸ k))
  rw [Option.bind_some, if_pos rfl] at h
  exact h
theorem j_strAt (C : Cx κ cc own rm ret) {w i : Nat} {x : Int32} (hd : decode cc pc = .ok (.invokevirtual i, 3)) (hw : w < 13) (mv : MV RJ0 yJ0_charAt_5068e cJ0_charAt_5068e 2 (some .char) 1) (hml : Cond.methodLink own i yJ0_charAt_5068e ∈ TB) (hst : (st.map fun v => v.category).sum ≤ 8) (hf : 6 ≤ rm.frames) (hlo : 260 ≤ rm.locals) (hcs : cn ≤ rm.cells ∧ sn ≤ rm.slots) (k : JF κ P (pc + 3) lv (.int ((jB.getD w []).getD x.toNatClampNeg 0) :: st) E M L cn sn f) : JF κ P pc lv (.int x :: .ref (gK (kγ κ) w) :: st) E M L cn sn (if ix x (jL.getD w 0) = true then f else none) := by
  have h := j_callJ_i (st := st) (g := fun v => if v = (jB.getD w []).getD x.toNatClampNeg 0 then f else none) C hd hw (ct_scharAt (kγ κ) E M L w x hw) mv hml rfl rfl hst (P := P) (lv := lv) (cn := cn) (sn := sn) ⟨⟨rfl, rfl⟩, ⟨by show 3 + 1 ≤ _; omega, by show 8 + (2 + 11) + 90 ≤ _; omega⟩, hcs⟩ (fun v => j_guard (fun hv => hv ▸ k))
  rw [F_l1_eq hw] at h
  by_cases hx : ix x (jL.getD w 0) = true
  · rw [if_pos hx, Option.bind_some, if_pos rfl] at h; rw [if_pos hx]; exact h
  · rw [if_neg hx]; exact jf_none
end STR
