/-! THE LAW: the twenty-nine cases of its switch -/
section LC
variable {κ : Kx} {P : Unit → State → Prop} {b N i cn sn : Nat} {xs : Nat → Int32} {Ex Em : Ev} {Mx Mm : Mi} {Lx Lm : Ml} {σ : Sg}
abbrev JX (κ : Kx) (P : Unit → State → Prop) (pc : Nat) (b i : Nat) (Ex : Ev) (Mx : Mi) (Lx : Ml) (Em : Ev) (Mm : Mi) (Lm : Ml) (cn sn : Nat) : Prop := JF (kW κ (wd (gG (kγ κ)) Em Mm Lm)) P pc [some (.ref b), some (.ref (Ex.2.1 0)), some (.ref (Em.2.1 0)), some (.int (nI i))] [] Ex Mx Lx cn sn (some ())
/-- what a case may count on; what it owes -/
def LQ (κ : Kx) (b N i cn sn : Nat) (xs : Nat → Int32) (Ex Em : Ev) (Mx Mm : Mi) (Lx Lm : Ml) (σ : Sg) : Prop := Cx κ cL_law RL room_1 ret ∧ LH κ b N xs ∧ i + 6 ≤ N ∧ XW Ex Mx Lx σ ∧ YZ Em Mm Lm σ ∧ WS σ ∧ (cn + 2 ≤ room_1.cells ∧ sn + 163 ≤ room_1.slots)
def LD (κ : Kx) (P : Unit → State → Prop) (b i cn sn : Nat) (Ex Em : Ev) : Prop := ∀ (Ex1 Em1 : Ev) (Mx1 Mm1 : Mi) (Lx1 Lm1 : Ml) (σ1 : Sg), XW Ex1 Mx1 Lx1 σ1 → YZ Em1 Mm1 Lm1 σ1 → WS σ1 → Ex1.2.1 0 = Ex.2.1 0 → Em1.2.1 0 = Em.2.1 0 → JX κ P 1166 b i Ex1 Mx1 Lx1 Em1 Mm1 Lm1 (cn + 2) (sn + 163)
set_option maxRecDepth 100000 in
set_option maxHeartbeats 4000000 in
theorem lc_set (h : LQ κ b N i cn sn xs Ex Em Mx Mm Lx Lm σ) (kk : LD κ P b i cn sn Ex Em) : JX κ P 164 b i Ex Mx Lx Em Mm Lm cn sn := by
  obtain ⟨C, hs, hi, hx, hy, hS, hc⟩ := h
  have hc0 : cn + 0 ≤ room_1.cells ∧ sn + 0 ≤ room_1.slots := ⟨by have := hc.1; omega, by have := hc.2; omega⟩
  refine j_aload_n (C.kW _) dL_law_164 rfl rfl ?_
  refine j_arg (C.kW _) (hs.kW _) (k := 1) dL_law_165 dL_law_166 dL_law_167 dL_law_168 dL_law_169 rfl (by omega) rfl rfl ?_
  refine j_arg (C.kW _) (hs.kW _) (k := 2) dL_law_170 dL_law_171 dL_law_172 dL_law_173 dL_law_174 rfl (by omega) rfl rfl ?_
  refine j_arg (C.kW _) (hs.kW _) (k := 3) dL_law_175 dL_law_176 dL_law_177 dL_law_178 dL_law_179 rfl (by omega) rfl rfl ?_
  obtain ⟨M1, L1, e1, g1⟩ := X_set hS hx.2.1 (xs (i + 1)) (xs (i + 2)) (xs (i + 3))
  refine j_known e1 (j_callV_iw (st := []) (C.kW _) dL_law_180 (ct_X5_set _ Ex Mx Lx (xs (i + 1)) (xs (i + 2)) (xs (i + 3)) hx.1) mi_X5_set tw_451 FC5 hx.1.S rfl rfl (Nat.le_of_ble_eq_true rfl) ⟨⟨rfl, rfl⟩, ⟨Nat.le_of_ble_eq_true rfl, Nat.le_of_ble_eq_true rfl⟩, hc0⟩ (fun v => j_at (fun hv => ?_)))
  subst hv
  dsimp only
  refine j_swap ?_
  refine j_aload_n (C.kW _) dL_law_183 rfl rfl ?_
  refine j_arg (C.kW _) (hs.kW _) (k := 1) dL_law_184 dL_law_185 dL_law_186 dL_law_187 dL_law_188 rfl (by omega) rfl rfl ?_
  refine j_arg (C.kW _) (hs.kW _) (k := 2) dL_law_189 dL_law_190 dL_law_191 dL_law_192 dL_law_193 rfl (by omega) rfl rfl ?_
  refine j_arg (C.kW _) (hs.kW _) (k := 3) dL_law_194 dL_law_195 dL_law_196 dL_law_197 dL_law_198 rfl (by omega) rfl rfl ?_
  obtain ⟨R1, S1, f1, g2⟩ := Y_set hS hy.2 (xs (i + 1)) (xs (i + 2)) (xs (i + 3))
  refine j_known f1 (j_callV_iw (st := [.int ((s_set σ (xs (i + 1)) (xs (i + 2)) (xs (i + 3))).1)]) (C.kW _) dL_law_199 (ct_X6_set _ Em Mm Lm (xs (i + 1)) (xs (i + 2)) (xs (i + 3)) hy.1) mi_X6_set tw_928 FC6 hy.1.S rfl rfl (Nat.le_of_ble_eq_true rfl) ⟨⟨rfl, rfl⟩, ⟨Nat.le_of_ble_eq_true rfl, Nat.le_of_ble_eq_true rfl⟩, hc0⟩ (fun v => j_at (fun hv => ?_)))
  subst hv
  dsimp only
  refine j_swap ?_
  refine j_take (c := (s_set σ (xs (i + 1)) (xs (i + 2)) (xs (i + 3))).1 = (s_set σ (xs (i + 1)) (xs (i + 2)) (xs (i + 3))).1) rfl (j_icmp_eq (tgt := 1166) (C.kW _) dL_law_202 (by decide) ?_ jf_none)
  refine j_widen (cn' := cn + 2) (sn' := sn + 163) (by omega) (by omega) ?_
  exact kk _ _ _ _ _ _ (s_set σ (xs (i + 1)) (xs (i + 2)) (xs (i + 3))).2 (⟨hx.1, g1, hx.2.2⟩) (⟨hy.1, g2⟩) ((W_set hS (xs (i + 1)) (xs (i + 2)) (xs (i + 3)))) rfl rfl
set_option maxRecDepth 100000 in
set_option maxHeartbeats 4000000 in
theorem lc_party (h : LQ κ b N i cn sn xs Ex Em Mx Mm Lx Lm σ) (kk : LD κ P b i cn sn Ex Em) : JX κ P 207 b i Ex Mx Lx Em Mm Lm cn sn := by
  obtain ⟨C, hs, hi, hx, hy, hS, hc⟩ := h
  have hc0 : cn + 0 ≤ room_1.cells ∧ sn + 0 ≤ room_1.slots := ⟨by have := hc.1; omega, by have := hc.2; omega⟩
  refine j_aload_n (C.kW _) dL_law_207 rfl rfl ?_
  refine j_arg (C.kW _) (hs.kW _) (k := 1) dL_law_208 dL_law_209 dL_law_210 dL_law_211 dL_law_212 rfl (by omega) rfl rfl ?_
  refine j_arg (C.kW _) (hs.kW _) (k := 2) dL_law_213 dL_law_214 dL_law_215 dL_law_216 dL_law_217 rfl (by omega) rfl rfl ?_
  refine j_arg (C.kW _) (hs.kW _) (k := 3) dL_law_218 dL_law_219 dL_law_220 dL_law_221 dL_law_222 rfl (by omega) rfl rfl ?_
  obtain ⟨M1, e1, q0, q1⟩ := X_party hS.1 hx.2.1.1 (xs (i + 1)) (xs (i + 2)) (xs (i + 3))
  refine j_known e1 (j_callV_iw (st := []) (C.kW _) dL_law_223 (ct_X5_party _ Ex Mx Lx (xs (i + 1)) (xs (i + 2)) (xs (i + 3)) hx.1) mi_X5_party tw_562 FC5 hx.1.S rfl rfl (Nat.le_of_ble_eq_true rfl) ⟨⟨rfl, rfl⟩, ⟨Nat.le_of_ble_eq_true rfl, Nat.le_of_ble_eq_true rfl⟩, hc0⟩ (fun v => j_at (fun hv => ?_)))
  subst hv
  dsimp only
  refine j_swap ?_
  refine j_aload_n (C.kW _) dL_law_226 rfl rfl ?_
  refine j_arg (C.kW _) (hs.kW _) (k := 1) dL_law_227 dL_law_228 dL_law_229 dL_law_230 dL_law_231 rfl (by omega) rfl rfl ?_
  refine j_arg (C.kW _) (hs.kW _) (k := 2) dL_law_232 dL_law_233 dL_law_234 dL_law_235 dL_law_236 rfl (by omega) rfl rfl ?_
  refine j_arg (C.kW _) (hs.kW _) (k := 3) dL_law_237 dL_law_238 dL_law_239 dL_law_240 dL_law_241 rfl (by omega) rfl rfl ?_
  obtain ⟨R1, f1, p0, p1, p2⟩ := Y_party hS.1 hy.2.1 (xs (i + 1)) (xs (i + 2)) (xs (i + 3))
  refine j_known f1 (j_callV_iw (st := [.int ((s_party (uA σ) (xs (i + 1)) (xs (i + 2)) (xs (i + 3))).1)]) (C.kW _) dL_law_242 (ct_X6_party _ Em Mm Lm (xs (i + 1)) (xs (i + 2)) (xs (i + 3)) hy.1) mi_X6_party tw_1192 FC6 hy.1.S rfl rfl (Nat.le_of_ble_eq_true rfl) ⟨⟨rfl, rfl⟩, ⟨Nat.le_of_ble_eq_true rfl, Nat.le_of_ble_eq_true rfl⟩, hc0⟩ (fun v => j_at (fun hv => ?_)))
  subst hv
  dsimp only
  refine j_swap ?_
  refine j_take (c := (s_party (uA σ) (xs (i + 1)) (xs (i + 2)) (xs (i + 3))).1 = (s_party (uA σ) (xs (i + 1)) (xs (i + 2)) (xs (i + 3))).1) rfl (j_icmp_eq (tgt := 1166) (C.kW _) dL_law_245 (by decide) ?_ jf_none)
  refine j_widen (cn' := cn + 2) (sn' := sn + 163) (by omega) (by omega) ?_
  exact kk _ _ _ _ _ _ ((s_party (uA σ) (xs (i + 1)) (xs (i + 2)) (xs (i + 3))).2, σ.2) (⟨hx.1, (hx.2.1.now q0 (fun k _ hk => q1 k (by omega)) (fun _ _ => rfl)), hx.2.2⟩) (⟨hy.1, (hy.2.now p0 (fun k a c _ => p1 k a c) (fun j hj => p2 j (by omega)) (fun _ _ => rfl))⟩) (⟨(Ws_party hS.1 (xs (i + 1)) (xs (i + 2)) (xs (i + 3))).1, by show aM (s_party (uA σ) (xs (i + 1)) (xs (i + 2)) (xs (i + 3))).2 ≤ 999; rw [(Ws_party hS.1 (xs (i + 1)) (xs (i + 2)) (xs (i + 3))).2]; exact hS.2.1, hS.2.2⟩) rfl rfl
set_option maxRecDepth 100000 in
set_option maxHeartbeats 4000000 in
theorem lc_told (h : LQ κ b N i cn sn xs Ex Em Mx Mm Lx Lm σ) (kk : LD κ P b i cn sn Ex Em) : JX κ P 250 b i Ex Mx Lx Em Mm Lm cn sn := by
  obtain ⟨C, hs, hi, hx, hy, hS, hc⟩ := h
  have hc0 : cn + 0 ≤ room_1.cells ∧ sn + 0 ≤ room_1.slots := ⟨by have := hc.1; omega, by have := hc.2; omega⟩
  refine j_aload_n (C.kW _) dL_law_250 rfl rfl ?_
  refine j_arg (C.kW _) (hs.kW _) (k := 1) dL_law_251 dL_law_252 dL_law_253 dL_law_254 dL_law_255 rfl (by omega) rfl rfl ?_
  refine j_arg (C.kW _) (hs.kW _) (k := 2) dL_law_256 dL_law_257 dL_law_258 dL_law_259 dL_law_260 rfl (by omega) rfl rfl ?_
  obtain ⟨M1, e1, q1⟩ := X_told hS.1 hx.2.1.2.2.1 hx.2.1.1 (xs (i + 1)) (xs (i + 2))
  refine j_known e1 (j_callV_iw (st := []) (C.kW _) dL_law_261 (ct_X5_told _ Ex Mx Lx (xs (i + 1)) (xs (i + 2)) hx.1) mi_X5_told tw_569 FC5 hx.1.S rfl rfl (Nat.le_of_ble_eq_true rfl) ⟨⟨rfl, rfl⟩, ⟨Nat.le_of_ble_eq_true rfl, Nat.le_of_ble_eq_true rfl⟩, hc0⟩ (fun v => j_at (fun hv => ?_)))
  subst hv
  dsimp only
  refine j_swap ?_
  refine j_aload_n (C.kW _) dL_law_264 rfl rfl ?_
  refine j_arg (C.kW _) (hs.kW _) (k := 1) dL_law_265 dL_law_266 dL_law_267 dL_law_268 dL_law_269 rfl (by omega) rfl rfl ?_
  refine j_arg (C.kW _) (hs.kW _) (k := 2) dL_law_270 dL_law_271 dL_law_272 dL_law_273 dL_law_274 rfl (by omega) rfl rfl ?_
  obtain ⟨R1, S1, f1, q2⟩ := Y_told hS.1 hy.2.2.2.1 hy.2.1 (xs (i + 1)) (xs (i + 2))
  refine j_known f1 (j_callV_iw (st := [.int (tld (uX σ (aU (uA σ))) (uA σ) (xs (i + 1)) (xs (i + 2)))]) (C.kW _) dL_law_275 (ct_X6_told _ Em Mm Lm (xs (i + 1)) (xs (i + 2)) hy.1) mi_X6_told tw_1197 FC6 hy.1.S rfl rfl (Nat.le_of_ble_eq_true rfl) ⟨⟨rfl, rfl⟩, ⟨Nat.le_of_ble_eq_true rfl, Nat.le_of_ble_eq_true rfl⟩, hc0⟩ (fun v => j_at (fun hv => ?_)))
  subst hv
  dsimp only
  refine j_swap ?_
  refine j_take (c := tld (uX σ (aU (uA σ))) (uA σ) (xs (i + 1)) (xs (i + 2)) = tld (uX σ (aU (uA σ))) (uA σ) (xs (i + 1)) (xs (i + 2))) rfl (j_icmp_eq (tgt := 1166) (C.kW _) dL_law_278 (by decide) ?_ jf_none)
  refine j_widen (cn' := cn + 2) (sn' := sn + 163) (by omega) (by omega) ?_
  exact kk _ _ _ _ _ _ σ (⟨hx.1, (hx.2.1.keep (fun k hk _ => q1 k hk) (fun _ _ => rfl)), hx.2.2⟩) (⟨hy.1, (hy.2.rh q2)⟩) (hS) rfl rfl
set_option maxRecDepth 100000 in
set_option maxHeartbeats 4000000 in
theorem lc_leap (h : LQ κ b N i cn sn xs Ex Em Mx Mm Lx Lm σ) (kk : LD κ P b i cn sn Ex Em) : JX κ P 283 b i Ex Mx Lx Em Mm Lm cn sn := by
  obtain ⟨C, hs, hi, hx, hy, hS, hc⟩ := h
  have hc0 : cn + 0 ≤ room_1.cells ∧ sn + 0 ≤ room_1.slots := ⟨by have := hc.1; omega, by have := hc.2; omega⟩
  have hm : aM (uA σ) < 2 ^ 30 := by have := hS.2.1; omega
  refine j_aload_n (C.kW _) dL_law_283 rfl rfl ?_
  refine j_arg (C.kW _) (hs.kW _) (k := 1) dL_law_284 dL_law_285 dL_law_286 dL_law_287 dL_law_288 rfl (by omega) rfl rfl ?_
  refine j_arg (C.kW _) (hs.kW _) (k := 2) dL_law_289 dL_law_290 dL_law_291 dL_law_292 dL_law_293 rfl (by omega) rfl rfl ?_
  refine j_known (X_leap hS.1 hx.2.1.1 (xs (i + 1)) (xs (i + 2))) (j_callV_i (st := []) (C.kW _) dL_law_294 (ct_X5_leap _ Ex Mx Lx (xs (i + 1)) (xs (i + 2)) hx.1) mi_X5_leap tw_570 FC5 hx.1.S rfl rfl (Nat.le_of_ble_eq_true rfl) ⟨⟨rfl, rfl⟩, ⟨Nat.le_of_ble_eq_true rfl, Nat.le_of_ble_eq_true rfl⟩, hc0⟩ (fun v => j_at (fun hv => ?_)))
  subst hv
  refine j_swap ?_
  refine j_aload_n (C.kW _) dL_law_297 rfl rfl ?_
  refine j_arg (C.kW _) (hs.kW _) (k := 1) dL_law_298 dL_law_299 dL_law_300 dL_law_301 dL_law_302 rfl (by omega) rfl rfl ?_
  refine j_arg (C.kW _) (hs.kW _) (k := 2) dL_law_303 dL_law_304 dL_law_305 dL_law_306 dL_law_307 rfl (by omega) rfl rfl ?_
  refine j_known (Y_leap hS.1 hm hy.2.1 (xs (i + 1)) (xs (i + 2))) (j_callV_i (st := [.int (s_leap (uA σ) (xs (i + 1)) (xs (i + 2)))]) (C.kW _) dL_law_308 (ct_X6_leap _ Em Mm Lm (xs (i + 1)) (xs (i + 2)) hy.1) mi_X6_leap tw_1221 FC6 hy.1.S rfl rfl (Nat.le_of_ble_eq_true rfl) ⟨⟨rfl, rfl⟩, ⟨Nat.le_of_ble_eq_true rfl, Nat.le_of_ble_eq_true rfl⟩, hc0⟩ (fun v => j_at (fun hv => ?_)))
  subst hv
  refine j_swap ?_
  refine j_take (c := s_leap (uA σ) (xs (i + 1)) (xs (i + 2)) = s_leap (uA σ) (xs (i + 1)) (xs (i + 2))) rfl (j_icmp_eq (tgt := 1166) (C.kW _) dL_law_311 (by decide) ?_ jf_none)
  refine j_widen (cn' := cn + 2) (sn' := sn + 163) (by omega) (by omega) ?_
  exact kk _ _ _ _ _ _ σ (hx) (hy) (hS) rfl rfl
set_option maxRecDepth 100000 in
set_option maxHeartbeats 4000000 in
theorem lc_floor (h : LQ κ b N i cn sn xs Ex Em Mx Mm Lx Lm σ) (kk : LD κ P b i cn sn Ex Em) : JX κ P 316 b i Ex Mx Lx Em Mm Lm cn sn := by
  obtain ⟨C, hs, hi, hx, hy, hS, hc⟩ := h
  have hc0 : cn + 0 ≤ room_1.cells ∧ sn + 0 ≤ room_1.slots := ⟨by have := hc.1; omega, by have := hc.2; omega⟩
  have hm : aM (uA σ) < 2 ^ 30 := by have := hS.2.1; omega
  refine j_aload_n (C.kW _) dL_law_316 rfl rfl ?_
  refine j_arg (C.kW _) (hs.kW _) (k := 1) dL_law_317 dL_law_318 dL_law_319 dL_law_320 dL_law_321 rfl (by omega) rfl rfl ?_
  refine j_known (X_floor hS.1 hx.2.1.1 (xs (i + 1))) (j_callV_l (st := []) (C.kW _) dL_law_322 (ct_X5_floor _ Ex Mx Lx (xs (i + 1)) hx.1) mi_X5_floor tw_596 FC5 hx.1.S rfl rfl (Nat.le_of_ble_eq_true rfl) ⟨⟨rfl, rfl⟩, ⟨Nat.le_of_ble_eq_true rfl, Nat.le_of_ble_eq_true rfl⟩, hc0⟩ (fun v => j_at (fun hv => ?_)))
  subst hv
  refine j_swap ?_
  refine j_aload_n (C.kW _) dL_law_325 rfl rfl ?_
  refine j_arg (C.kW _) (hs.kW _) (k := 1) dL_law_326 dL_law_327 dL_law_328 dL_law_329 dL_law_330 rfl (by omega) rfl rfl ?_
  refine j_known (Y_floor hS.1 hy.2.1 (xs (i + 1))) (j_callV_l (st := [.long (s_floor (uA σ) (xs (i + 1)))]) (C.kW _) dL_law_331 (ct_X6_floor _ Em Mm Lm (xs (i + 1)) hy.1) mi_X6_floor tw_1198 FC6 hy.1.S rfl rfl (Nat.le_of_ble_eq_true rfl) ⟨⟨rfl, rfl⟩, ⟨Nat.le_of_ble_eq_true rfl, Nat.le_of_ble_eq_true rfl⟩, hc0⟩ (fun v => j_at (fun hv => ?_)))
  subst hv
  refine j_swap ?_
  refine j_lcmp (C.kW _) dL_law_334 ?_
  rw [lg_cmp_self]
  refine j_take (c := (0 : Int32) = 0) rfl (j_if_eq (tgt := 1166) (C.kW _) dL_law_335 (by decide) ?_ jf_none)
  refine j_widen (cn' := cn + 2) (sn' := sn + 163) (by omega) (by omega) ?_
  exact kk _ _ _ _ _ _ σ (hx) (hy) (hS) rfl rfl
set_option maxRecDepth 100000 in
set_option maxHeartbeats 4000000 in
theorem lc_feed (h : LQ κ b N i cn sn xs Ex Em Mx Mm Lx Lm σ) (kk : LD κ P b i cn sn Ex Em) : JX κ P 340 b i Ex Mx Lx Em Mm Lm cn sn := by
  obtain ⟨C, hs, hi, hx, hy, hS, hc⟩ := h
  have hc0 : cn + 0 ≤ room_1.cells ∧ sn + 0 ≤ room_1.slots := ⟨by have := hc.1; omega, by have := hc.2; omega⟩
  refine j_aload_n (C.kW _) dL_law_340 rfl rfl ?_
  refine j_arg (C.kW _) (hs.kW _) (k := 1) dL_law_341 dL_law_342 dL_law_343 dL_law_344 dL_law_345 rfl (by omega) rfl rfl ?_
  obtain ⟨M1, e1, g1⟩ := X_feed hS hx.2.1 (xs (i + 1))
  refine j_known e1 (j_callV_iw (st := []) (C.kW _) dL_law_346 (ct_X5_feed _ Ex Mx Lx (xs (i + 1)) hx.1) mi_X5_feed tw_605 FC5 hx.1.S rfl rfl (Nat.le_of_ble_eq_true rfl) ⟨⟨rfl, rfl⟩, ⟨Nat.le_of_ble_eq_true rfl, Nat.le_of_ble_eq_true rfl⟩, hc0⟩ (fun v => j_at (fun hv => ?_)))
  subst hv
  dsimp only
  refine j_swap ?_
  refine j_aload_n (C.kW _) dL_law_349 rfl rfl ?_
  refine j_arg (C.kW _) (hs.kW _) (k := 1) dL_law_350 dL_law_351 dL_law_352 dL_law_353 dL_law_354 rfl (by omega) rfl rfl ?_
  obtain ⟨R1, f1, g2⟩ := Y_feed hS hy.2 (xs (i + 1))
  refine j_known f1 (j_callV_iw (st := [.int ((s_feed σ (xs (i + 1))).1)]) (C.kW _) dL_law_355 (ct_X6_feed _ Em Mm Lm (xs (i + 1)) hy.1) mi_X6_feed tw_1208 FC6 hy.1.S rfl rfl (Nat.le_of_ble_eq_true rfl) ⟨⟨rfl, rfl⟩, ⟨Nat.le_of_ble_eq_true rfl, Nat.le_of_ble_eq_true rfl⟩, hc0⟩ (fun v => j_at (fun hv => ?_)))
  subst hv
  dsimp only
  refine j_swap ?_
  refine j_take (c := (s_feed σ (xs (i + 1))).1 = (s_feed σ (xs (i + 1))).1) rfl (j_icmp_eq (tgt := 1166) (C.kW _) dL_law_358 (by decide) ?_ jf_none)
  refine j_widen (cn' := cn + 2) (sn' := sn + 163) (by omega) (by omega) ?_
  exact kk _ _ _ _ _ _ (s_feed σ (xs (i + 1))).2 (⟨hx.1, g1, hx.2.2⟩) (⟨hy.1, g2⟩) ((Ws_feed hS (xs (i + 1)))) rfl rfl
set_option maxRecDepth 100000 in
set_option maxHeartbeats 4000000 in
theorem lc_text (h : LQ κ b N i cn sn xs Ex Em Mx Mm Lx Lm σ) (kk : LD κ P b i cn sn Ex Em) : JX κ P 363 b i Ex Mx Lx Em Mm Lm cn sn := by
  obtain ⟨C, hs, hi, hx, hy, hS, hc⟩ := h
  have hc0 : cn + 0 ≤ room_1.cells ∧ sn + 0 ≤ room_1.slots := ⟨by have := hc.1; omega, by have := hc.2; omega⟩
  refine j_aload_n (C.kW _) dL_law_363 rfl rfl ?_
  have h36 := hx.1.len
  refine j_cut (M' := fun k => if k < Ex.1.length then Mx k else fun _ => 0) (L' := fun k => if k < Ex.1.length then Lx k else fun _ => 0) (fun k hk => if_pos hk) (fun k hk => if_pos hk) ?_
  refine j_callV_ix (st := []) (C.kW _) dL_law_364 (ct_X5_text _ Ex _ _ σ Ex.1.length ⟨hx.1, hx.2.1.cutn hx.1 rfl (fun k hk => if_pos hk) (fun k hk => if_pos hk), hx.2.2⟩ hS rfl (fun k hk => ⟨if_neg (Nat.not_lt.mpr hk), if_neg (Nat.not_lt.mpr hk)⟩)) mi_X5_text tw_609 FC5 hx.1.S rfl rfl (Nat.le_of_ble_eq_true rfl) ⟨⟨rfl, rfl⟩, ⟨Nat.le_of_ble_eq_true rfl, Nat.le_of_ble_eq_true rfl⟩, hc⟩ (fun E1 M1 L1 hP => ?_)
  obtain ⟨hP, ha⟩ := hP
  rw [← ha]
  have hc0 : cn + 2 + 0 ≤ room_1.cells ∧ sn + 163 + 0 ≤ room_1.slots := ⟨by have := hc.1; omega, by have := hc.2; omega⟩
  refine j_swap ?_
  refine j_aload_n (C.kW _) dL_law_367 rfl rfl ?_
  obtain ⟨R1, S1, f1, g2⟩ := Y_text hS hy.2
  refine j_known f1 (j_callV_iw (st := [.int ((s_text σ).1)]) (C.kW _) dL_law_368 (ct_X6_text _ Em Mm Lm  hy.1) mi_X6_text tw_1213 FC6 hy.1.S rfl rfl (Nat.le_of_ble_eq_true rfl) ⟨⟨rfl, rfl⟩, ⟨Nat.le_of_ble_eq_true rfl, Nat.le_of_ble_eq_true rfl⟩, hc0⟩ (fun v => j_at (fun hv => ?_)))
  subst hv
  dsimp only
  refine j_swap ?_
  refine j_take (c := (s_text σ).1 = (s_text σ).1) rfl (j_icmp_eq (tgt := 1166) (C.kW _) dL_law_371 (by decide) ?_ jf_none)
  exact kk _ _ _ _ _ _ (s_text σ).2 (hP) (⟨hy.1, g2⟩) ((Ws_text hS)) ha rfl
set_option maxRecDepth 100000 in
set_option maxHeartbeats 4000000 in
theorem lc_force (h : LQ κ b N i cn sn xs Ex Em Mx Mm Lx Lm σ) (kk : LD κ P b i cn sn Ex Em) : JX κ P 376 b i Ex Mx Lx Em Mm Lm cn sn := by
  obtain ⟨C, hs, hi, hx, hy, hS, hc⟩ := h
  have hc0 : cn + 0 ≤ room_1.cells ∧ sn + 0 ≤ room_1.slots := ⟨by have := hc.1; omega, by have := hc.2; omega⟩
  refine j_aload_n (C.kW _) dL_law_376 rfl rfl ?_
  refine j_arg (C.kW _) (hs.kW _) (k := 1) dL_law_377 dL_law_378 dL_law_379 dL_law_380 dL_law_381 rfl (by omega) rfl rfl ?_
  obtain ⟨M1, e1, g1⟩ := X_force hx.2.1 (xs (i + 1))
  refine j_known e1 (j_callV_iw (st := []) (C.kW _) dL_law_382 (ct_X5_force _ Ex Mx Lx (xs (i + 1)) hx.1) mi_X5_force tw_613 FC5 hx.1.S rfl rfl (Nat.le_of_ble_eq_true rfl) ⟨⟨rfl, rfl⟩, ⟨Nat.le_of_ble_eq_true rfl, Nat.le_of_ble_eq_true rfl⟩, hc0⟩ (fun v => j_at (fun hv => ?_)))
  subst hv
  dsimp only
  refine j_swap ?_
  refine j_aload_n (C.kW _) dL_law_385 rfl rfl ?_
  refine j_arg (C.kW _) (hs.kW _) (k := 1) dL_law_386 dL_law_387 dL_law_388 dL_law_389 dL_law_390 rfl (by omega) rfl rfl ?_
  obtain ⟨R1, f1, g2⟩ := Y_force hy.2 (xs (i + 1))
  refine j_known f1 (j_callV_iw (st := [.int ((s_force (uT σ) (uA σ) (xs (i + 1))).1)]) (C.kW _) dL_law_391 (ct_X6_force _ Em Mm Lm (xs (i + 1)) hy.1) mi_X6_force tw_1217 FC6 hy.1.S rfl rfl (Nat.le_of_ble_eq_true rfl) ⟨⟨rfl, rfl⟩, ⟨Nat.le_of_ble_eq_true rfl, Nat.le_of_ble_eq_true rfl⟩, hc0⟩ (fun v => j_at (fun hv => ?_)))
  subst hv
  dsimp only
  refine j_swap ?_
  refine j_take (c := (s_force (uT σ) (uA σ) (xs (i + 1))).1 = (s_force (uT σ) (uA σ) (xs (i + 1))).1) rfl (j_icmp_eq (tgt := 1166) (C.kW _) dL_law_394 (by decide) ?_ jf_none)
  refine j_widen (cn' := cn + 2) (sn' := sn + 163) (by omega) (by omega) ?_
  exact kk _ _ _ _ _ _ ((s_force (uT σ) (uA σ) (xs (i + 1))).2, σ.2) (⟨hx.1, g1, hx.2.2⟩) (⟨hy.1, g2⟩) (⟨(Ws_force hS.1 hx.2.1.2.2.1.2.1 (xs (i + 1))).1, by show aM (s_force (uT σ) (uA σ) (xs (i + 1))).2 ≤ 999; rw [(Ws_force hS.1 hx.2.1.2.2.1.2.1 (xs (i + 1))).2]; exact hS.2.1, hS.2.2⟩) rfl rfl
set_option maxRecDepth 100000 in
set_option maxHeartbeats 4000000 in
theorem lc_minute (h : LQ κ b N i cn sn xs Ex Em Mx Mm Lx Lm σ) (kk : LD κ P b i cn sn Ex Em) : JX κ P 399 b i Ex Mx Lx Em Mm Lm cn sn := by
  obtain ⟨C, hs, hi, hx, hy, hS, hc⟩ := h
  have hc0 : cn + 0 ≤ room_1.cells ∧ sn + 0 ≤ room_1.slots := ⟨by have := hc.1; omega, by have := hc.2; omega⟩
  refine j_aload_n (C.kW _) dL_law_399 rfl rfl ?_
  obtain ⟨M1, e1, g1⟩ := X_minute hS hx.2.1
  refine j_known e1 (j_callV_iw (st := []) (C.kW _) dL_law_400 (ct_X5_minute _ Ex Mx Lx  hx.1) mi_X5_minute tw_621 FC5 hx.1.S rfl rfl (Nat.le_of_ble_eq_true rfl) ⟨⟨rfl, rfl⟩, ⟨Nat.le_of_ble_eq_true rfl, Nat.le_of_ble_eq_true rfl⟩, hc0⟩ (fun v => j_at (fun hv => ?_)))
  subst hv
  dsimp only
  refine j_swap ?_
  refine j_aload_n (C.kW _) dL_law_403 rfl rfl ?_
  obtain ⟨R1, S1, f1, g2⟩ := Y_minute hS hy.2
  refine j_known f1 (j_callV_iw (st := [.int ((s_minute (uX σ (aU (uA σ))) (uA σ)).1)]) (C.kW _) dL_law_404 (ct_X6_minute _ Em Mm Lm  hy.1) mi_X6_minute tw_1236 FC6 hy.1.S rfl rfl (Nat.le_of_ble_eq_true rfl) ⟨⟨rfl, rfl⟩, ⟨Nat.le_of_ble_eq_true rfl, Nat.le_of_ble_eq_true rfl⟩, hc0⟩ (fun v => j_at (fun hv => ?_)))
  subst hv
  dsimp only
  refine j_swap ?_
  refine j_take (c := (s_minute (uX σ (aU (uA σ))) (uA σ)).1 = (s_minute (uX σ (aU (uA σ))) (uA σ)).1) rfl (j_icmp_eq (tgt := 1166) (C.kW _) dL_law_407 (by decide) ?_ jf_none)
  refine j_widen (cn' := cn + 2) (sn' := sn + 163) (by omega) (by omega) ?_
  exact kk _ _ _ _ _ _ ((s_minute (uX σ (aU (uA σ))) (uA σ)).2, σ.2) (⟨hx.1, g1, hx.2.2⟩) (⟨hy.1, g2⟩) (⟨(Ws_minute hS.1 hS.2.1).1, (Ws_minute hS.1 hS.2.1).2, hS.2.2⟩) rfl rfl
set_option maxRecDepth 100000 in
set_option maxHeartbeats 4000000 in
theorem lc_run (h : LQ κ b N i cn sn xs Ex Em Mx Mm Lx Lm σ) (kk : LD κ P b i cn sn Ex Em) : JX κ P 412 b i Ex Mx Lx Em Mm Lm cn sn := by
  obtain ⟨C, hs, hi, hx, hy, hS, hc⟩ := h
  have hc0 : cn + 0 ≤ room_1.cells ∧ sn + 0 ≤ room_1.slots := ⟨by have := hc.1; omega, by have := hc.2; omega⟩
  refine j_aload_n (C.kW _) dL_law_412 rfl rfl ?_
  refine j_arg (C.kW _) (hs.kW _) (k := 1) dL_law_413 dL_law_414 dL_law_415 dL_law_416 dL_law_417 rfl (by omega) rfl rfl ?_
  refine j_arg (C.kW _) (hs.kW _) (k := 2) dL_law_418 dL_law_419 dL_law_420 dL_law_421 dL_law_422 rfl (by omega) rfl rfl ?_
  refine j_arg (C.kW _) (hs.kW _) (k := 3) dL_law_423 dL_law_424 dL_law_425 dL_law_426 dL_law_427 rfl (by omega) rfl rfl ?_
  obtain ⟨M1, L1, e1, g1⟩ := X_run hS hx.2.1 (xs (i + 1)) (xs (i + 2)) (xs (i + 3))
  refine j_known e1 (j_callV_iw (st := []) (C.kW _) dL_law_428 (ct_X5_run _ Ex Mx Lx (xs (i + 1)) (xs (i + 2)) (xs (i + 3)) hx.1) mi_X5_run tw_639 FC5 hx.1.S rfl rfl (Nat.le_of_ble_eq_true rfl) ⟨⟨rfl, rfl⟩, ⟨Nat.le_of_ble_eq_true rfl, Nat.le_of_ble_eq_true rfl⟩, hc0⟩ (fun v => j_at (fun hv => ?_)))
  subst hv
  dsimp only
  refine j_swap ?_
  refine j_aload_n (C.kW _) dL_law_431 rfl rfl ?_
  refine j_arg (C.kW _) (hs.kW _) (k := 1) dL_law_432 dL_law_433 dL_law_434 dL_law_435 dL_law_436 rfl (by omega) rfl rfl ?_
  refine j_arg (C.kW _) (hs.kW _) (k := 2) dL_law_437 dL_law_438 dL_law_439 dL_law_440 dL_law_441 rfl (by omega) rfl rfl ?_
  refine j_arg (C.kW _) (hs.kW _) (k := 3) dL_law_442 dL_law_443 dL_law_444 dL_law_445 dL_law_446 rfl (by omega) rfl rfl ?_
  obtain ⟨R1, S1, f1, g2⟩ := Y_run hS hy.2 (xs (i + 1)) (xs (i + 2)) (xs (i + 3))
  refine j_known f1 (j_callV_iw (st := [.int (s_run (uX σ (aU (uA σ))) (uA σ) (xs (i + 1)) (xs (i + 2)) (xs (i + 3)))]) (C.kW _) dL_law_447 (ct_X6_run _ Em Mm Lm (xs (i + 1)) (xs (i + 2)) (xs (i + 3)) hy.1) mi_X6_run tw_1244 FC6 hy.1.S rfl rfl (Nat.le_of_ble_eq_true rfl) ⟨⟨rfl, rfl⟩, ⟨Nat.le_of_ble_eq_true rfl, Nat.le_of_ble_eq_true rfl⟩, hc0⟩ (fun v => j_at (fun hv => ?_)))
  subst hv
  dsimp only
  refine j_swap ?_
  refine j_take (c := s_run (uX σ (aU (uA σ))) (uA σ) (xs (i + 1)) (xs (i + 2)) (xs (i + 3)) = s_run (uX σ (aU (uA σ))) (uA σ) (xs (i + 1)) (xs (i + 2)) (xs (i + 3))) rfl (j_icmp_eq (tgt := 1166) (C.kW _) dL_law_450 (by decide) ?_ jf_none)
  refine j_widen (cn' := cn + 2) (sn' := sn + 163) (by omega) (by omega) ?_
  exact kk _ _ _ _ _ _ σ (⟨hx.1, g1, hx.2.2⟩) (⟨hy.1, g2⟩) (hS) rfl rfl
set_option maxRecDepth 100000 in
set_option maxHeartbeats 4000000 in
theorem lc_call (h : LQ κ b N i cn sn xs Ex Em Mx Mm Lx Lm σ) (kk : LD κ P b i cn sn Ex Em) : JX κ P 455 b i Ex Mx Lx Em Mm Lm cn sn := by
  obtain ⟨C, hs, hi, hx, hy, hS, hc⟩ := h
  have hc0 : cn + 0 ≤ room_1.cells ∧ sn + 0 ≤ room_1.slots := ⟨by have := hc.1; omega, by have := hc.2; omega⟩
  refine j_aload_n (C.kW _) dL_law_455 rfl rfl ?_
  refine j_arg (C.kW _) (hs.kW _) (k := 1) dL_law_456 dL_law_457 dL_law_458 dL_law_459 dL_law_460 rfl (by omega) rfl rfl ?_
  refine j_arg (C.kW _) (hs.kW _) (k := 2) dL_law_461 dL_law_462 dL_law_463 dL_law_464 dL_law_465 rfl (by omega) rfl rfl ?_
  refine j_arg (C.kW _) (hs.kW _) (k := 3) dL_law_466 dL_law_467 dL_law_468 dL_law_469 dL_law_470 rfl (by omega) rfl rfl ?_
  obtain ⟨M1, L1, e1, g1⟩ := X_call hS hx.2.1 (xs (i + 1)) (xs (i + 2)) (xs (i + 3))
  refine j_known e1 (j_callV_iw (st := []) (C.kW _) dL_law_471 (ct_X5_call _ Ex Mx Lx (xs (i + 1)) (xs (i + 2)) (xs (i + 3)) hx.1) mi_X5_call tw_653 FC5 hx.1.S rfl rfl (Nat.le_of_ble_eq_true rfl) ⟨⟨rfl, rfl⟩, ⟨Nat.le_of_ble_eq_true rfl, Nat.le_of_ble_eq_true rfl⟩, hc0⟩ (fun v => j_at (fun hv => ?_)))
  subst hv
  dsimp only
  refine j_swap ?_
  refine j_aload_n (C.kW _) dL_law_474 rfl rfl ?_
  refine j_arg (C.kW _) (hs.kW _) (k := 1) dL_law_475 dL_law_476 dL_law_477 dL_law_478 dL_law_479 rfl (by omega) rfl rfl ?_
  refine j_arg (C.kW _) (hs.kW _) (k := 2) dL_law_480 dL_law_481 dL_law_482 dL_law_483 dL_law_484 rfl (by omega) rfl rfl ?_
  refine j_arg (C.kW _) (hs.kW _) (k := 3) dL_law_485 dL_law_486 dL_law_487 dL_law_488 dL_law_489 rfl (by omega) rfl rfl ?_
  obtain ⟨R1, S1, f1, g2⟩ := Y_call hS hy.2 (xs (i + 1)) (xs (i + 2)) (xs (i + 3))
  refine j_known f1 (j_callV_iw (st := [.int (s_call (uX σ (aU (uA σ))) (uA σ) (xs (i + 1)) (xs (i + 2)) (xs (i + 3)))]) (C.kW _) dL_law_490 (ct_X6_call _ Em Mm Lm (xs (i + 1)) (xs (i + 2)) (xs (i + 3)) hy.1) mi_X6_call tw_1266 FC6 hy.1.S rfl rfl (Nat.le_of_ble_eq_true rfl) ⟨⟨rfl, rfl⟩, ⟨Nat.le_of_ble_eq_true rfl, Nat.le_of_ble_eq_true rfl⟩, hc0⟩ (fun v => j_at (fun hv => ?_)))
  subst hv
  dsimp only
  refine j_swap ?_
  refine j_take (c := s_call (uX σ (aU (uA σ))) (uA σ) (xs (i + 1)) (xs (i + 2)) (xs (i + 3)) = s_call (uX σ (aU (uA σ))) (uA σ) (xs (i + 1)) (xs (i + 2)) (xs (i + 3))) rfl (j_icmp_eq (tgt := 1166) (C.kW _) dL_law_493 (by decide) ?_ jf_none)
  refine j_widen (cn' := cn + 2) (sn' := sn + 163) (by omega) (by omega) ?_
  exact kk _ _ _ _ _ _ σ (⟨hx.1, g1, hx.2.2⟩) (⟨hy.1, g2⟩) (hS) rfl rfl
set_option maxRecDepth 100000 in
set_option maxHeartbeats 4000000 in
theorem lc_meet (h : LQ κ b N i cn sn xs Ex Em Mx Mm Lx Lm σ) (kk : LD κ P b i cn sn Ex Em) : JX κ P 498 b i Ex Mx Lx Em Mm Lm cn sn := by
  obtain ⟨C, hs, hi, hx, hy, hS, hc⟩ := h
  have hc0 : cn + 0 ≤ room_1.cells ∧ sn + 0 ≤ room_1.slots := ⟨by have := hc.1; omega, by have := hc.2; omega⟩
  refine j_aload_n (C.kW _) dL_law_498 rfl rfl ?_
  refine j_arg (C.kW _) (hs.kW _) (k := 1) dL_law_499 dL_law_500 dL_law_501 dL_law_502 dL_law_503 rfl (by omega) rfl rfl ?_
  refine j_arg (C.kW _) (hs.kW _) (k := 2) dL_law_504 dL_law_505 dL_law_506 dL_law_507 dL_law_508 rfl (by omega) rfl rfl ?_
  obtain ⟨M1, L1, e1, g1⟩ := X_meet hS hx.2.1 (xs (i + 1)) (xs (i + 2))
  refine j_known e1 (j_callV_iw (st := []) (C.kW _) dL_law_509 (ct_X5_meet _ Ex Mx Lx (xs (i + 1)) (xs (i + 2)) hx.1) mi_X5_meet tw_657 FC5 hx.1.S rfl rfl (Nat.le_of_ble_eq_true rfl) ⟨⟨rfl, rfl⟩, ⟨Nat.le_of_ble_eq_true rfl, Nat.le_of_ble_eq_true rfl⟩, hc0⟩ (fun v => j_at (fun hv => ?_)))
  subst hv
  dsimp only
  refine j_swap ?_
  refine j_aload_n (C.kW _) dL_law_512 rfl rfl ?_
  refine j_arg (C.kW _) (hs.kW _) (k := 1) dL_law_513 dL_law_514 dL_law_515 dL_law_516 dL_law_517 rfl (by omega) rfl rfl ?_
  refine j_arg (C.kW _) (hs.kW _) (k := 2) dL_law_518 dL_law_519 dL_law_520 dL_law_521 dL_law_522 rfl (by omega) rfl rfl ?_
  obtain ⟨R1, S1, f1, g2⟩ := Y_meet hS hy.2 (xs (i + 1)) (xs (i + 2))
  refine j_known f1 (j_callV_iw (st := [.int (s_meet (uX σ (aU (uA σ))) (uA σ) (xs (i + 1)) (xs (i + 2)))]) (C.kW _) dL_law_523 (ct_X6_meet _ Em Mm Lm (xs (i + 1)) (xs (i + 2)) hy.1) mi_X6_meet tw_1274 FC6 hy.1.S rfl rfl (Nat.le_of_ble_eq_true rfl) ⟨⟨rfl, rfl⟩, ⟨Nat.le_of_ble_eq_true rfl, Nat.le_of_ble_eq_true rfl⟩, hc0⟩ (fun v => j_at (fun hv => ?_)))
  subst hv
  dsimp only
  refine j_swap ?_
  refine j_take (c := s_meet (uX σ (aU (uA σ))) (uA σ) (xs (i + 1)) (xs (i + 2)) = s_meet (uX σ (aU (uA σ))) (uA σ) (xs (i + 1)) (xs (i + 2))) rfl (j_icmp_eq (tgt := 1166) (C.kW _) dL_law_526 (by decide) ?_ jf_none)
  refine j_widen (cn' := cn + 2) (sn' := sn + 163) (by omega) (by omega) ?_
  exact kk _ _ _ _ _ _ σ (⟨hx.1, g1, hx.2.2⟩) (⟨hy.1, g2⟩) (hS) rfl rfl
set_option maxRecDepth 100000 in
set_option maxHeartbeats 4000000 in
theorem lc_reached (h : LQ κ b N i cn sn xs Ex Em Mx Mm Lx Lm σ) (kk : LD κ P b i cn sn Ex Em) : JX κ P 531 b i Ex Mx Lx Em Mm Lm cn sn := by
  obtain ⟨C, hs, hi, hx, hy, hS, hc⟩ := h
  have hc0 : cn + 0 ≤ room_1.cells ∧ sn + 0 ≤ room_1.slots := ⟨by have := hc.1; omega, by have := hc.2; omega⟩
  have hm : aM (uA σ) < 2 ^ 30 := by have := hS.2.1; omega
  refine j_aload_n (C.kW _) dL_law_531 rfl rfl ?_
  refine j_arg (C.kW _) (hs.kW _) (k := 1) dL_law_532 dL_law_533 dL_law_534 dL_law_535 dL_law_536 rfl (by omega) rfl rfl ?_
  refine j_arg (C.kW _) (hs.kW _) (k := 2) dL_law_537 dL_law_538 dL_law_539 dL_law_540 dL_law_541 rfl (by omega) rfl rfl ?_
  refine j_known (X_reached hS.1 hx.2.1.1 (xs (i + 1)) (xs (i + 2))) (j_callV_l (st := []) (C.kW _) dL_law_542 (ct_X5_reached _ Ex Mx Lx (xs (i + 1)) (xs (i + 2)) hx.1) mi_X5_reached tw_661 FC5 hx.1.S rfl rfl (Nat.le_of_ble_eq_true rfl) ⟨⟨rfl, rfl⟩, ⟨Nat.le_of_ble_eq_true rfl, Nat.le_of_ble_eq_true rfl⟩, hc0⟩ (fun v => j_at (fun hv => ?_)))
  subst hv
  refine j_swap ?_
  refine j_aload_n (C.kW _) dL_law_545 rfl rfl ?_
  refine j_arg (C.kW _) (hs.kW _) (k := 1) dL_law_546 dL_law_547 dL_law_548 dL_law_549 dL_law_550 rfl (by omega) rfl rfl ?_
  refine j_arg (C.kW _) (hs.kW _) (k := 2) dL_law_551 dL_law_552 dL_law_553 dL_law_554 dL_law_555 rfl (by omega) rfl rfl ?_
  refine j_known (Y_reached hS.1 hm hy.2.1 (xs (i + 1)) (xs (i + 2))) (j_callV_l (st := [.long (s_reached (uA σ) (xs (i + 1)) (xs (i + 2)))]) (C.kW _) dL_law_556 (ct_X6_reached _ Em Mm Lm (xs (i + 1)) (xs (i + 2)) hy.1) mi_X6_reached tw_1282 FC6 hy.1.S rfl rfl (Nat.le_of_ble_eq_true rfl) ⟨⟨rfl, rfl⟩, ⟨Nat.le_of_ble_eq_true rfl, Nat.le_of_ble_eq_true rfl⟩, hc0⟩ (fun v => j_at (fun hv => ?_)))
  subst hv
  refine j_swap ?_
  refine j_lcmp (C.kW _) dL_law_559 ?_
  rw [lg_cmp_self]
  refine j_take (c := (0 : Int32) = 0) rfl (j_if_eq (tgt := 1166) (C.kW _) dL_law_560 (by decide) ?_ jf_none)
  refine j_widen (cn' := cn + 2) (sn' := sn + 163) (by omega) (by omega) ?_
  exact kk _ _ _ _ _ _ σ (hx) (hy) (hS) rfl rfl
set_option maxRecDepth 100000 in
set_option maxHeartbeats 4000000 in
theorem lc_fewest (h : LQ κ b N i cn sn xs Ex Em Mx Mm Lx Lm σ) (kk : LD κ P b i cn sn Ex Em) : JX κ P 565 b i Ex Mx Lx Em Mm Lm cn sn := by
  obtain ⟨C, hs, hi, hx, hy, hS, hc⟩ := h
  have hc0 : cn + 0 ≤ room_1.cells ∧ sn + 0 ≤ room_1.slots := ⟨by have := hc.1; omega, by have := hc.2; omega⟩
  have hm : aM (uA σ) < 2 ^ 30 := by have := hS.2.1; omega
  refine j_aload_n (C.kW _) dL_law_565 rfl rfl ?_
  refine j_arg (C.kW _) (hs.kW _) (k := 1) dL_law_566 dL_law_567 dL_law_568 dL_law_569 dL_law_570 rfl (by omega) rfl rfl ?_
  refine j_arg (C.kW _) (hs.kW _) (k := 2) dL_law_571 dL_law_572 dL_law_573 dL_law_574 dL_law_575 rfl (by omega) rfl rfl ?_
  refine j_known (X_fewest hS.1 hx.2.1.1 (xs (i + 1)) (xs (i + 2))) (j_callV_i (st := []) (C.kW _) dL_law_576 (ct_X5_fewest _ Ex Mx Lx (xs (i + 1)) (xs (i + 2)) hx.1) mi_X5_fewest tw_670 FC5 hx.1.S rfl rfl (Nat.le_of_ble_eq_true rfl) ⟨⟨rfl, rfl⟩, ⟨Nat.le_of_ble_eq_true rfl, Nat.le_of_ble_eq_true rfl⟩, hc0⟩ (fun v => j_at (fun hv => ?_)))
  subst hv
  refine j_swap ?_
  refine j_aload_n (C.kW _) dL_law_579 rfl rfl ?_
  refine j_arg (C.kW _) (hs.kW _) (k := 1) dL_law_580 dL_law_581 dL_law_582 dL_law_583 dL_law_584 rfl (by omega) rfl rfl ?_
  refine j_arg (C.kW _) (hs.kW _) (k := 2) dL_law_585 dL_law_586 dL_law_587 dL_law_588 dL_law_589 rfl (by omega) rfl rfl ?_
  refine j_known (Y_fewest hS.1 hm hy.2.1 (xs (i + 1)) (xs (i + 2))) (j_callV_i (st := [.int (s_fewest (uA σ) (xs (i + 1)) (xs (i + 2)))]) (C.kW _) dL_law_590 (ct_X6_fewest _ Em Mm Lm (xs (i + 1)) (xs (i + 2)) hy.1) mi_X6_fewest tw_1290 FC6 hy.1.S rfl rfl (Nat.le_of_ble_eq_true rfl) ⟨⟨rfl, rfl⟩, ⟨Nat.le_of_ble_eq_true rfl, Nat.le_of_ble_eq_true rfl⟩, hc0⟩ (fun v => j_at (fun hv => ?_)))
  subst hv
  refine j_swap ?_
  refine j_take (c := s_fewest (uA σ) (xs (i + 1)) (xs (i + 2)) = s_fewest (uA σ) (xs (i + 1)) (xs (i + 2))) rfl (j_icmp_eq (tgt := 1166) (C.kW _) dL_law_593 (by decide) ?_ jf_none)
  refine j_widen (cn' := cn + 2) (sn' := sn + 163) (by omega) (by omega) ?_
  exact kk _ _ _ _ _ _ σ (hx) (hy) (hS) rfl rfl
set_option maxRecDepth 100000 in
set_option maxHeartbeats 4000000 in
theorem lc_best (h : LQ κ b N i cn sn xs Ex Em Mx Mm Lx Lm σ) (kk : LD κ P b i cn sn Ex Em) : JX κ P 598 b i Ex Mx Lx Em Mm Lm cn sn := by
  obtain ⟨C, hs, hi, hx, hy, hS, hc⟩ := h
  have hc0 : cn + 0 ≤ room_1.cells ∧ sn + 0 ≤ room_1.slots := ⟨by have := hc.1; omega, by have := hc.2; omega⟩
  refine j_aload_n (C.kW _) dL_law_598 rfl rfl ?_
  refine j_arg (C.kW _) (hs.kW _) (k := 1) dL_law_599 dL_law_600 dL_law_601 dL_law_602 dL_law_603 rfl (by omega) rfl rfl ?_
  refine j_arg (C.kW _) (hs.kW _) (k := 2) dL_law_604 dL_law_605 dL_law_606 dL_law_607 dL_law_608 rfl (by omega) rfl rfl ?_
  refine j_arg (C.kW _) (hs.kW _) (k := 3) dL_law_609 dL_law_610 dL_law_611 dL_law_612 dL_law_613 rfl (by omega) rfl rfl ?_
  obtain ⟨M1, L1, e1, g1⟩ := X_best hS hx.2.1 (xs (i + 1)) (xs (i + 2)) (xs (i + 3))
  refine j_known e1 (j_callV_iw (st := []) (C.kW _) dL_law_614 (ct_X5_best _ Ex Mx Lx (xs (i + 1)) (xs (i + 2)) (xs (i + 3)) hx.1) mi_X5_best tw_675 FC5 hx.1.S rfl rfl (Nat.le_of_ble_eq_true rfl) ⟨⟨rfl, rfl⟩, ⟨Nat.le_of_ble_eq_true rfl, Nat.le_of_ble_eq_true rfl⟩, hc0⟩ (fun v => j_at (fun hv => ?_)))
  subst hv
  dsimp only
  refine j_swap ?_
  refine j_aload_n (C.kW _) dL_law_617 rfl rfl ?_
  refine j_arg (C.kW _) (hs.kW _) (k := 1) dL_law_618 dL_law_619 dL_law_620 dL_law_621 dL_law_622 rfl (by omega) rfl rfl ?_
  refine j_arg (C.kW _) (hs.kW _) (k := 2) dL_law_623 dL_law_624 dL_law_625 dL_law_626 dL_law_627 rfl (by omega) rfl rfl ?_
  refine j_arg (C.kW _) (hs.kW _) (k := 3) dL_law_628 dL_law_629 dL_law_630 dL_law_631 dL_law_632 rfl (by omega) rfl rfl ?_
  obtain ⟨R1, S1, f1, g2⟩ := Y_best hS hy.2 (xs (i + 1)) (xs (i + 2)) (xs (i + 3))
  refine j_known f1 (j_callV_iw (st := [.int (s_best (uX σ (aU (uA σ))) (uA σ) (xs (i + 1)) (xs (i + 2)) (xs (i + 3)))]) (C.kW _) dL_law_633 (ct_X6_best _ Em Mm Lm (xs (i + 1)) (xs (i + 2)) (xs (i + 3)) hy.1) mi_X6_best tw_1294 FC6 hy.1.S rfl rfl (Nat.le_of_ble_eq_true rfl) ⟨⟨rfl, rfl⟩, ⟨Nat.le_of_ble_eq_true rfl, Nat.le_of_ble_eq_true rfl⟩, hc0⟩ (fun v => j_at (fun hv => ?_)))
  subst hv
  dsimp only
  refine j_swap ?_
  refine j_take (c := s_best (uX σ (aU (uA σ))) (uA σ) (xs (i + 1)) (xs (i + 2)) (xs (i + 3)) = s_best (uX σ (aU (uA σ))) (uA σ) (xs (i + 1)) (xs (i + 2)) (xs (i + 3))) rfl (j_icmp_eq (tgt := 1166) (C.kW _) dL_law_636 (by decide) ?_ jf_none)
  refine j_widen (cn' := cn + 2) (sn' := sn + 163) (by omega) (by omega) ?_
  exact kk _ _ _ _ _ _ σ (⟨hx.1, g1, hx.2.2⟩) (⟨hy.1, g2⟩) (hS) rfl rfl
set_option maxRecDepth 100000 in
set_option maxHeartbeats 4000000 in
theorem lc_mean (h : LQ κ b N i cn sn xs Ex Em Mx Mm Lx Lm σ) (kk : LD κ P b i cn sn Ex Em) : JX κ P 641 b i Ex Mx Lx Em Mm Lm cn sn := by
  obtain ⟨C, hs, hi, hx, hy, hS, hc⟩ := h
  have hc0 : cn + 0 ≤ room_1.cells ∧ sn + 0 ≤ room_1.slots := ⟨by have := hc.1; omega, by have := hc.2; omega⟩
  have hm : aM (uA σ) < 2 ^ 30 := by have := hS.2.1; omega
  refine j_aload_n (C.kW _) dL_law_641 rfl rfl ?_
  refine j_arg (C.kW _) (hs.kW _) (k := 1) dL_law_642 dL_law_643 dL_law_644 dL_law_645 dL_law_646 rfl (by omega) rfl rfl ?_
  refine j_known (X_mean hS.1 hx.2.1.1 (xs (i + 1))) (j_callV_l (st := []) (C.kW _) dL_law_647 (ct_X5_mean _ Ex Mx Lx (xs (i + 1)) hx.1) mi_X5_mean tw_691 FC5 hx.1.S rfl rfl (Nat.le_of_ble_eq_true rfl) ⟨⟨rfl, rfl⟩, ⟨Nat.le_of_ble_eq_true rfl, Nat.le_of_ble_eq_true rfl⟩, hc0⟩ (fun v => j_at (fun hv => ?_)))
  subst hv
  refine j_swap ?_
  refine j_aload_n (C.kW _) dL_law_650 rfl rfl ?_
  refine j_arg (C.kW _) (hs.kW _) (k := 1) dL_law_651 dL_law_652 dL_law_653 dL_law_654 dL_law_655 rfl (by omega) rfl rfl ?_
  refine j_known (Y_mean hS.1 hy.2.1 (xs (i + 1))) (j_callV_l (st := [.long (s_mean (uA σ) (xs (i + 1)))]) (C.kW _) dL_law_656 (ct_X6_mean _ Em Mm Lm (xs (i + 1)) hy.1) mi_X6_mean tw_1307 FC6 hy.1.S rfl rfl (Nat.le_of_ble_eq_true rfl) ⟨⟨rfl, rfl⟩, ⟨Nat.le_of_ble_eq_true rfl, Nat.le_of_ble_eq_true rfl⟩, hc0⟩ (fun v => j_at (fun hv => ?_)))
  subst hv
  refine j_swap ?_
  refine j_lcmp (C.kW _) dL_law_659 ?_
  rw [lg_cmp_self]
  refine j_take (c := (0 : Int32) = 0) rfl (j_if_eq (tgt := 1166) (C.kW _) dL_law_660 (by decide) ?_ jf_none)
  refine j_widen (cn' := cn + 2) (sn' := sn + 163) (by omega) (by omega) ?_
  exact kk _ _ _ _ _ _ σ (hx) (hy) (hS) rfl rfl
set_option maxRecDepth 100000 in
set_option maxHeartbeats 4000000 in
theorem lc_tells (h : LQ κ b N i cn sn xs Ex Em Mx Mm Lx Lm σ) (kk : LD κ P b i cn sn Ex Em) : JX κ P 665 b i Ex Mx Lx Em Mm Lm cn sn := by
  obtain ⟨C, hs, hi, hx, hy, hS, hc⟩ := h
  have hc0 : cn + 0 ≤ room_1.cells ∧ sn + 0 ≤ room_1.slots := ⟨by have := hc.1; omega, by have := hc.2; omega⟩
  refine j_aload_n (C.kW _) dL_law_665 rfl rfl ?_
  refine j_arg (C.kW _) (hs.kW _) (k := 1) dL_law_666 dL_law_667 dL_law_668 dL_law_669 dL_law_670 rfl (by omega) rfl rfl ?_
  refine j_arg (C.kW _) (hs.kW _) (k := 2) dL_law_671 dL_law_672 dL_law_673 dL_law_674 dL_law_675 rfl (by omega) rfl rfl ?_
  refine j_arg (C.kW _) (hs.kW _) (k := 3) dL_law_676 dL_law_677 dL_law_678 dL_law_679 dL_law_680 rfl (by omega) rfl rfl ?_
  obtain ⟨M1, L1, e1, g1⟩ := X_tells hS hx.2.1 (xs (i + 1)) (xs (i + 2)) (xs (i + 3))
  refine j_known e1 (j_callV_iw (st := []) (C.kW _) dL_law_681 (ct_X5_tells _ Ex Mx Lx (xs (i + 1)) (xs (i + 2)) (xs (i + 3)) hx.1) mi_X5_tells tw_698 FC5 hx.1.S rfl rfl (Nat.le_of_ble_eq_true rfl) ⟨⟨rfl, rfl⟩, ⟨Nat.le_of_ble_eq_true rfl, Nat.le_of_ble_eq_true rfl⟩, hc0⟩ (fun v => j_at (fun hv => ?_)))
  subst hv
  dsimp only
  refine j_swap ?_
  refine j_aload_n (C.kW _) dL_law_684 rfl rfl ?_
  refine j_arg (C.kW _) (hs.kW _) (k := 1) dL_law_685 dL_law_686 dL_law_687 dL_law_688 dL_law_689 rfl (by omega) rfl rfl ?_
  refine j_arg (C.kW _) (hs.kW _) (k := 2) dL_law_690 dL_law_691 dL_law_692 dL_law_693 dL_law_694 rfl (by omega) rfl rfl ?_
  refine j_arg (C.kW _) (hs.kW _) (k := 3) dL_law_695 dL_law_696 dL_law_697 dL_law_698 dL_law_699 rfl (by omega) rfl rfl ?_
  obtain ⟨R1, S1, f1, g2⟩ := Y_tells hS hy.2 (xs (i + 1)) (xs (i + 2)) (xs (i + 3))
  refine j_known f1 (j_callV_iw (st := [.int (s_tells σ (xs (i + 1)) (xs (i + 2)) (xs (i + 3)))]) (C.kW _) dL_law_700 (ct_X6_tells _ Em Mm Lm (xs (i + 1)) (xs (i + 2)) (xs (i + 3)) hy.1) mi_X6_tells tw_1314 FC6 hy.1.S rfl rfl (Nat.le_of_ble_eq_true rfl) ⟨⟨rfl, rfl⟩, ⟨Nat.le_of_ble_eq_true rfl, Nat.le_of_ble_eq_true rfl⟩, hc0⟩ (fun v => j_at (fun hv => ?_)))
  subst hv
  dsimp only
  refine j_swap ?_
  refine j_take (c := s_tells σ (xs (i + 1)) (xs (i + 2)) (xs (i + 3)) = s_tells σ (xs (i + 1)) (xs (i + 2)) (xs (i + 3))) rfl (j_icmp_eq (tgt := 1166) (C.kW _) dL_law_703 (by decide) ?_ jf_none)
  refine j_widen (cn' := cn + 2) (sn' := sn + 163) (by omega) (by omega) ?_
  exact kk _ _ _ _ _ _ σ (⟨hx.1, g1, hx.2.2⟩) (⟨hy.1, g2⟩) (hS) rfl rfl
set_option maxRecDepth 100000 in
set_option maxHeartbeats 4000000 in
theorem lc_stood (h : LQ κ b N i cn sn xs Ex Em Mx Mm Lx Lm σ) (kk : LD κ P b i cn sn Ex Em) : JX κ P 708 b i Ex Mx Lx Em Mm Lm cn sn := by
  obtain ⟨C, hs, hi, hx, hy, hS, hc⟩ := h
  have hc0 : cn + 0 ≤ room_1.cells ∧ sn + 0 ≤ room_1.slots := ⟨by have := hc.1; omega, by have := hc.2; omega⟩
  refine j_aload_n (C.kW _) dL_law_708 rfl rfl ?_
  refine j_arg (C.kW _) (hs.kW _) (k := 1) dL_law_709 dL_law_710 dL_law_711 dL_law_712 dL_law_713 rfl (by omega) rfl rfl ?_
  refine j_arg (C.kW _) (hs.kW _) (k := 2) dL_law_714 dL_law_715 dL_law_716 dL_law_717 dL_law_718 rfl (by omega) rfl rfl ?_
  obtain ⟨M1, L1, e1, g1⟩ := X_stood hS hx.2.1 (xs (i + 1)) (xs (i + 2))
  refine j_known e1 (j_callV_lw (st := []) (C.kW _) dL_law_719 (ct_X5_stood _ Ex Mx Lx (xs (i + 1)) (xs (i + 2)) hx.1) mi_X5_stood tw_719 FC5 hx.1.S rfl rfl (Nat.le_of_ble_eq_true rfl) ⟨⟨rfl, rfl⟩, ⟨Nat.le_of_ble_eq_true rfl, Nat.le_of_ble_eq_true rfl⟩, hc0⟩ (fun v => j_at (fun hv => ?_)))
  subst hv
  dsimp only
  refine j_swap ?_
  refine j_aload_n (C.kW _) dL_law_722 rfl rfl ?_
  refine j_arg (C.kW _) (hs.kW _) (k := 1) dL_law_723 dL_law_724 dL_law_725 dL_law_726 dL_law_727 rfl (by omega) rfl rfl ?_
  refine j_arg (C.kW _) (hs.kW _) (k := 2) dL_law_728 dL_law_729 dL_law_730 dL_law_731 dL_law_732 rfl (by omega) rfl rfl ?_
  obtain ⟨R1, S1, f1, g2⟩ := Y_stood hS hy.2 (xs (i + 1)) (xs (i + 2))
  refine j_known f1 (j_callV_lw (st := [.long (s_stood σ (xs (i + 1)) (xs (i + 2)))]) (C.kW _) dL_law_733 (ct_X6_stood _ Em Mm Lm (xs (i + 1)) (xs (i + 2)) hy.1) mi_X6_stood tw_1330 FC6 hy.1.S rfl rfl (Nat.le_of_ble_eq_true rfl) ⟨⟨rfl, rfl⟩, ⟨Nat.le_of_ble_eq_true rfl, Nat.le_of_ble_eq_true rfl⟩, hc0⟩ (fun v => j_at (fun hv => ?_)))
  subst hv
  dsimp only
  refine j_swap ?_
  refine j_lcmp (C.kW _) dL_law_736 ?_
  rw [lg_cmp_self]
  refine j_take (c := (0 : Int32) = 0) rfl (j_if_eq (tgt := 1166) (C.kW _) dL_law_737 (by decide) ?_ jf_none)
  refine j_widen (cn' := cn + 2) (sn' := sn + 163) (by omega) (by omega) ?_
  exact kk _ _ _ _ _ _ σ (⟨hx.1, g1, hx.2.2⟩) (⟨hy.1, g2⟩) (hS) rfl rfl
set_option maxRecDepth 100000 in
set_option maxHeartbeats 4000000 in
theorem lc_film (h : LQ κ b N i cn sn xs Ex Em Mx Mm Lx Lm σ) (kk : LD κ P b i cn sn Ex Em) : JX κ P 742 b i Ex Mx Lx Em Mm Lm cn sn := by
  obtain ⟨C, hs, hi, hx, hy, hS, hc⟩ := h
  have hc0 : cn + 0 ≤ room_1.cells ∧ sn + 0 ≤ room_1.slots := ⟨by have := hc.1; omega, by have := hc.2; omega⟩
  refine j_aload_n (C.kW _) dL_law_742 rfl rfl ?_
  refine j_arg (C.kW _) (hs.kW _) (k := 1) dL_law_743 dL_law_744 dL_law_745 dL_law_746 dL_law_747 rfl (by omega) rfl rfl ?_
  refine j_arg (C.kW _) (hs.kW _) (k := 2) dL_law_748 dL_law_749 dL_law_750 dL_law_751 dL_law_752 rfl (by omega) rfl rfl ?_
  refine j_arg (C.kW _) (hs.kW _) (k := 3) dL_law_753 dL_law_754 dL_law_755 dL_law_756 dL_law_757 rfl (by omega) rfl rfl ?_
  obtain ⟨M1, L1, e1, g1⟩ := X_film hS hx.2.1 (xs (i + 1)) (xs (i + 2)) (xs (i + 3))
  refine j_known e1 (j_callV_iw (st := []) (C.kW _) dL_law_758 (ct_X5_film _ Ex Mx Lx (xs (i + 1)) (xs (i + 2)) (xs (i + 3)) hx.1) mi_X5_film tw_723 FC5 hx.1.S rfl rfl (Nat.le_of_ble_eq_true rfl) ⟨⟨rfl, rfl⟩, ⟨Nat.le_of_ble_eq_true rfl, Nat.le_of_ble_eq_true rfl⟩, hc0⟩ (fun v => j_at (fun hv => ?_)))
  subst hv
  dsimp only
  refine j_swap ?_
  refine j_aload_n (C.kW _) dL_law_761 rfl rfl ?_
  refine j_arg (C.kW _) (hs.kW _) (k := 1) dL_law_762 dL_law_763 dL_law_764 dL_law_765 dL_law_766 rfl (by omega) rfl rfl ?_
  refine j_arg (C.kW _) (hs.kW _) (k := 2) dL_law_767 dL_law_768 dL_law_769 dL_law_770 dL_law_771 rfl (by omega) rfl rfl ?_
  refine j_arg (C.kW _) (hs.kW _) (k := 3) dL_law_772 dL_law_773 dL_law_774 dL_law_775 dL_law_776 rfl (by omega) rfl rfl ?_
  obtain ⟨R1, S1, f1, g2⟩ := Y_film hS hy.2 (xs (i + 1)) (xs (i + 2)) (xs (i + 3))
  refine j_known f1 (j_callV_iw (st := [.int ((s_film σ (xs (i + 1)) (xs (i + 2)) (xs (i + 3))).1)]) (C.kW _) dL_law_777 (ct_X6_film _ Em Mm Lm (xs (i + 1)) (xs (i + 2)) (xs (i + 3)) hy.1) mi_X6_film tw_1334 FC6 hy.1.S rfl rfl (Nat.le_of_ble_eq_true rfl) ⟨⟨rfl, rfl⟩, ⟨Nat.le_of_ble_eq_true rfl, Nat.le_of_ble_eq_true rfl⟩, hc0⟩ (fun v => j_at (fun hv => ?_)))
  subst hv
  dsimp only
  refine j_swap ?_
  refine j_take (c := (s_film σ (xs (i + 1)) (xs (i + 2)) (xs (i + 3))).1 = (s_film σ (xs (i + 1)) (xs (i + 2)) (xs (i + 3))).1) rfl (j_icmp_eq (tgt := 1166) (C.kW _) dL_law_780 (by decide) ?_ jf_none)
  refine j_widen (cn' := cn + 2) (sn' := sn + 163) (by omega) (by omega) ?_
  exact kk _ _ _ _ _ _ (s_film σ (xs (i + 1)) (xs (i + 2)) (xs (i + 3))).2 (⟨hx.1, g1, hx.2.2⟩) (⟨hy.1, g2⟩) ((Ws_film hS (xs (i + 1)) (xs (i + 2)) (xs (i + 3)))) rfl rfl
set_option maxRecDepth 100000 in
set_option maxHeartbeats 4000000 in
theorem lc_drawn (h : LQ κ b N i cn sn xs Ex Em Mx Mm Lx Lm σ) (kk : LD κ P b i cn sn Ex Em) : JX κ P 785 b i Ex Mx Lx Em Mm Lm cn sn := by
  obtain ⟨C, hs, hi, hx, hy, hS, hc⟩ := h
  have hc0 : cn + 0 ≤ room_1.cells ∧ sn + 0 ≤ room_1.slots := ⟨by have := hc.1; omega, by have := hc.2; omega⟩
  have hm : aM (uA σ) < 2 ^ 30 := by have := hS.2.1; omega
  refine j_aload_n (C.kW _) dL_law_785 rfl rfl ?_
  refine j_arg (C.kW _) (hs.kW _) (k := 1) dL_law_786 dL_law_787 dL_law_788 dL_law_789 dL_law_790 rfl (by omega) rfl rfl ?_
  refine j_arg (C.kW _) (hs.kW _) (k := 2) dL_law_791 dL_law_792 dL_law_793 dL_law_794 dL_law_795 rfl (by omega) rfl rfl ?_
  refine j_arg (C.kW _) (hs.kW _) (k := 3) dL_law_796 dL_law_797 dL_law_798 dL_law_799 dL_law_800 rfl (by omega) rfl rfl ?_
  refine j_known (X_drawn hS.1 hx.2.1.1 (xs (i + 1)) (xs (i + 2)) (xs (i + 3))) (j_callV_i (st := []) (C.kW _) dL_law_801 (ct_X5_drawn _ Ex Mx Lx (xs (i + 1)) (xs (i + 2)) (xs (i + 3)) hx.1) mi_X5_drawn tw_742 FC5 hx.1.S rfl rfl (Nat.le_of_ble_eq_true rfl) ⟨⟨rfl, rfl⟩, ⟨Nat.le_of_ble_eq_true rfl, Nat.le_of_ble_eq_true rfl⟩, hc0⟩ (fun v => j_at (fun hv => ?_)))
  subst hv
  refine j_swap ?_
  refine j_aload_n (C.kW _) dL_law_804 rfl rfl ?_
  refine j_arg (C.kW _) (hs.kW _) (k := 1) dL_law_805 dL_law_806 dL_law_807 dL_law_808 dL_law_809 rfl (by omega) rfl rfl ?_
  refine j_arg (C.kW _) (hs.kW _) (k := 2) dL_law_810 dL_law_811 dL_law_812 dL_law_813 dL_law_814 rfl (by omega) rfl rfl ?_
  refine j_arg (C.kW _) (hs.kW _) (k := 3) dL_law_815 dL_law_816 dL_law_817 dL_law_818 dL_law_819 rfl (by omega) rfl rfl ?_
  refine j_known (Y_drawn hS.1 hm hy.2.1 (xs (i + 1)) (xs (i + 2)) (xs (i + 3))) (j_callV_i (st := [.int (s_drawn (uA σ) (xs (i + 1)) (xs (i + 2)) (xs (i + 3)))]) (C.kW _) dL_law_820 (ct_X6_drawn _ Em Mm Lm (xs (i + 1)) (xs (i + 2)) (xs (i + 3)) hy.1) mi_X6_drawn tw_1342 FC6 hy.1.S rfl rfl (Nat.le_of_ble_eq_true rfl) ⟨⟨rfl, rfl⟩, ⟨Nat.le_of_ble_eq_true rfl, Nat.le_of_ble_eq_true rfl⟩, hc0⟩ (fun v => j_at (fun hv => ?_)))
  subst hv
  refine j_swap ?_
  refine j_take (c := s_drawn (uA σ) (xs (i + 1)) (xs (i + 2)) (xs (i + 3)) = s_drawn (uA σ) (xs (i + 1)) (xs (i + 2)) (xs (i + 3))) rfl (j_icmp_eq (tgt := 1166) (C.kW _) dL_law_823 (by decide) ?_ jf_none)
  refine j_widen (cn' := cn + 2) (sn' := sn + 163) (by omega) (by omega) ?_
  exact kk _ _ _ _ _ _ σ (hx) (hy) (hS) rfl rfl
set_option maxRecDepth 100000 in
set_option maxHeartbeats 4000000 in
theorem lc_chance (h : LQ κ b N i cn sn xs Ex Em Mx Mm Lx Lm σ) (kk : LD κ P b i cn sn Ex Em) : JX κ P 828 b i Ex Mx Lx Em Mm Lm cn sn := by
  obtain ⟨C, hs, hi, hx, hy, hS, hc⟩ := h
  have hc0 : cn + 0 ≤ room_1.cells ∧ sn + 0 ≤ room_1.slots := ⟨by have := hc.1; omega, by have := hc.2; omega⟩
  have hm : aM (uA σ) < 2 ^ 30 := by have := hS.2.1; omega
  refine j_aload_n (C.kW _) dL_law_828 rfl rfl ?_
  refine j_arg (C.kW _) (hs.kW _) (k := 1) dL_law_829 dL_law_830 dL_law_831 dL_law_832 dL_law_833 rfl (by omega) rfl rfl ?_
  refine j_arg (C.kW _) (hs.kW _) (k := 2) dL_law_834 dL_law_835 dL_law_836 dL_law_837 dL_law_838 rfl (by omega) rfl rfl ?_
  refine j_arg (C.kW _) (hs.kW _) (k := 3) dL_law_839 dL_law_840 dL_law_841 dL_law_842 dL_law_843 rfl (by omega) rfl rfl ?_
  refine j_arg (C.kW _) (hs.kW _) (k := 4) dL_law_844 dL_law_845 dL_law_846 dL_law_847 dL_law_848 rfl (by omega) rfl rfl ?_
  refine j_known (X_chance hS.1 hx.2.1.1 (xs (i + 1)) (xs (i + 2)) (xs (i + 3)) (xs (i + 4))) (j_callV_l (st := []) (C.kW _) dL_law_849 (ct_X5_chance _ Ex Mx Lx (xs (i + 1)) (xs (i + 2)) (xs (i + 3)) (xs (i + 4)) hx.1) mi_X5_chance tw_751 FC5 hx.1.S rfl rfl (Nat.le_of_ble_eq_true rfl) ⟨⟨rfl, rfl⟩, ⟨Nat.le_of_ble_eq_true rfl, Nat.le_of_ble_eq_true rfl⟩, hc0⟩ (fun v => j_at (fun hv => ?_)))
  subst hv
  refine j_swap ?_
  refine j_aload_n (C.kW _) dL_law_852 rfl rfl ?_
  refine j_arg (C.kW _) (hs.kW _) (k := 1) dL_law_853 dL_law_854 dL_law_855 dL_law_856 dL_law_857 rfl (by omega) rfl rfl ?_
  refine j_arg (C.kW _) (hs.kW _) (k := 2) dL_law_858 dL_law_859 dL_law_860 dL_law_861 dL_law_862 rfl (by omega) rfl rfl ?_
  refine j_arg (C.kW _) (hs.kW _) (k := 3) dL_law_863 dL_law_864 dL_law_865 dL_law_866 dL_law_867 rfl (by omega) rfl rfl ?_
  refine j_arg (C.kW _) (hs.kW _) (k := 4) dL_law_868 dL_law_869 dL_law_870 dL_law_871 dL_law_872 rfl (by omega) rfl rfl ?_
  refine j_known (Y_chance hS.1 hm hy.2.1 (xs (i + 1)) (xs (i + 2)) (xs (i + 3)) (xs (i + 4))) (j_callV_l (st := [.long (s_chance (uA σ) (xs (i + 1)) (xs (i + 2)) (xs (i + 3)) (xs (i + 4)))]) (C.kW _) dL_law_873 (ct_X6_chance _ Em Mm Lm (xs (i + 1)) (xs (i + 2)) (xs (i + 3)) (xs (i + 4)) hy.1) mi_X6_chance tw_1351 FC6 hy.1.S rfl rfl (Nat.le_of_ble_eq_true rfl) ⟨⟨rfl, rfl⟩, ⟨Nat.le_of_ble_eq_true rfl, Nat.le_of_ble_eq_true rfl⟩, hc0⟩ (fun v => j_at (fun hv => ?_)))
  subst hv
  refine j_swap ?_
  refine j_lcmp (C.kW _) dL_law_876 ?_
  rw [lg_cmp_self]
  refine j_take (c := (0 : Int32) = 0) rfl (j_if_eq (tgt := 1166) (C.kW _) dL_law_877 (by decide) ?_ jf_none)
  refine j_widen (cn' := cn + 2) (sn' := sn + 163) (by omega) (by omega) ?_
  exact kk _ _ _ _ _ _ σ (hx) (hy) (hS) rfl rfl
set_option maxRecDepth 100000 in
set_option maxHeartbeats 4000000 in
theorem lc_image (h : LQ κ b N i cn sn xs Ex Em Mx Mm Lx Lm σ) (kk : LD κ P b i cn sn Ex Em) : JX κ P 882 b i Ex Mx Lx Em Mm Lm cn sn := by
  obtain ⟨C, hs, hi, hx, hy, hS, hc⟩ := h
  have hc0 : cn + 0 ≤ room_1.cells ∧ sn + 0 ≤ room_1.slots := ⟨by have := hc.1; omega, by have := hc.2; omega⟩
  refine j_aload_n (C.kW _) dL_law_882 rfl rfl ?_
  obtain ⟨M1, L1, e1, g1⟩ := X_image hS hx.2.1 
  refine j_known e1 (j_callV_iw (st := []) (C.kW _) dL_law_883 (ct_X5_image _ Ex Mx Lx  hx.1) mi_X5_image tw_756 FC5 hx.1.S rfl rfl (Nat.le_of_ble_eq_true rfl) ⟨⟨rfl, rfl⟩, ⟨Nat.le_of_ble_eq_true rfl, Nat.le_of_ble_eq_true rfl⟩, hc0⟩ (fun v => j_at (fun hv => ?_)))
  subst hv
  dsimp only
  refine j_swap ?_
  refine j_aload_n (C.kW _) dL_law_886 rfl rfl ?_
  obtain ⟨R1, S1, f1, g2⟩ := Y_image hS hy.2 
  refine j_known f1 (j_callV_iw (st := [.int ((s_image σ ).1)]) (C.kW _) dL_law_887 (ct_X6_image _ Em Mm Lm  hy.1) mi_X6_image tw_1355 FC6 hy.1.S rfl rfl (Nat.le_of_ble_eq_true rfl) ⟨⟨rfl, rfl⟩, ⟨Nat.le_of_ble_eq_true rfl, Nat.le_of_ble_eq_true rfl⟩, hc0⟩ (fun v => j_at (fun hv => ?_)))
  subst hv
  dsimp only
  refine j_swap ?_
  refine j_take (c := (s_image σ ).1 = (s_image σ ).1) rfl (j_icmp_eq (tgt := 1166) (C.kW _) dL_law_890 (by decide) ?_ jf_none)
  refine j_widen (cn' := cn + 2) (sn' := sn + 163) (by omega) (by omega) ?_
  exact kk _ _ _ _ _ _ (s_image σ ).2 (⟨hx.1, g1, hx.2.2⟩) (⟨hy.1, g2⟩) ((Ws_image hS )) rfl rfl
set_option maxRecDepth 100000 in
set_option maxHeartbeats 4000000 in
theorem lc_back (h : LQ κ b N i cn sn xs Ex Em Mx Mm Lx Lm σ) (kk : LD κ P b i cn sn Ex Em) : JX κ P 895 b i Ex Mx Lx Em Mm Lm cn sn := by
  obtain ⟨C, hs, hi, hx, hy, hS, hc⟩ := h
  have hc0 : cn + 0 ≤ room_1.cells ∧ sn + 0 ≤ room_1.slots := ⟨by have := hc.1; omega, by have := hc.2; omega⟩
  refine j_aload_n (C.kW _) dL_law_895 rfl rfl ?_
  obtain ⟨M1, L1, e1, g1⟩ := X_back hS hx.2.1 
  refine j_known e1 (j_callV_iw (st := []) (C.kW _) dL_law_896 (ct_X5_back _ Ex Mx Lx  hx.1) mi_X5_back tw_760 FC5 hx.1.S rfl rfl (Nat.le_of_ble_eq_true rfl) ⟨⟨rfl, rfl⟩, ⟨Nat.le_of_ble_eq_true rfl, Nat.le_of_ble_eq_true rfl⟩, hc0⟩ (fun v => j_at (fun hv => ?_)))
  subst hv
  dsimp only
  refine j_swap ?_
  refine j_aload_n (C.kW _) dL_law_899 rfl rfl ?_
  obtain ⟨R1, S1, f1, g2⟩ := Y_back hS hy.2 
  refine j_known f1 (j_callV_iw (st := [.int ((s_back σ ).1)]) (C.kW _) dL_law_900 (ct_X6_back _ Em Mm Lm  hy.1) mi_X6_back tw_1359 FC6 hy.1.S rfl rfl (Nat.le_of_ble_eq_true rfl) ⟨⟨rfl, rfl⟩, ⟨Nat.le_of_ble_eq_true rfl, Nat.le_of_ble_eq_true rfl⟩, hc0⟩ (fun v => j_at (fun hv => ?_)))
  subst hv
  dsimp only
  refine j_swap ?_
  refine j_take (c := (s_back σ ).1 = (s_back σ ).1) rfl (j_icmp_eq (tgt := 1166) (C.kW _) dL_law_903 (by decide) ?_ jf_none)
  refine j_widen (cn' := cn + 2) (sn' := sn + 163) (by omega) (by omega) ?_
  exact kk _ _ _ _ _ _ (s_back σ ).2 (⟨hx.1, g1, hx.2.2⟩) (⟨hy.1, g2⟩) ((Ws_back hS )) rfl rfl
set_option maxRecDepth 100000 in
set_option maxHeartbeats 4000000 in
theorem lc_count (h : LQ κ b N i cn sn xs Ex Em Mx Mm Lx Lm σ) (kk : LD κ P b i cn sn Ex Em) : JX κ P 908 b i Ex Mx Lx Em Mm Lm cn sn := by
  obtain ⟨C, hs, hi, hx, hy, hS, hc⟩ := h
  have hc0 : cn + 0 ≤ room_1.cells ∧ sn + 0 ≤ room_1.slots := ⟨by have := hc.1; omega, by have := hc.2; omega⟩
  have hm : aM (uA σ) < 2 ^ 30 := by have := hS.2.1; omega
  refine j_aload_n (C.kW _) dL_law_908 rfl rfl ?_
  refine j_arg (C.kW _) (hs.kW _) (k := 1) dL_law_909 dL_law_910 dL_law_911 dL_law_912 dL_law_913 rfl (by omega) rfl rfl ?_
  refine j_known (X_count hx.2.1 (xs (i + 1))) (j_callV_i (st := []) (C.kW _) dL_law_914 (ct_X5_count _ Ex Mx Lx (xs (i + 1)) hx.1) mi_X5_count tw_764 FC5 hx.1.S rfl rfl (Nat.le_of_ble_eq_true rfl) ⟨⟨rfl, rfl⟩, ⟨Nat.le_of_ble_eq_true rfl, Nat.le_of_ble_eq_true rfl⟩, hc0⟩ (fun v => j_at (fun hv => ?_)))
  subst hv
  refine j_swap ?_
  refine j_aload_n (C.kW _) dL_law_917 rfl rfl ?_
  refine j_arg (C.kW _) (hs.kW _) (k := 1) dL_law_918 dL_law_919 dL_law_920 dL_law_921 dL_law_922 rfl (by omega) rfl rfl ?_
  refine j_known (Y_count hy.2 (xs (i + 1))) (j_callV_i (st := [.int (s_count σ (xs (i + 1)))]) (C.kW _) dL_law_923 (ct_X6_count _ Em Mm Lm (xs (i + 1)) hy.1) mi_X6_count tw_1363 FC6 hy.1.S rfl rfl (Nat.le_of_ble_eq_true rfl) ⟨⟨rfl, rfl⟩, ⟨Nat.le_of_ble_eq_true rfl, Nat.le_of_ble_eq_true rfl⟩, hc0⟩ (fun v => j_at (fun hv => ?_)))
  subst hv
  refine j_swap ?_
  refine j_take (c := s_count σ (xs (i + 1)) = s_count σ (xs (i + 1))) rfl (j_icmp_eq (tgt := 1166) (C.kW _) dL_law_926 (by decide) ?_ jf_none)
  refine j_widen (cn' := cn + 2) (sn' := sn + 163) (by omega) (by omega) ?_
  exact kk _ _ _ _ _ _ σ (hx) (hy) (hS) rfl rfl
set_option maxRecDepth 100000 in
set_option maxHeartbeats 4000000 in
theorem lc_sheet (h : LQ κ b N i cn sn xs Ex Em Mx Mm Lx Lm σ) (kk : LD κ P b i cn sn Ex Em) : JX κ P 931 b i Ex Mx Lx Em Mm Lm cn sn := by
  obtain ⟨C, hs, hi, hx, hy, hS, hc⟩ := h
  have hc0 : cn + 0 ≤ room_1.cells ∧ sn + 0 ≤ room_1.slots := ⟨by have := hc.1; omega, by have := hc.2; omega⟩
  refine j_aload_n (C.kW _) dL_law_931 rfl rfl ?_
  refine j_arg (C.kW _) (hs.kW _) (k := 1) dL_law_932 dL_law_933 dL_law_934 dL_law_935 dL_law_936 rfl (by omega) rfl rfl ?_
  refine j_arg (C.kW _) (hs.kW _) (k := 2) dL_law_937 dL_law_938 dL_law_939 dL_law_940 dL_law_941 rfl (by omega) rfl rfl ?_
  refine j_arg (C.kW _) (hs.kW _) (k := 3) dL_law_942 dL_law_943 dL_law_944 dL_law_945 dL_law_946 rfl (by omega) rfl rfl ?_
  obtain ⟨M1, e1, g1⟩ := X_sheet  hx.2.1 (xs (i + 1)) (xs (i + 2)) (xs (i + 3))
  refine j_known e1 (j_callV_iw (st := []) (C.kW _) dL_law_947 (ct_X5_sheet _ Ex Mx Lx (xs (i + 1)) (xs (i + 2)) (xs (i + 3)) hx.1) mi_X5_sheet tw_769 FC5 hx.1.S rfl rfl (Nat.le_of_ble_eq_true rfl) ⟨⟨rfl, rfl⟩, ⟨Nat.le_of_ble_eq_true rfl, Nat.le_of_ble_eq_true rfl⟩, hc0⟩ (fun v => j_at (fun hv => ?_)))
  subst hv
  dsimp only
  refine j_swap ?_
  refine j_aload_n (C.kW _) dL_law_950 rfl rfl ?_
  refine j_arg (C.kW _) (hs.kW _) (k := 1) dL_law_951 dL_law_952 dL_law_953 dL_law_954 dL_law_955 rfl (by omega) rfl rfl ?_
  refine j_arg (C.kW _) (hs.kW _) (k := 2) dL_law_956 dL_law_957 dL_law_958 dL_law_959 dL_law_960 rfl (by omega) rfl rfl ?_
  refine j_arg (C.kW _) (hs.kW _) (k := 3) dL_law_961 dL_law_962 dL_law_963 dL_law_964 dL_law_965 rfl (by omega) rfl rfl ?_
  obtain ⟨R1, f1, g2⟩ := Y_sheet hS hy.2 (xs (i + 1)) (xs (i + 2)) (xs (i + 3))
  refine j_known f1 (j_callV_iw (st := [.int ((s_sheet σ (xs (i + 1)) (xs (i + 2)) (xs (i + 3))).1)]) (C.kW _) dL_law_966 (ct_X6_sheet _ Em Mm Lm (xs (i + 1)) (xs (i + 2)) (xs (i + 3)) hy.1) mi_X6_sheet tw_1367 FC6 hy.1.S rfl rfl (Nat.le_of_ble_eq_true rfl) ⟨⟨rfl, rfl⟩, ⟨Nat.le_of_ble_eq_true rfl, Nat.le_of_ble_eq_true rfl⟩, hc0⟩ (fun v => j_at (fun hv => ?_)))
  subst hv
  dsimp only
  refine j_swap ?_
  refine j_take (c := (s_sheet σ (xs (i + 1)) (xs (i + 2)) (xs (i + 3))).1 = (s_sheet σ (xs (i + 1)) (xs (i + 2)) (xs (i + 3))).1) rfl (j_icmp_eq (tgt := 1166) (C.kW _) dL_law_969 (by decide) ?_ jf_none)
  refine j_widen (cn' := cn + 2) (sn' := sn + 163) (by omega) (by omega) ?_
  exact kk _ _ _ _ _ _ (s_sheet σ (xs (i + 1)) (xs (i + 2)) (xs (i + 3))).2 (⟨hx.1, g1, hx.2.2⟩) (⟨hy.1, g2⟩) ((Ws_sheet hS (xs (i + 1)) (xs (i + 2)) (xs (i + 3)))) rfl rfl
set_option maxRecDepth 100000 in
set_option maxHeartbeats 4000000 in
theorem lc_cell (h : LQ κ b N i cn sn xs Ex Em Mx Mm Lx Lm σ) (kk : LD κ P b i cn sn Ex Em) : JX κ P 974 b i Ex Mx Lx Em Mm Lm cn sn := by
  obtain ⟨C, hs, hi, hx, hy, hS, hc⟩ := h
  have hc0 : cn + 0 ≤ room_1.cells ∧ sn + 0 ≤ room_1.slots := ⟨by have := hc.1; omega, by have := hc.2; omega⟩
  refine j_aload_n (C.kW _) dL_law_974 rfl rfl ?_
  refine j_arg (C.kW _) (hs.kW _) (k := 1) dL_law_975 dL_law_976 dL_law_977 dL_law_978 dL_law_979 rfl (by omega) rfl rfl ?_
  refine j_arg (C.kW _) (hs.kW _) (k := 2) dL_law_980 dL_law_981 dL_law_982 dL_law_983 dL_law_984 rfl (by omega) rfl rfl ?_
  refine j_arg (C.kW _) (hs.kW _) (k := 3) dL_law_985 dL_law_986 dL_law_987 dL_law_988 dL_law_989 rfl (by omega) rfl rfl ?_
  obtain ⟨M1, e1, g1⟩ := X_cell hS hx.2.1 (xs (i + 1)) (xs (i + 2)) (xs (i + 3))
  refine j_known e1 (j_callV_iw (st := []) (C.kW _) dL_law_990 (ct_X5_cell _ Ex Mx Lx (xs (i + 1)) (xs (i + 2)) (xs (i + 3)) hx.1) mi_X5_cell tw_773 FC5 hx.1.S rfl rfl (Nat.le_of_ble_eq_true rfl) ⟨⟨rfl, rfl⟩, ⟨Nat.le_of_ble_eq_true rfl, Nat.le_of_ble_eq_true rfl⟩, hc0⟩ (fun v => j_at (fun hv => ?_)))
  subst hv
  dsimp only
  refine j_swap ?_
  refine j_aload_n (C.kW _) dL_law_993 rfl rfl ?_
  refine j_arg (C.kW _) (hs.kW _) (k := 1) dL_law_994 dL_law_995 dL_law_996 dL_law_997 dL_law_998 rfl (by omega) rfl rfl ?_
  refine j_arg (C.kW _) (hs.kW _) (k := 2) dL_law_999 dL_law_1000 dL_law_1001 dL_law_1002 dL_law_1003 rfl (by omega) rfl rfl ?_
  refine j_arg (C.kW _) (hs.kW _) (k := 3) dL_law_1004 dL_law_1005 dL_law_1006 dL_law_1007 dL_law_1008 rfl (by omega) rfl rfl ?_
  obtain ⟨R1, f1, g2⟩ := Y_cell hS hy.2 (xs (i + 1)) (xs (i + 2)) (xs (i + 3))
  refine j_known f1 (j_callV_iw (st := [.int ((s_cell σ (xs (i + 1)) (xs (i + 2)) (xs (i + 3))).1)]) (C.kW _) dL_law_1009 (ct_X6_cell _ Em Mm Lm (xs (i + 1)) (xs (i + 2)) (xs (i + 3)) hy.1) mi_X6_cell tw_1368 FC6 hy.1.S rfl rfl (Nat.le_of_ble_eq_true rfl) ⟨⟨rfl, rfl⟩, ⟨Nat.le_of_ble_eq_true rfl, Nat.le_of_ble_eq_true rfl⟩, hc0⟩ (fun v => j_at (fun hv => ?_)))
  subst hv
  dsimp only
  refine j_swap ?_
  refine j_take (c := (s_cell σ (xs (i + 1)) (xs (i + 2)) (xs (i + 3))).1 = (s_cell σ (xs (i + 1)) (xs (i + 2)) (xs (i + 3))).1) rfl (j_icmp_eq (tgt := 1166) (C.kW _) dL_law_1012 (by decide) ?_ jf_none)
  refine j_widen (cn' := cn + 2) (sn' := sn + 163) (by omega) (by omega) ?_
  exact kk _ _ _ _ _ _ (s_cell σ (xs (i + 1)) (xs (i + 2)) (xs (i + 3))).2 (⟨hx.1, g1, hx.2.2⟩) (⟨hy.1, g2⟩) ((Ws_cell hS (xs (i + 1)) (xs (i + 2)) (xs (i + 3)))) rfl rfl
set_option maxRecDepth 100000 in
set_option maxHeartbeats 4000000 in
theorem lc_copy (h : LQ κ b N i cn sn xs Ex Em Mx Mm Lx Lm σ) (kk : LD κ P b i cn sn Ex Em) : JX κ P 1017 b i Ex Mx Lx Em Mm Lm cn sn := by
  obtain ⟨C, hs, hi, hx, hy, hS, hc⟩ := h
  have hc0 : cn + 0 ≤ room_1.cells ∧ sn + 0 ≤ room_1.slots := ⟨by have := hc.1; omega, by have := hc.2; omega⟩
  refine j_aload_n (C.kW _) dL_law_1017 rfl rfl ?_
  refine j_arg (C.kW _) (hs.kW _) (k := 1) dL_law_1018 dL_law_1019 dL_law_1020 dL_law_1021 dL_law_1022 rfl (by omega) rfl rfl ?_
  refine j_arg (C.kW _) (hs.kW _) (k := 2) dL_law_1023 dL_law_1024 dL_law_1025 dL_law_1026 dL_law_1027 rfl (by omega) rfl rfl ?_
  refine j_arg (C.kW _) (hs.kW _) (k := 3) dL_law_1028 dL_law_1029 dL_law_1030 dL_law_1031 dL_law_1032 rfl (by omega) rfl rfl ?_
  refine j_arg (C.kW _) (hs.kW _) (k := 4) dL_law_1033 dL_law_1034 dL_law_1035 dL_law_1036 dL_law_1037 rfl (by omega) rfl rfl ?_
  refine j_arg (C.kW _) (hs.kW _) (k := 5) dL_law_1038 dL_law_1039 dL_law_1040 dL_law_1041 dL_law_1042 rfl (by omega) rfl rfl ?_
  obtain ⟨M1, e1, g1⟩ := X_copy hS hx.2.1 (xs (i + 1)) (xs (i + 2)) (xs (i + 3)) (xs (i + 4)) (xs (i + 5))
  refine j_known e1 (j_callV_iw (st := []) (C.kW _) dL_law_1043 (ct_X5_copy _ Ex Mx Lx (xs (i + 1)) (xs (i + 2)) (xs (i + 3)) (xs (i + 4)) (xs (i + 5)) hx.1) mi_X5_copy tw_777 FC5 hx.1.S rfl rfl (Nat.le_of_ble_eq_true rfl) ⟨⟨rfl, rfl⟩, ⟨Nat.le_of_ble_eq_true rfl, Nat.le_of_ble_eq_true rfl⟩, hc0⟩ (fun v => j_at (fun hv => ?_)))
  subst hv
  dsimp only
  refine j_swap ?_
  refine j_aload_n (C.kW _) dL_law_1046 rfl rfl ?_
  refine j_arg (C.kW _) (hs.kW _) (k := 1) dL_law_1047 dL_law_1048 dL_law_1049 dL_law_1050 dL_law_1051 rfl (by omega) rfl rfl ?_
  refine j_arg (C.kW _) (hs.kW _) (k := 2) dL_law_1052 dL_law_1053 dL_law_1054 dL_law_1055 dL_law_1056 rfl (by omega) rfl rfl ?_
  refine j_arg (C.kW _) (hs.kW _) (k := 3) dL_law_1057 dL_law_1058 dL_law_1059 dL_law_1060 dL_law_1061 rfl (by omega) rfl rfl ?_
  refine j_arg (C.kW _) (hs.kW _) (k := 4) dL_law_1062 dL_law_1063 dL_law_1064 dL_law_1065 dL_law_1066 rfl (by omega) rfl rfl ?_
  refine j_arg (C.kW _) (hs.kW _) (k := 5) dL_law_1067 dL_law_1068 dL_law_1069 dL_law_1070 dL_law_1071 rfl (by omega) rfl rfl ?_
  obtain ⟨R1, f1, g2⟩ := Y_copy hS hy.2 (xs (i + 1)) (xs (i + 2)) (xs (i + 3)) (xs (i + 4)) (xs (i + 5))
  refine j_known f1 (j_callV_iw (st := [.int ((s_copy σ (xs (i + 1)) (xs (i + 2)) (xs (i + 3)) (xs (i + 4)) (xs (i + 5))).1)]) (C.kW _) dL_law_1072 (ct_X6_copy _ Em Mm Lm (xs (i + 1)) (xs (i + 2)) (xs (i + 3)) (xs (i + 4)) (xs (i + 5)) hy.1) mi_X6_copy tw_1372 FC6 hy.1.S rfl rfl (Nat.le_of_ble_eq_true rfl) ⟨⟨rfl, rfl⟩, ⟨Nat.le_of_ble_eq_true rfl, Nat.le_of_ble_eq_true rfl⟩, hc0⟩ (fun v => j_at (fun hv => ?_)))
  subst hv
  dsimp only
  refine j_swap ?_
  refine j_take (c := (s_copy σ (xs (i + 1)) (xs (i + 2)) (xs (i + 3)) (xs (i + 4)) (xs (i + 5))).1 = (s_copy σ (xs (i + 1)) (xs (i + 2)) (xs (i + 3)) (xs (i + 4)) (xs (i + 5))).1) rfl (j_icmp_eq (tgt := 1166) (C.kW _) dL_law_1075 (by decide) ?_ jf_none)
  refine j_widen (cn' := cn + 2) (sn' := sn + 163) (by omega) (by omega) ?_
  exact kk _ _ _ _ _ _ (s_copy σ (xs (i + 1)) (xs (i + 2)) (xs (i + 3)) (xs (i + 4)) (xs (i + 5))).2 (⟨hx.1, g1, hx.2.2⟩) (⟨hy.1, g2⟩) ((Ws_copy hS (xs (i + 1)) (xs (i + 2)) (xs (i + 3)) (xs (i + 4)) (xs (i + 5)))) rfl rfl
set_option maxRecDepth 100000 in
set_option maxHeartbeats 4000000 in
theorem lc_suits (h : LQ κ b N i cn sn xs Ex Em Mx Mm Lx Lm σ) (kk : LD κ P b i cn sn Ex Em) : JX κ P 1080 b i Ex Mx Lx Em Mm Lm cn sn := by
  obtain ⟨C, hs, hi, hx, hy, hS, hc⟩ := h
  have hc0 : cn + 0 ≤ room_1.cells ∧ sn + 0 ≤ room_1.slots := ⟨by have := hc.1; omega, by have := hc.2; omega⟩
  refine j_aload_n (C.kW _) dL_law_1080 rfl rfl ?_
  refine j_arg (C.kW _) (hs.kW _) (k := 1) dL_law_1081 dL_law_1082 dL_law_1083 dL_law_1084 dL_law_1085 rfl (by omega) rfl rfl ?_
  refine j_arg (C.kW _) (hs.kW _) (k := 2) dL_law_1086 dL_law_1087 dL_law_1088 dL_law_1089 dL_law_1090 rfl (by omega) rfl rfl ?_
  refine j_arg (C.kW _) (hs.kW _) (k := 3) dL_law_1091 dL_law_1092 dL_law_1093 dL_law_1094 dL_law_1095 rfl (by omega) rfl rfl ?_
  refine j_arg (C.kW _) (hs.kW _) (k := 4) dL_law_1096 dL_law_1097 dL_law_1098 dL_law_1099 dL_law_1100 rfl (by omega) rfl rfl ?_
  obtain ⟨M1, e1, g1⟩ := X_suits hS hx.2.1 (xs (i + 1)) (xs (i + 2)) (xs (i + 3)) (xs (i + 4))
  refine j_known e1 (j_callV_iw (st := []) (C.kW _) dL_law_1101 (ct_X5_suits _ Ex Mx Lx (xs (i + 1)) (xs (i + 2)) (xs (i + 3)) (xs (i + 4)) hx.1) mi_X5_suits tw_783 FC5 hx.1.S rfl rfl (Nat.le_of_ble_eq_true rfl) ⟨⟨rfl, rfl⟩, ⟨Nat.le_of_ble_eq_true rfl, Nat.le_of_ble_eq_true rfl⟩, hc0⟩ (fun v => j_at (fun hv => ?_)))
  subst hv
  dsimp only
  refine j_swap ?_
  refine j_aload_n (C.kW _) dL_law_1104 rfl rfl ?_
  refine j_arg (C.kW _) (hs.kW _) (k := 1) dL_law_1105 dL_law_1106 dL_law_1107 dL_law_1108 dL_law_1109 rfl (by omega) rfl rfl ?_
  refine j_arg (C.kW _) (hs.kW _) (k := 2) dL_law_1110 dL_law_1111 dL_law_1112 dL_law_1113 dL_law_1114 rfl (by omega) rfl rfl ?_
  refine j_arg (C.kW _) (hs.kW _) (k := 3) dL_law_1115 dL_law_1116 dL_law_1117 dL_law_1118 dL_law_1119 rfl (by omega) rfl rfl ?_
  refine j_arg (C.kW _) (hs.kW _) (k := 4) dL_law_1120 dL_law_1121 dL_law_1122 dL_law_1123 dL_law_1124 rfl (by omega) rfl rfl ?_
  obtain ⟨R1, f1, g2⟩ := Y_suits hS hy.2 (xs (i + 1)) (xs (i + 2)) (xs (i + 3)) (xs (i + 4))
  refine j_known f1 (j_callV_iw (st := [.int ((s_suits σ (xs (i + 1)) (xs (i + 2)) (xs (i + 3)) (xs (i + 4))).1)]) (C.kW _) dL_law_1125 (ct_X6_suits _ Em Mm Lm (xs (i + 1)) (xs (i + 2)) (xs (i + 3)) (xs (i + 4)) hy.1) mi_X6_suits tw_1376 FC6 hy.1.S rfl rfl (Nat.le_of_ble_eq_true rfl) ⟨⟨rfl, rfl⟩, ⟨Nat.le_of_ble_eq_true rfl, Nat.le_of_ble_eq_true rfl⟩, hc0⟩ (fun v => j_at (fun hv => ?_)))
  subst hv
  dsimp only
  refine j_swap ?_
  refine j_take (c := (s_suits σ (xs (i + 1)) (xs (i + 2)) (xs (i + 3)) (xs (i + 4))).1 = (s_suits σ (xs (i + 1)) (xs (i + 2)) (xs (i + 3)) (xs (i + 4))).1) rfl (j_icmp_eq (tgt := 1166) (C.kW _) dL_law_1128 (by decide) ?_ jf_none)
  refine j_widen (cn' := cn + 2) (sn' := sn + 163) (by omega) (by omega) ?_
  exact kk _ _ _ _ _ _ ((s_suits σ (xs (i + 1)) (xs (i + 2)) (xs (i + 3)) (xs (i + 4))).2, σ.2) (⟨hx.1, g1, hx.2.2⟩) (⟨hy.1, g2⟩) ((Ws_suits hS (xs (i + 1)) (xs (i + 2)) (xs (i + 3)) (xs (i + 4)))) rfl rfl
set_option maxRecDepth 100000 in
set_option maxHeartbeats 4000000 in
theorem lc_taken (h : LQ κ b N i cn sn xs Ex Em Mx Mm Lx Lm σ) (kk : LD κ P b i cn sn Ex Em) : JX κ P 1133 b i Ex Mx Lx Em Mm Lm cn sn := by
  obtain ⟨C, hs, hi, hx, hy, hS, hc⟩ := h
  have hc0 : cn + 0 ≤ room_1.cells ∧ sn + 0 ≤ room_1.slots := ⟨by have := hc.1; omega, by have := hc.2; omega⟩
  have hm : aM (uA σ) < 2 ^ 30 := by have := hS.2.1; omega
  refine j_aload_n (C.kW _) dL_law_1133 rfl rfl ?_
  refine j_arg (C.kW _) (hs.kW _) (k := 1) dL_law_1134 dL_law_1135 dL_law_1136 dL_law_1137 dL_law_1138 rfl (by omega) rfl rfl ?_
  refine j_arg (C.kW _) (hs.kW _) (k := 2) dL_law_1139 dL_law_1140 dL_law_1141 dL_law_1142 dL_law_1143 rfl (by omega) rfl rfl ?_
  refine j_known (X_taken hS.1 hx.2.1.1 (xs (i + 1)) (xs (i + 2))) (j_callV_i (st := []) (C.kW _) dL_law_1144 (ct_X5_taken _ Ex Mx Lx (xs (i + 1)) (xs (i + 2)) hx.1) mi_X5_taken tw_788 FC5 hx.1.S rfl rfl (Nat.le_of_ble_eq_true rfl) ⟨⟨rfl, rfl⟩, ⟨Nat.le_of_ble_eq_true rfl, Nat.le_of_ble_eq_true rfl⟩, hc0⟩ (fun v => j_at (fun hv => ?_)))
  subst hv
  refine j_swap ?_
  refine j_aload_n (C.kW _) dL_law_1147 rfl rfl ?_
  refine j_arg (C.kW _) (hs.kW _) (k := 1) dL_law_1148 dL_law_1149 dL_law_1150 dL_law_1151 dL_law_1152 rfl (by omega) rfl rfl ?_
  refine j_arg (C.kW _) (hs.kW _) (k := 2) dL_law_1153 dL_law_1154 dL_law_1155 dL_law_1156 dL_law_1157 rfl (by omega) rfl rfl ?_
  refine j_known (Y_taken hS.1 hy.2.1 (xs (i + 1)) (xs (i + 2))) (j_callV_i (st := [.int (s_taken (uA σ) (xs (i + 1)) (xs (i + 2)))]) (C.kW _) dL_law_1158 (ct_X6_taken _ Em Mm Lm (xs (i + 1)) (xs (i + 2)) hy.1) mi_X6_taken tw_1381 FC6 hy.1.S rfl rfl (Nat.le_of_ble_eq_true rfl) ⟨⟨rfl, rfl⟩, ⟨Nat.le_of_ble_eq_true rfl, Nat.le_of_ble_eq_true rfl⟩, hc0⟩ (fun v => j_at (fun hv => ?_)))
  subst hv
  refine j_swap ?_
  refine j_take (c := s_taken (uA σ) (xs (i + 1)) (xs (i + 2)) = s_taken (uA σ) (xs (i + 1)) (xs (i + 2))) rfl (j_icmp_eq (tgt := 1166) (C.kW _) dL_law_1161 (by decide) ?_ jf_none)
  refine j_widen (cn' := cn + 2) (sn' := sn + 163) (by omega) (by omega) ?_
  exact kk _ _ _ _ _ _ σ (hx) (hy) (hS) rfl rfl
end LC
