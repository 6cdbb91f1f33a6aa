/-! PURE: how many bits are set: class and reference -/
def pcn : Nat → Nat → Nat
  | 0, _ => 0
  | k + 1, x => x % 2 + pcn k (x / 2)
theorem and_m2 (a b : Nat) : (a &&& b) % 2 = (a % 2) &&& (b % 2) := Nat.and_mod_two_pow (n := 1)
theorem kern : ∀ (k x : Nat), 0 < x → x < 2 ^ k → pcn k (x &&& (x - 1)) + 1 = pcn k x := by
  intro k
  induction k with
  | zero => intro x h1 h2; simp at h2; omega
  | succ k ih =>
    intro x h1 h2
    rw [pcn, pcn, and_m2, Nat.and_div_two]
    rcases Nat.mod_two_eq_zero_or_one x with h | h
    · have e1 : (x - 1) / 2 = x / 2 - 1 := by omega
      rw [h, e1]
      have := ih (x / 2) (by omega) (by omega)
      simp; omega
    · have e1 : (x - 1) / 2 = x / 2 := by omega
      have e2 : (x - 1) % 2 = 0 := by omega
      rw [h, e1, e2, Nat.and_self]
      simp; omega
def mk (c : Nat) : Nat → Nat
  | 0 => 0
  | k + 1 => c + 256 * mk c k
theorem and_256 (a c m : Nat) (hc : c < 256) : a &&& (c + 256 * m) = (a % 256 &&& c) + 256 * (a / 256 &&& m) := by
  have h1 : (a &&& (c + 256 * m)) % 256 = a % 256 &&& c := by
    have := Nat.and_mod_two_pow (a := a) (b := c + 256 * m) (n := 8)
    simp only [show 2 ^ 8 = 256 from rfl] at this
    rw [this]; congr 1; omega
  have h2 : (a &&& (c + 256 * m)) / 256 = a / 256 &&& m := by
    have := Nat.and_div_two_pow (a := a) (b := c + 256 * m) (n := 8)
    simp only [show 2 ^ 8 = 256 from rfl] at this
    rw [this]; congr 1; omega
  omega
def B8 : Nat → Nat → Nat
  | 0, _ => 0
  | k + 1, x => pcn 8 (x % 256) + 256 * B8 k (x / 256)
def t1 (x k : Nat) : Nat := x - (x / 2 &&& mk 85 k)
def t2 (x k : Nat) : Nat := (x &&& mk 51 k) + (x / 4 &&& mk 51 k)
def t3 (x k : Nat) : Nat := (x + x / 16) &&& mk 15 k
def u1 (b : Nat) : Nat := b - (b / 2 &&& 85)
def u2 (b : Nat) : Nat := (b &&& 51) + (b / 4 &&& 51)
def u3 (b : Nat) : Nat := (b + b / 16) &&& 15
theorem u_byte : ∀ b, b < 256 → u3 (u2 (u1 b)) = pcn 8 b ∧ u1 b < 256 ∧ u2 (u1 b) ≤ 68 ∧ u2 (u1 b) % 16 ≤ 4 ∧ (b / 2 &&& 85) ≤ b ∧ pcn 8 b ≤ 8 := by decide +kernel
theorem m55 : ∀ b, b < 256 → ∀ c, c < 2 → (b / 2 + 128 * c) &&& 85 = b / 2 &&& 85 := by decide +kernel
theorem m33 : ∀ b, b < 256 → ∀ c, c < 4 → (b / 4 + 64 * c) &&& 51 = b / 4 &&& 51 := by decide +kernel
theorem m0f : ∀ b, b < 69 → ∀ c, c < 5 → (b + b / 16 + 16 * c) &&& 15 = (b + b / 16) &&& 15 := by decide +kernel
theorem t1_le (x k : Nat) : x / 2 &&& mk 85 k ≤ x := Nat.le_trans Nat.and_le_left (Nat.div_le_self _ _)
theorem t1_s (x k : Nat) : t1 x (k + 1) = u1 (x % 256) + 256 * t1 (x / 256) k := by
  unfold t1 u1
  rw [mk, and_256 _ _ _ (by decide)]
  have e1 : x / 2 % 256 = x % 256 / 2 + 128 * (x / 256 % 2) := by omega
  rw [e1, m55 _ (Nat.mod_lt _ (by decide)) _ (Nat.mod_lt _ (by decide)), show x / 2 / 256 = x / 256 / 2 by omega]
  have := (u_byte (x % 256) (Nat.mod_lt _ (by decide))).2.2.2.2.1
  have := t1_le (x / 256) k
  omega
theorem t2_s (x k : Nat) : t2 x (k + 1) = u2 (x % 256) + 256 * t2 (x / 256) k := by
  unfold t2 u2
  rw [mk, and_256 _ _ _ (by decide), and_256 _ _ _ (by decide)]
  have e1 : x / 4 % 256 = x % 256 / 4 + 64 * (x / 256 % 4) := by omega
  rw [e1, m33 _ (Nat.mod_lt _ (by decide)) _ (Nat.mod_lt _ (by decide)), show x / 4 / 256 = x / 256 / 4 by omega]
  omega
theorem t3_s (x k : Nat) (h : x % 256 ≤ 68) (h2 : x / 256 % 16 ≤ 4) : t3 x (k + 1) = u3 (x % 256) + 256 * t3 (x / 256) k := by
  unfold t3 u3
  rw [mk, and_256 _ _ _ (by decide)]
  have e1 : (x + x / 16) % 256 = x % 256 + x % 256 / 16 + 16 * (x / 256 % 16) := by omega
  have e2 : (x + x / 16) / 256 = x / 256 + x / 256 / 16 := by omega
  rw [e1, m0f _ (by omega) _ (by omega), e2]
def T (x k : Nat) : Nat := t3 (t2 (t1 x k) k) k
theorem T_B (k : Nat) : ∀ x, x < 256 ^ k → T x k = B8 k x ∧ t2 (t1 x k) k % 16 ≤ 4 := by
  induction k with
  | zero => intro x h; refine ⟨?_, ?_⟩ <;> simp [T, t1, t2, t3, mk, B8] <;> omega
  | succ k ih =>
    intro x h
    obtain ⟨i1, i2⟩ := ih (x / 256) (by rw [Nat.pow_succ] at h; omega)
    obtain ⟨b1, b2, b3, b4, b5, b6⟩ := u_byte (x % 256) (Nat.mod_lt _ (by decide))
    have e1 : t2 (t1 x (k + 1)) (k + 1) = u2 (u1 (x % 256)) + 256 * t2 (t1 (x / 256) k) k := by
      rw [t1_s, t2_s, show (u1 (x % 256) + 256 * t1 (x / 256) k) % 256 = u1 (x % 256) by omega, show (u1 (x % 256) + 256 * t1 (x / 256) k) / 256 = t1 (x / 256) k by omega]
    refine ⟨?_, by rw [e1]; omega⟩
    unfold T at i1 ⊢
    rw [e1]
    generalize hA : u2 (u1 (x % 256)) = A at *
    generalize hB : t2 (t1 (x / 256) k) k = Bv at *
    have ea : (A + 256 * Bv) % 256 = A := by omega
    have eb : (A + 256 * Bv) / 256 = Bv := by omega
    rw [t3_s _ _ (by omega) (by omega), ea, eb, i1, b1, B8]
theorem pcn_8 (k x : Nat) : pcn (k + 8) x = pcn 8 (x % 256) + pcn k (x / 256) := by
  simp only [pcn, Nat.div_div_eq_div_mul, Nat.reduceMul]
  omega
theorem pcn8_le (b : Nat) : pcn 8 b ≤ 8 := by
  simp only [pcn, Nat.div_div_eq_div_mul, Nat.reduceMul]; omega
def vN (x : Int64) : Nat := x.toUInt64.toNat
theorem vN_lt (x : Int64) : vN x < 2 ^ 64 := x.toUInt64.toNat_lt
theorem vN_and (x y : Int64) : vN (x &&& y) = vN x &&& vN y := by unfold vN; simp
theorem vN_sub {x y : Int64} (h : vN y ≤ vN x) : vN (x - y) = vN x - vN y := by
  unfold vN at h ⊢
  rw [Int64.toUInt64_sub, UInt64.toNat_sub_of_le _ _ (UInt64.le_iff_toNat_le.mpr h)]
theorem vN_add {x y : Int64} (h : vN x + vN y < 2 ^ 64) : vN (x + y) = vN x + vN y := by
  unfold vN at h ⊢
  rw [Int64.toUInt64_add, UInt64.toNat_add, Nat.mod_eq_of_lt h]
theorem vN_shr (x : Int64) (s : Int32) {k : Nat} (hs : (s.toInt64.toUInt64 &&& Int64.toUInt64 63).toNat = k) (hk : k < 64) : vN (lushr x s) = vN x / 2 ^ k := by
  unfold vN lushr
  rw [UInt64.toUInt64_toInt64, UInt64.toNat_shiftRight, hs, Nat.mod_eq_of_lt hk, Nat.shiftRight_eq_div_pow]
theorem vN_zero (x : Int64) : x = 0 ↔ vN x = 0 := by
  constructor
  · intro h; rw [h]; rfl
  · intro h
    have : x.toUInt64 = 0 := UInt64.toNat_inj.mp h
    have h2 := congrArg UInt64.toInt64 this
    simpa using h2
theorem vN_127 (x : Int64) : Int64.toInt32 x &&& 127 = nI (vN x % 128) := by
  have h1 : (Int64.toInt32 x).toBitVec.toNat = vN x % 2 ^ 32 := by
    show (x.toBitVec.signExtend 32).toNat = _
    rw [BitVec.signExtend_eq_setWidth_of_le _ (by decide), BitVec.toNat_setWidth]
    rfl
  apply Int32.toBitVec_inj.mp
  apply BitVec.eq_of_toNat_eq
  rw [Int32.toBitVec_and, BitVec.toNat_and, h1, show (127 : Int32).toBitVec.toNat = 2 ^ 7 - 1 from rfl, Nat.and_two_pow_sub_one_eq_mod]
  show _ = (BitVec.ofNat 32 (vN x % 128)).toNat
  rw [BitVec.toNat_ofNat]
  omega
theorem dvq {c K : Nat} (h : c < 256) : (c + 256 * K) / 256 = K := by omega
theorem ad (a b K J : Nat) : (a + 256 * K) + (b + 256 * J) = (a + b) + 256 * (K + J) := by omega
theorem sum8 (c0 c1 c2 c3 c4 c5 c6 c7 z w y : Nat) (h0 : c0 ≤ 8) (h1 : c1 ≤ 8) (h2 : c2 ≤ 8) (h3 : c3 ≤ 8) (h4 : c4 ≤ 8) (h5 : c5 ≤ 8) (h6 : c6 ≤ 8) (h7 : c7 ≤ 8)
    (hz : z = c0 + 256 * (c1 + 256 * (c2 + 256 * (c3 + 256 * (c4 + 256 * (c5 + 256 * (c6 + 256 * (c7 + 256 * 0)))))))) (hw : w = z + z / 256) (hy : y = w + w / 256 / 256) : (y + y / 256 / 256 / 256 / 256) % 128 = c0 + c1 + c2 + c3 + c4 + c5 + c6 + c7 := by
  have e1 : z / 256 = c1 + 256 * (c2 + 256 * (c3 + 256 * (c4 + 256 * (c5 + 256 * (c6 + 256 * (c7 + 256 * 0)))))) := by rw [hz]; exact dvq (by omega)
  rw [e1, hz, ad, ad, ad, ad, ad, ad, ad] at hw
  have e2 : w / 256 / 256 = (c2 + c3) + 256 * ((c3 + c4) + 256 * ((c4 + c5) + 256 * ((c5 + c6) + 256 * ((c6 + c7) + 256 * (c7 + 256 * 0 + 0))))) := by
    rw [hw, dvq (by omega), dvq (by omega)]
  rw [e2, hw, ad, ad, ad, ad, ad] at hy
  have e3 : ∃ R, y / 256 / 256 / 256 / 256 = (c4 + c5 + (c6 + c7)) + 256 * R := ⟨_, by rw [hy, dvq (by omega), dvq (by omega), dvq (by omega), dvq (by omega)]⟩
  have e4 : ∃ K, y = (c0 + c1 + (c2 + c3)) + 256 * K := ⟨_, hy⟩
  obtain ⟨R, e3⟩ := e3
  obtain ⟨K, e4⟩ := e4
  rw [e3, e4]
  clear e1 e2 e3 e4 hw hy hz
  omega
theorem F_bitCount (x : Int64) : F_J13_bitCount_95d88 x = some (nI (pcn 64 (vN x))) := by
  unfold F_J13_bitCount_95d88
  simp only [Option.bind_some]
  refine congrArg some ?_
  have hX := vN_lt x
  obtain ⟨hT, -⟩ := T_B 8 (vN x) (by rw [show 256 ^ 8 = 2 ^ 64 from rfl]; exact hX)
  generalize h9 : x - (lushr x 1 &&& 6148914691236517205) = z9
  have v9 : vN z9 = t1 (vN x) 8 := by
    rw [← h9, vN_sub, vN_and, vN_shr x 1 (k := 1) (by decide) (by decide)]; rfl
    rw [vN_and, vN_shr x 1 (k := 1) (by decide) (by decide)]
    exact Nat.le_trans Nat.and_le_left (Nat.div_le_self _ _)
  generalize h23 : (z9 &&& 3689348814741910323) + (lushr z9 2 &&& 3689348814741910323) = z23
  have a1 : vN z9 &&& 3689348814741910323 ≤ 3689348814741910323 := Nat.and_le_right
  have a2 : vN z9 / 2 ^ 2 &&& 3689348814741910323 ≤ 3689348814741910323 := Nat.and_le_right
  have w23 : vN z23 = (vN z9 &&& 3689348814741910323) + (vN z9 / 2 ^ 2 &&& 3689348814741910323) := by
    have e1 : vN (z9 &&& 3689348814741910323) = vN z9 &&& 3689348814741910323 := vN_and _ _
    have e2 : vN (lushr z9 2 &&& 3689348814741910323) = vN z9 / 2 ^ 2 &&& 3689348814741910323 := by
      rw [vN_and, vN_shr z9 2 (k := 2) (by decide) (by decide)]; rfl
    rw [← h23, vN_add, e1, e2]
    rw [e1, e2]; omega
  have v23 : vN z23 = t2 (vN z9) 8 := w23
  generalize h33 : (z23 + lushr z23 4) &&& 1085102592571150095 = z33
  have v33 : vN z33 = t3 (vN z23) 8 := by
    have e1 : vN (lushr z23 4) = vN z23 / 2 ^ 4 := vN_shr z23 4 (k := 4) (by decide) (by decide)
    rw [← h33, vN_and, vN_add, e1]; rfl
    rw [e1]; omega
  have v33 : vN z33 = B8 8 (vN x) := by rw [v33, v23, v9]; exact hT
  have hp : pcn 64 (vN x) = _ := pcn_8 56 (vN x)
  rw [pcn_8 48, pcn_8 40, pcn_8 32, pcn_8 24, pcn_8 16, pcn_8 8] at hp
  simp only [B8] at v33
  have sm := sum8 _ _ _ _ _ _ _ _ (vN z33) _ _ (pcn8_le _) (pcn8_le _) (pcn8_le _) (pcn8_le _) (pcn8_le _) (pcn8_le _) (pcn8_le _) (pcn8_le _) v33 rfl rfl
  have hm : vN z33 ≤ 1085102592571150095 := by rw [← h33, vN_and]; exact Nat.and_le_right
  have e1 : vN (lushr z33 8) = vN z33 / 256 := vN_shr z33 8 (k := 8) (by decide) (by decide)
  have sum : (vN z33 + vN z33 / 256 + (vN z33 + vN z33 / 256) / 256 / 256 + (vN z33 + vN z33 / 256 + (vN z33 + vN z33 / 256) / 256 / 256) / 256 / 256 / 256 / 256) % 128 = pcn 64 (vN x) := by rw [sm, hp, Nat.mod_eq_of_lt (show vN x / 256 / 256 / 256 / 256 / 256 / 256 / 256 < 256 by clear sm hp v33 hT v9 v23 w23; omega)]; simp only [Nat.add_assoc, Nat.add_zero]
  clear sm hp v33 hT
  generalize pcn 64 (vN x) = PC at *
  generalize hA : vN z33 = A at *
  have e2 : vN (z33 + lushr z33 8) = A + A / 256 := by rw [vN_add, e1, hA]; rw [e1, hA]; omega
  generalize h40 : z33 + lushr z33 8 = z40 at *
  have e3 : vN (lushr z40 16) = (A + A / 256) / 256 / 256 := by rw [vN_shr z40 16 (k := 16) (by decide) (by decide), e2, Nat.div_div_eq_div_mul]
  have e4 : vN (z40 + lushr z40 16) = A + A / 256 + (A + A / 256) / 256 / 256 := by rw [vN_add, e3, e2]; rw [e3, e2]; omega
  generalize h47 : z40 + lushr z40 16 = z47 at *
  have e5 : vN (lushr z47 32) = (A + A / 256 + (A + A / 256) / 256 / 256) / 256 / 256 / 256 / 256 := by
    rw [vN_shr z47 32 (k := 32) (by decide) (by decide), e4]
    generalize A + A / 256 + (A + A / 256) / 256 / 256 = Q
    omega
  rw [vN_127, vN_add, e5, e4, sum]
  rw [e5, e4]; omega
theorem lg_eq0' (x : Int64) : lg_cmp x 0 = 0 ↔ vN x = 0 := by rw [lg_eq0, vN_zero]
theorem bits_loop : ∀ (m k : Nat) (x : Int64), pcn 64 (vN x) < m → F_X6_bitsOf_k4 m (nI k) x = some (nI (k + pcn 64 (vN x))) := by
  intro m
  induction m with
  | zero => intro k x h; omega
  | succ m ih =>
    intro k x h
    rw [F_X6_bitsOf_k4]
    by_cases h0 : vN x = 0
    · rw [if_pos ((lg_eq0' x).mpr h0), h0]; rfl
    · rw [if_neg (fun e => h0 ((lg_eq0' x).mp e))]
      have e1 : vN (x - 1) = vN x - 1 := by rw [vN_sub]; rfl; show 1 ≤ vN x; omega
      have e2 : vN (x &&& (x - 1)) = vN x &&& (vN x - 1) := by rw [vN_and, e1]
      have hk := kern 64 (vN x) (by omega) (vN_lt x)
      rw [e2.symm] at hk
      have g1 : pcn 64 (vN (x &&& (x - 1))) < m := by
        generalize pcn 64 (vN (x &&& (x - 1))) = A at *
        generalize pcn 64 (vN x) = B at *
        omega
      have g2 : k + 1 + pcn 64 (vN (x &&& (x - 1))) = k + pcn 64 (vN x) := by
        generalize pcn 64 (vN (x &&& (x - 1))) = A at *
        generalize pcn 64 (vN x) = B at *
        omega
      rw [nI_1, ih (k + 1) _ g1, g2]
theorem pcn_le : ∀ (k x : Nat), pcn k x ≤ k
  | 0, _ => Nat.le_refl _
  | k + 1, x => by have := pcn_le k (x / 2); rw [pcn]; omega
theorem F_bitsOf (x : Int64) : F_X6_bitsOf x = some (nI (pcn 64 (vN x))) := by
  unfold F_X6_bitsOf
  have := bits_loop FU 0 x (by have := pcn_le 64 (vN x); unfold FU; omega)
  rw [Nat.zero_add] at this
  exact this
theorem F_bits_same (x : Int64) : F_J13_bitCount_95d88 x = F_X6_bitsOf x := by rw [F_bitCount, F_bitsOf]
