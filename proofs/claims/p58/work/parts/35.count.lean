/-! ===== the count of the bits ===== -/
def mk8 (b : Nat) : Nat → Nat
  | 0 => 0
  | n + 1 => 256 * mk8 b n + b
theorem and256 (a c d e : Nat) (hc : c < 256) (he : e < 256) : (256 * a + c) &&& (256 * d + e) = 256 * (a &&& d) + (c &&& e) := by
  have h1 : ((256 * a + c) &&& (256 * d + e)) / 256 = a &&& d := by
    have := Nat.and_div_two_pow (a := 256 * a + c) (b := 256 * d + e) (n := 8)
    rw [show (2 : Nat) ^ 8 = 256 from rfl] at this
    rw [this, show (256 * a + c) / 256 = a by omega, show (256 * d + e) / 256 = d by omega]
  have h2 : ((256 * a + c) &&& (256 * d + e)) % 256 = c &&& e := by
    have := Nat.and_mod_two_pow (a := 256 * a + c) (b := 256 * d + e) (n := 8)
    rw [show (2 : Nat) ^ 8 = 256 from rfl] at this
    rw [this, show (256 * a + c) % 256 = c by omega, show (256 * d + e) % 256 = e by omega]
  omega
def pp (b : Nat) : Nat := fb_ct b.testBit 8
theorem b8_1 : ∀ r, r < 2 → ∀ b, b < 256 → (128 * r + b / 2) &&& 85 = (b / 2) &&& 85 := by decide +kernel
theorem b8_2 : ∀ b, b < 256 → (b / 2) &&& 85 ≤ b := fun b _ => Nat.le_trans Nat.and_le_left (Nat.div_le_self _ _)
theorem b8_3 : ∀ r, r < 4 → ∀ b, b < 256 → (64 * r + b / 4) &&& 51 = (b / 4) &&& 51 := by decide +kernel
def g8 (b : Nat) : Nat := (b - ((b / 2) &&& 85))
def h8 (b : Nat) : Nat := (g8 b &&& 51) + ((g8 b / 4) &&& 51)
theorem b8_4 : ∀ b, b < 256 → g8 b < 256 ∧ h8 b < 120 ∧ h8 b % 16 ≤ 4 ∧ pp b ≤ 8 := by decide +kernel
theorem b8_5 : ∀ r, r < 5 → ∀ b, b < 256 → 16 * r + h8 b + h8 b / 16 < 256 ∧ (16 * r + h8 b + h8 b / 16) &&& 15 = pp b := by decide +kernel
def sp8 : Nat → Nat → Nat
  | 0, _ => 0
  | n + 1, X => 256 * sp8 n (X / 256) + pp (X % 256)
def A8 (n X : Nat) : Nat := X - ((X / 2) &&& mk8 85 n)
def B8 (n X : Nat) : Nat := (A8 n X &&& mk8 51 n) + ((A8 n X / 4) &&& mk8 51 n)
def C8 (n X : Nat) : Nat := (B8 n X + B8 n X / 16) &&& mk8 15 n
theorem mk8_s (b n : Nat) : mk8 b (n + 1) = 256 * mk8 b n + b := rfl
theorem A8_succ (n X : Nat) : A8 (n + 1) X = 256 * A8 n (X / 256) + g8 (X % 256) := by
  unfold A8
  rw [mk8_s]
  have h1 : X / 2 = 256 * (X / 256 / 2) + (128 * (X / 256 % 2) + X % 256 / 2) := by omega
  rw [h1, and256 _ _ _ _ (by omega) (by decide), b8_1 _ (Nat.mod_lt _ (by decide)) _ (Nat.mod_lt _ (by decide))]
  have h2 := b8_2 (X % 256) (Nat.mod_lt _ (by decide))
  have h3 : (X / 256 / 2) &&& mk8 85 n ≤ X / 256 := Nat.le_trans Nat.and_le_left (Nat.div_le_self _ _)
  unfold g8
  omega
theorem B8_succ (n X : Nat) : B8 (n + 1) X = 256 * B8 n (X / 256) + h8 (X % 256) := by
  unfold B8
  have hb : X % 256 < 256 := Nat.mod_lt _ (by decide)
  rw [A8_succ]
  have h4 := (b8_4 _ hb).1
  unfold h8
  generalize A8 n (X / 256) = A at *
  generalize g8 (X % 256) = g at *
  have h1 : (256 * A + g) / 4 = 256 * (A / 4) + (64 * (A % 4) + g / 4) := by omega
  rw [mk8_s, and256 _ _ _ _ h4 (by decide), h1, and256 _ _ _ _ (by omega) (by decide), b8_3 _ (Nat.mod_lt _ (by decide)) _ h4]
  omega
theorem B8_mod (n X : Nat) : B8 n X % 16 ≤ 4 := by
  cases n with
  | zero => unfold B8 mk8; simp
  | succ n =>
    rw [B8_succ]
    have := (b8_4 _ (Nat.mod_lt X (show 0 < 256 by decide))).2.2.1
    omega
theorem C8_succ (n X : Nat) : C8 (n + 1) X = 256 * C8 n (X / 256) + pp (X % 256) := by
  have hb : X % 256 < 256 := Nat.mod_lt _ (by decide)
  have h5 := b8_5 (B8 n (X / 256) % 16) (by have := B8_mod n (X / 256); omega) _ hb
  unfold C8
  rw [B8_succ]
  generalize B8 n (X / 256) = B at *
  generalize h8 (X % 256) = g at *
  have h1 : 256 * B + g + (256 * B + g) / 16 = 256 * (B + B / 16) + (16 * (B % 16) + g + g / 16) := by omega
  rw [h1, mk8_s, and256 _ _ _ _ h5.1 (by decide), h5.2]
theorem C8_sp : ∀ n X, C8 n X = sp8 n X
  | 0, X => by unfold C8 sp8 mk8; simp
  | n + 1, X => by rw [C8_succ, C8_sp n, sp8]
theorem ct_byte (X n : Nat) : fb_ct X.testBit (8 + n) = pp (X % 256) + fb_ct (X / 256).testBit n := by
  rw [fb_ct_split]
  congr 1
  · unfold pp
    refine fb_ct_cong fun k hk => ?_
    rw [show (256 : Nat) = 2 ^ 8 from rfl, Nat.testBit_mod_two_pow]
    simp [hk]
  · refine fb_ct_cong fun k hk => ?_
    rw [show (256 : Nat) = 2 ^ 8 from rfl, Nat.testBit_div_two_pow]
    congr 1
    omega
theorem sum8 {p0 p1 p2 p3 p4 p5 p6 p7 M0 M1 M2 M3 M4 M5 M6 M7 x4 x5 x6 : Nat} (h0 : p0 ≤ 8) (h1 : p1 ≤ 8) (h2 : p2 ≤ 8) (h3 : p3 ≤ 8) (h4 : p4 ≤ 8) (h5 : p5 ≤ 8) (h6 : p6 ≤ 8) (h7 : p7 ≤ 8)
    (e0 : M0 = p0 + 256 * M1) (e1 : M1 = p1 + 256 * M2) (e2 : M2 = p2 + 256 * M3) (e3 : M3 = p3 + 256 * M4) (f4 : M4 = p4 + 256 * M5) (f5 : M5 = p5 + 256 * M6) (f6 : M6 = p6 + 256 * M7) (f7 : M7 = p7)
    (e4 : x4 = M0 + M0 / 256) (e5 : x5 = x4 + x4 / 65536) (e6 : x6 = x5 + x5 / 4294967296) : x6 % 128 = p0 + p1 + p2 + p3 + p4 + p5 + p6 + p7 := by
  have a1 : M0 / 256 = M1 := by clear e1 e2 e3 f4 f5 f6 f7 e4 e5 e6; omega
  have a2 : x4 = (p0 + p1) + 256 * (p1 + p2) + 65536 * (M2 + M3) := by rw [e4, a1, e0, e1, e2]; clear e0 e1 e2 e3 f4 f5 f6 f7 e4 e5 e6 a1; omega
  have a3 : x4 / 65536 = M2 + M3 := by rw [a2]; clear e0 e1 e2 e3 f4 f5 f6 f7 e4 e5 e6 a1 a2; omega
  have a4 : M4 + M5 + M6 + M7 = M4 + M5 + M6 + M7 := rfl
  have a5 : x5 = (p0 + p1 + p2 + p3) + 256 * (p1 + p2 + p3 + p4) + 65536 * (p2 + p3 + p4 + p5) + 16777216 * (p3 + p4 + p5 + p6) + 4294967296 * (M4 + M5 + M6 + M7) := by
    rw [e5, a3, a2, e2, e3, f4, f5, f6]; clear e0 e1 e2 e3 f4 f5 f6 f7 e4 e5 e6 a1 a2 a3 a4; omega
  have a6 : x5 / 4294967296 = M4 + M5 + M6 + M7 := by rw [a5]; clear e0 e1 e2 e3 f4 f5 f6 f7 e4 e5 e6 a1 a2 a3 a4 a5; omega
  have a7 : x6 = (p0 + p1 + p2 + p3 + p4 + p5 + p6 + p7) + 128 * (2 * (p1 + p2 + p3 + p4 + M5 + M6 + M7) + 512 * (p2 + p3 + p4 + p5) + 131072 * (p3 + p4 + p5 + p6) + 33554432 * (M4 + M5 + M6 + M7)) := by
    rw [e6, a6, a5]; clear e0 e1 e2 e3 e4 e5 e6 a1 a2 a3 a4 a5 a6; omega
  rw [a7]; clear e0 e1 e2 e3 f4 f5 f6 f7 e4 e5 e6 a1 a2 a3 a4 a5 a6 a7; omega
theorem ct_64 (X : Nat) (x4 x5 x6 : Nat) (e4 : x4 = C8 8 X + C8 8 X / 256) (e5 : x5 = x4 + x4 / 65536) (e6 : x6 = x5 + x5 / 4294967296) : x6 % 128 = fb_ct X.testBit 64 := by
  have k : ∀ Y, pp (Y % 256) ≤ 8 := fun Y => (b8_4 _ (Nat.mod_lt _ (by decide))).2.2.2
  rw [show 64 = 8 + 56 from rfl, ct_byte, show 56 = 8 + 48 from rfl, ct_byte, show 48 = 8 + 40 from rfl, ct_byte, show 40 = 8 + 32 from rfl, ct_byte, show 32 = 8 + 24 from rfl, ct_byte, show 24 = 8 + 16 from rfl, ct_byte, show 16 = 8 + 8 from rfl, ct_byte, show 8 = 8 + 0 from rfl, ct_byte]
  rw [C8_sp] at e4
  have e := sum8 (M0 := sp8 8 X) (M1 := sp8 7 (X / 256)) (M2 := sp8 6 (X / 256 / 256)) (M3 := sp8 5 (X / 256 / 256 / 256)) (M4 := sp8 4 (X / 256 / 256 / 256 / 256)) (M5 := sp8 3 (X / 256 / 256 / 256 / 256 / 256)) (M6 := sp8 2 (X / 256 / 256 / 256 / 256 / 256 / 256)) (M7 := sp8 1 (X / 256 / 256 / 256 / 256 / 256 / 256 / 256)) (k X) (k (X / 256)) (k (X / 256 / 256)) (k (X / 256 / 256 / 256)) (k (X / 256 / 256 / 256 / 256)) (k (X / 256 / 256 / 256 / 256 / 256)) (k (X / 256 / 256 / 256 / 256 / 256 / 256)) (k (X / 256 / 256 / 256 / 256 / 256 / 256 / 256)) (by rw [sp8]; omega) (by rw [sp8]; omega) (by rw [sp8]; omega) (by rw [sp8]; omega) (by rw [sp8]; omega) (by rw [sp8]; omega) (by rw [sp8]; omega) (by rw [sp8, sp8]; omega) e4 e5 e6
  rw [e]
  simp only [fb_ct]
  omega
theorem s_J13_bitCount (x : Int64) (h : tq_H) : f_J13_bitCount_95d88 x h = some (nI (fb_ct (tb x) 64)) := by
  obtain ⟨X, hX, rfl⟩ := wb_of x
  have hc : fb_ct (tb (lN X)) 64 = fb_ct X.testBit 64 := fb_ct_cong fun k _ => tb_lN_lt hX k
  rw [hc]
  unfold f_J13_bitCount_95d88 tq_let
  have l1 : (6148914691236517205 : Int64) = lN (mk8 85 8) := by decide +kernel
  have l2 : (3689348814741910323 : Int64) = lN (mk8 51 8) := by decide +kernel
  have l3 : (1085102592571150095 : Int64) = lN (mk8 15 8) := by decide +kernel
  have m1 : mk8 85 8 < 2 ^ 63 := by decide +kernel
  have m2 : mk8 51 8 < 2 ^ 62 := by decide +kernel
  have m3 : mk8 15 8 < 2 ^ 60 := by decide +kernel
  have z1 : A8 8 X < 2 ^ 64 := Nat.lt_of_le_of_lt (Nat.sub_le _ _) hX
  have z2 : B8 8 X < 2 ^ 63 := by
    have u1 : A8 8 X &&& mk8 51 8 ≤ mk8 51 8 := Nat.and_le_right
    have u2 : (A8 8 X / 4) &&& mk8 51 8 ≤ mk8 51 8 := Nat.and_le_right
    unfold B8
    omega
  have z3 : C8 8 X < 2 ^ 60 := Nat.lt_of_le_of_lt Nat.and_le_right m3
  have n1 : (1 : Int32) = nI 1 := rfl
  have n2 : (2 : Int32) = nI 2 := rfl
  have n4 : (4 : Int32) = nI 4 := rfl
  have n8 : (8 : Int32) = nI 8 := rfl
  have n16 : (16 : Int32) = nI 16 := rfl
  have n32 : (32 : Int32) = nI 32 := rfl
  have eA : lN X - (((lN X).toUInt64 >>> ((1 : Int32).toInt64.toUInt64 &&& Int64.toUInt64 63)).toInt64 &&& (6148914691236517205 : Int64)) = lN (A8 8 X) := by
    rw [n1, wb_shr hX (by decide), l1, wb_and (by omega) (by omega), lN_sub (Nat.le_trans Nat.and_le_left (Nat.div_le_self _ _))]
    rfl
  have eB : ((lN (A8 8 X) &&& (3689348814741910323 : Int64)) + (((lN (A8 8 X)).toUInt64 >>> ((2 : Int32).toInt64.toUInt64 &&& Int64.toUInt64 63)).toInt64 &&& (3689348814741910323 : Int64))) = lN (B8 8 X) := by
    rw [n2, wb_shr z1 (by decide), l2, wb_and (by omega) (by omega), wb_and (by omega) (by omega), lN_add]
    rfl
  have eC : ((lN (B8 8 X) + ((lN (B8 8 X)).toUInt64 >>> ((4 : Int32).toInt64.toUInt64 &&& Int64.toUInt64 63)).toInt64) &&& (1085102592571150095 : Int64)) = lN (C8 8 X) := by
    rw [n4, wb_shr (by omega) (by decide), l3, lN_add, wb_and (by omega) (by omega)]
    rfl
  have eS : ∀ (k p c : Nat), k < 64 → 2 ^ k = p → c < 2 ^ 64 → lN c + ((lN c).toUInt64 >>> ((nI k).toInt64.toUInt64 &&& Int64.toUInt64 63)).toInt64 = lN (c + c / p) := by
    intro k p c hk hp hc
    rw [wb_shr hc hk, lN_add, hp]
  rw [eA]
  dsimp only
  rw [eB, eC, n8, eS 8 256 _ (by decide) rfl (by omega), n16, eS 16 65536 _ (by decide) rfl (by omega), n32, eS 32 4294967296 _ (by decide) rfl (by omega)]
  rw [lN_i, show (127 : Int32) = nI (2 ^ 7 - 1) from rfl]
  congr 1
  have := ct_64 X _ _ _ rfl rfl rfl
  rw [← this]
  generalize C8 8 X + C8 8 X / 256 + (C8 8 X + C8 8 X / 256) / 65536 + (C8 8 X + C8 8 X / 256 + (C8 8 X + C8 8 X / 256) / 65536) / 4294967296 = q
  apply Int32.toBitVec_inj.mp
  apply BitVec.eq_of_toNat_eq
  show (BitVec.ofNat 32 q &&& BitVec.ofNat 32 (2 ^ 7 - 1)).toNat = (BitVec.ofNat 32 (q % 128)).toNat
  rw [BitVec.toNat_and, BitVec.toNat_ofNat, BitVec.toNat_ofNat, BitVec.toNat_ofNat, Nat.mod_eq_of_lt (show 2 ^ 7 - 1 < 2 ^ 32 by decide), Nat.and_two_pow_sub_one_eq_mod]
  omega
