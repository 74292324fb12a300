/-! ints and longs by their integers -/
def iI (z : Int) : Int32 := Int32.ofInt z
def jI (z : Int) : Int64 := Int64.ofInt z
def R31 (z : Int) : Prop := -2147483648 ≤ z ∧ z < 2147483648
def R63 (z : Int) : Prop := -9223372036854775808 ≤ z ∧ z < 9223372036854775808
theorem iI_add (a b : Int) : iI a + iI b = iI (a + b) := (Int32.ofInt_add a b).symm
theorem iI_sub (a b : Int) : iI a - iI b = iI (a - b) := (Int32.ofInt_sub a b).symm
theorem iI_mul (a b : Int) : iI a * iI b = iI (a * b) := (Int32.ofInt_mul a b).symm
theorem iI_neg (a : Int) : -iI a = iI (-a) := (Int32.ofInt_neg a).symm
theorem jI_add (a b : Int) : jI a + jI b = jI (a + b) := (Int64.ofInt_add a b).symm
theorem jI_sub (a b : Int) : jI a - jI b = jI (a - b) := (Int64.ofInt_sub a b).symm
theorem jI_mul (a b : Int) : jI a * jI b = jI (a * b) := (Int64.ofInt_mul a b).symm
theorem jI_neg (a : Int) : -jI a = jI (-a) := (Int64.ofInt_neg a).symm
theorem iI_of (x : Int32) : iI x.toInt = x := Int32.ofInt_toInt x
theorem jI_of (x : Int64) : jI x.toInt = x := Int64.ofInt_toInt x
theorem iI_R (x : Int32) : R31 x.toInt := ⟨x.le_toInt, x.toInt_lt⟩
theorem jI_R (x : Int64) : R63 x.toInt := ⟨x.le_toInt, x.toInt_lt⟩
theorem iI_int {z : Int} (h : R31 z) : (iI z).toInt = z := Int32.toInt_ofInt_of_le h.1 h.2
theorem jI_int {z : Int} (h : R63 z) : (jI z).toInt = z := Int64.toInt_ofInt_of_le h.1 h.2
theorem iI_lt {a b : Int} (ha : R31 a) (hb : R31 b) : iI a < iI b ↔ a < b := by rw [Int32.lt_iff_toInt_lt, iI_int ha, iI_int hb]
theorem iI_le {a b : Int} (ha : R31 a) (hb : R31 b) : iI a ≤ iI b ↔ a ≤ b := by rw [Int32.le_iff_toInt_le, iI_int ha, iI_int hb]
theorem iI_eq {a b : Int} (ha : R31 a) (hb : R31 b) : iI a = iI b ↔ a = b := by rw [← Int32.toInt_inj, iI_int ha, iI_int hb]
theorem jI_lt {a b : Int} (ha : R63 a) (hb : R63 b) : jI a < jI b ↔ a < b := by rw [Int64.lt_iff_toInt_lt, jI_int ha, jI_int hb]
theorem jI_eq {a b : Int} (ha : R63 a) (hb : R63 b) : jI a = jI b ↔ a = b := by rw [← Int64.toInt_inj, jI_int ha, jI_int hb]
theorem iI_0 : iI 0 = 0 := rfl
theorem iI_R0 : R31 0 := by constructor <;> decide
theorem iI_cl {a : Int} (h0 : 0 ≤ a) (h1 : a < 2147483648) : (iI a).toNatClampNeg = a.toNat := Int32.toNatClampNeg_ofInt_of_le (by omega) (by omega)
theorem iI_in {a : Int} {n : Nat} (h0 : 0 ≤ a) (h1 : a < (n : Int)) (hn : n < 2147483648) : vp_in (iI a) n := by
  rw [vp_in_iff, iI_int ⟨by omega, by omega⟩]
  exact ⟨h0, h1⟩
theorem i2j {z : Int} (h : R31 z) : (iI z).toInt64 = jI z := by
  have h1 := h.1
  have h2 := h.2
  exact Int32.toInt64_ofInt (by rw [Int32.toInt_minValue]; omega) (by rw [Int32.toInt_maxValue]; omega)
theorem j2i (z : Int) : (jI z).toInt32 = iI z := Int64.toInt32_ofInt
theorem jI_tn (z : Int) : (jI z).toBitVec.toNat = (z % 18446744073709551616).toNat := by
  show (BitVec.ofInt 64 z).toNat = _
  rw [BitVec.toNat_ofInt]; rfl
theorem iI_tn (z : Int) : (iI z).toBitVec.toNat = (z % 4294967296).toNat := by
  show (BitVec.ofInt 32 z).toNat = _
  rw [BitVec.toNat_ofInt]; rfl
theorem jI_mod (z : Int) : jI (z % 18446744073709551616) = jI z := by
  apply Int64.toBitVec_inj.mp
  apply BitVec.eq_of_toNat_eq
  rw [jI_tn, jI_tn]
  omega
theorem jI_ext {a b : Int} (h : a % 18446744073709551616 = b % 18446744073709551616) : jI a = jI b := by rw [← jI_mod a, h, jI_mod]
theorem iI_ext {a b : Int} (h : a % 4294967296 = b % 4294967296) : iI a = iI b := by
  apply Int32.toBitVec_inj.mp
  apply BitVec.eq_of_toNat_eq
  rw [iI_tn, iI_tn]
  omega
theorem p2c (k : Nat) : (2 : Int) ^ k = ((2 ^ k : Nat) : Int) := by simp
theorem p2le {k n : Nat} (h : k ≤ n) : (2 : Int) ^ k ≤ (2 : Int) ^ n := by
  rw [p2c, p2c]; exact Int.ofNat_le.mpr (Nat.pow_le_pow_right (by decide) h)
theorem p2pos (k : Nat) : (0 : Int) < (2 : Int) ^ k := Int.pow_pos (by decide)
theorem jI_and (z : Int) (k : Nat) (hk : k < 64) : jI z &&& jI ((2 : Int) ^ k - 1) = jI (z % (2 : Int) ^ k) := by
  apply Int64.toBitVec_inj.mp
  apply BitVec.eq_of_toNat_eq
  rw [Int64.toBitVec_and, BitVec.toNat_and, jI_tn, jI_tn, jI_tn]
  have hp : (0 : Int) < (2 : Int) ^ k := Int.pow_pos (by decide)
  have hq : (2 : Int) ^ k ≤ (2 : Int) ^ 63 := p2le (by omega)
  have hq' : (2 : Int) ^ 63 = 9223372036854775808 := by decide
  have e1 : ((2 : Int) ^ k - 1) % 18446744073709551616 = (2 : Int) ^ k - 1 := Int.emod_eq_of_lt (by omega) (by omega)
  have e2 : ((2 : Int) ^ k - 1).toNat = 2 ^ k - 1 := by
    have : ((2 : Int) ^ k) = ((2 ^ k : Nat) : Int) := by simp
    omega
  rw [e1, e2, Nat.and_two_pow_sub_one_eq_mod]
  have hm0 := Int.emod_nonneg z (show (2 : Int) ^ k ≠ 0 by omega)
  have hm1 := Int.emod_lt_of_pos z hp
  have e3 : z % (2 : Int) ^ k % 18446744073709551616 = z % (2 : Int) ^ k := Int.emod_eq_of_lt hm0 (by omega)
  rw [e3]
  have hd : (2 : Int) ^ k ∣ 18446744073709551616 := by
    refine ⟨(2 : Int) ^ (64 - k), ?_⟩
    rw [← Int.pow_add, show k + (64 - k) = 64 by omega]; decide
  have e4 : z % 18446744073709551616 % (2 : Int) ^ k = z % (2 : Int) ^ k := Int.emod_emod_of_dvd z hd
  have hz0 := Int.emod_nonneg z (show (18446744073709551616 : Int) ≠ 0 by decide)
  have : ((z % 18446744073709551616).toNat % 2 ^ k : Nat) = ((z % 18446744073709551616) % (2 : Int) ^ k).toNat := by
    rw [show ((2 : Int) ^ k) = ((2 ^ k : Nat) : Int) by simp]
    rw [Int.toNat_emod hz0 (Int.natCast_nonneg _), Int.toNat_natCast]
  rw [this, e4]
theorem iI_and (z : Int) (k : Nat) (hk : k < 32) : iI z &&& iI ((2 : Int) ^ k - 1) = iI (z % (2 : Int) ^ k) := by
  apply Int32.toBitVec_inj.mp
  apply BitVec.eq_of_toNat_eq
  rw [Int32.toBitVec_and, BitVec.toNat_and, iI_tn, iI_tn, iI_tn]
  have hp : (0 : Int) < (2 : Int) ^ k := Int.pow_pos (by decide)
  have hq : (2 : Int) ^ k ≤ (2 : Int) ^ 31 := p2le (by omega)
  have hq' : (2 : Int) ^ 31 = 2147483648 := by decide
  have e1 : ((2 : Int) ^ k - 1) % 4294967296 = (2 : Int) ^ k - 1 := Int.emod_eq_of_lt (by omega) (by omega)
  have e2 : ((2 : Int) ^ k - 1).toNat = 2 ^ k - 1 := by
    have : ((2 : Int) ^ k) = ((2 ^ k : Nat) : Int) := by simp
    omega
  rw [e1, e2, Nat.and_two_pow_sub_one_eq_mod]
  have hm0 := Int.emod_nonneg z (show (2 : Int) ^ k ≠ 0 by omega)
  have hm1 := Int.emod_lt_of_pos z hp
  have e3 : z % (2 : Int) ^ k % 4294967296 = z % (2 : Int) ^ k := Int.emod_eq_of_lt hm0 (by omega)
  rw [e3]
  have hd : (2 : Int) ^ k ∣ 4294967296 := by
    refine ⟨(2 : Int) ^ (32 - k), ?_⟩
    rw [← Int.pow_add, show k + (32 - k) = 32 by omega]; decide
  have e4 : z % 4294967296 % (2 : Int) ^ k = z % (2 : Int) ^ k := Int.emod_emod_of_dvd z hd
  have hz0 := Int.emod_nonneg z (show (4294967296 : Int) ≠ 0 by decide)
  have : ((z % 4294967296).toNat % 2 ^ k : Nat) = ((z % 4294967296) % (2 : Int) ^ k).toNat := by
    rw [show ((2 : Int) ^ k) = ((2 ^ k : Nat) : Int) by simp]
    rw [Int.toNat_emod hz0 (Int.natCast_nonneg _), Int.toNat_natCast]
  rw [this, e4]
theorem jI_cnt {k : Int} (h0 : 0 ≤ k) (h1 : k < 64) : ((iI k).toInt64 &&& 63) = lN k.toNat := by
  have e : iI k = nI k.toNat := by
    show Int32.ofInt k = Int32.ofNat k.toNat
    rw [← Int32.ofInt_eq_ofNat, Int.toNat_of_nonneg h0]
  rw [e]
  have : ∀ k, k < 64 → ((nI k).toInt64 &&& 63) = lN k := by decide
  exact this _ (by omega)
theorem jI_cntu {k : Int} (h0 : 0 ≤ k) (h1 : k < 64) : ((iI k).toInt64.toUInt64 &&& Int64.toUInt64 63) = UInt64.ofNat k.toNat := by
  have e : iI k = nI k.toNat := by
    show Int32.ofInt k = Int32.ofNat k.toNat
    rw [← Int32.ofInt_eq_ofNat, Int.toNat_of_nonneg h0]
  rw [e]
  have : ∀ k, k < 64 → ((nI k).toInt64.toUInt64 &&& Int64.toUInt64 63) = UInt64.ofNat k := by decide
  exact this _ (by omega)
theorem jI_shr {z k : Int} (hz : R63 z) (h0 : 0 ≤ k) (h1 : k < 64) : jI z >>> ((iI k).toInt64 &&& 63) = jI (z / (2 : Int) ^ k.toNat) := by
  rw [jI_cnt h0 h1]
  apply Int64.toInt_inj.mp
  have hs : ((lN k.toNat).toBitVec.smod 64).toNat = k.toNat := by
    have : ∀ k, k < 64 → ((lN k).toBitVec.smod 64).toNat = k := by decide
    exact this _ (by omega)
  have h2 : (jI z >>> lN k.toNat).toBitVec.toInt = (jI z).toInt >>> k.toNat := by
    show ((jI z).toBitVec.sshiftRight' ((lN k.toNat).toBitVec.smod 64)).toInt = _
    rw [BitVec.toInt_sshiftRight', hs]; rfl
  show (jI z >>> lN k.toNat).toBitVec.toInt = _
  rw [h2, jI_int hz, Int.shiftRight_eq_div_pow]
  have hp : (0 : Int) < (2 : Int) ^ k.toNat := Int.pow_pos (by decide)
  have e : ((2 ^ k.toNat : Nat) : Int) = (2 : Int) ^ k.toNat := by simp
  rw [e, jI_int]
  refine ⟨?_, ?_⟩
  · have := hz.1
    rw [Int.le_ediv_iff_mul_le hp]
    have h1 : (1 : Int) ≤ (2 : Int) ^ k.toNat := hp
    have := Int.mul_le_mul_of_nonpos_left (a := (-9223372036854775808 : Int)) (by decide) h1
    omega
  · have := hz.2
    have h1 : (1 : Int) ≤ (2 : Int) ^ k.toNat := hp
    refine Int.ediv_lt_of_lt_mul hp ?_
    have := Int.mul_le_mul_of_nonneg_left h1 (show (0 : Int) ≤ 9223372036854775808 by decide)
    omega
theorem iI_cnt {k : Int} (h0 : 0 ≤ k) (h1 : k < 32) : (iI k &&& 31) = nI k.toNat := by
  have e : iI k = nI k.toNat := by
    show Int32.ofInt k = Int32.ofNat k.toNat
    rw [← Int32.ofInt_eq_ofNat, Int.toNat_of_nonneg h0]
  rw [e]
  have : ∀ k, k < 32 → (nI k &&& 31) = nI k := by decide
  exact this _ (by omega)
theorem iI_shr {z k : Int} (hz : R31 z) (h0 : 0 ≤ k) (h1 : k < 32) : iI z >>> (iI k &&& 31) = iI (z / (2 : Int) ^ k.toNat) := by
  rw [iI_cnt h0 h1]
  apply Int32.toInt_inj.mp
  have hs : ((nI k.toNat).toBitVec.smod 32).toNat = k.toNat := by
    have : ∀ k, k < 32 → ((nI k).toBitVec.smod 32).toNat = k := by decide
    exact this _ (by omega)
  rw [pk_shr _ _ _ hs, iI_int hz, Int.shiftRight_eq_div_pow]
  have hp : (0 : Int) < (2 : Int) ^ k.toNat := Int.pow_pos (by decide)
  have e : ((2 ^ k.toNat : Nat) : Int) = (2 : Int) ^ k.toNat := by simp
  rw [e, iI_int]
  refine ⟨?_, ?_⟩
  · have := hz.1
    rw [Int.le_ediv_iff_mul_le hp]
    have h1 : (1 : Int) ≤ (2 : Int) ^ k.toNat := hp
    have := Int.mul_le_mul_of_nonpos_left (a := (-2147483648 : Int)) (by decide) h1
    omega
  · have := hz.2
    have h1 : (1 : Int) ≤ (2 : Int) ^ k.toNat := hp
    refine Int.ediv_lt_of_lt_mul hp ?_
    have := Int.mul_le_mul_of_nonneg_left h1 (show (0 : Int) ≤ 2147483648 by decide)
    omega
