/-! shifts and masks over whole numbers -/
theorem bv_ofInt {x : Int} (h0 : 0 ≤ x) (h1 : x < 18446744073709551616) : (Int64.ofInt x).toBitVec.toNat = x.toNat := by
  show (BitVec.ofInt 64 x).toNat = x.toNat
  rw [BitVec.toNat_ofInt]
  have : ((2 ^ 64 : Nat) : Int) = 18446744073709551616 := rfl
  rw [this, Int.emod_eq_of_lt h0 h1]
theorem bv_toInt {a : Int64} (h : a.toBitVec.toNat < 9223372036854775808) : a.toInt = (a.toBitVec.toNat : Int) := by
  show a.toBitVec.toInt = _
  rw [BitVec.toInt_eq_toNat_of_lt (by have : (2 ^ 64 : Nat) = 18446744073709551616 := rfl; omega)]
theorem z_land_n {x y : Int} (hx : 0 ≤ x) (hx1 : x < 9223372036854775808) (hy : 0 ≤ y) (hy1 : y < 9223372036854775808) : z_land x y = ((x.toNat &&& y.toNat : Nat) : Int) := by
  unfold z_land
  have e : (Int64.ofInt x &&& Int64.ofInt y).toBitVec.toNat = x.toNat &&& y.toNat := by
    rw [Int64.toBitVec_and, BitVec.toNat_and, bv_ofInt hx (by omega), bv_ofInt hy (by omega)]
  have l : x.toNat &&& y.toNat ≤ x.toNat := Nat.and_le_left
  rw [bv_toInt (by rw [e]; omega), e]
theorem z_lor_n {x y : Int} (hx : 0 ≤ x) (hx1 : x < 9223372036854775808) (hy : 0 ≤ y) (hy1 : y < 9223372036854775808) : z_lor x y = ((x.toNat ||| y.toNat : Nat) : Int) := by
  unfold z_lor
  have e : (Int64.ofInt x ||| Int64.ofInt y).toBitVec.toNat = x.toNat ||| y.toNat := by
    rw [Int64.toBitVec_or, BitVec.toNat_or, bv_ofInt hx (by omega), bv_ofInt hy (by omega)]
  have l : x.toNat ||| y.toNat < 2 ^ 63 := Nat.or_lt_two_pow (by have : (2 ^ 63 : Nat) = 9223372036854775808 := rfl; omega) (by have : (2 ^ 63 : Nat) = 9223372036854775808 := rfl; omega)
  rw [bv_toInt (by rw [e]; have : (2 ^ 63 : Nat) = 9223372036854775808 := rfl; omega), e]
/-- a mask of the lowest k bits -/
theorem z_land_mask {x : Int} (k : Nat) (hk : k ≤ 62) (hx : 0 ≤ x) (hx1 : x < 9223372036854775808) : z_land x (2 ^ k - 1) = x % 2 ^ k := by
  have hp : (2 : Int) ^ k = ((2 ^ k : Nat) : Int) := by simp
  have h1 : 1 ≤ 2 ^ k := Nat.one_le_two_pow
  have h2 : 2 ^ k ≤ 2 ^ 62 := Nat.pow_le_pow_right (by decide) hk
  have h3 : (2 ^ 62 : Nat) = 4611686018427387904 := rfl
  rw [hp]
  rw [z_land_n hx hx1 (by omega) (by omega)]
  have e : (((2 ^ k : Nat) : Int) - 1).toNat = 2 ^ k - 1 := by omega
  rw [e, Nat.and_two_pow_sub_one_eq_mod, Int.natCast_emod, Int.toNat_of_nonneg hx]
theorem z_land255 {x : Int} (hx : 0 ≤ x) (hx1 : x < 9223372036854775808) : z_land x 255 = x % 256 := z_land_mask 8 (by decide) hx hx1
/-- a text put behind another -/
theorem z_lor_add {a b : Int} (k : Nat) (ha : 0 ≤ a) (hb : 0 ≤ b) (hb1 : b < 2 ^ k) (h : a * 2 ^ k + b < 9223372036854775808) : z_lor (a * 2 ^ k) b = a * 2 ^ k + b := by
  have hp : (2 : Int) ^ k = ((2 ^ k : Nat) : Int) := by simp
  have h1 : 1 ≤ 2 ^ k := Nat.one_le_two_pow
  rw [hp] at hb1 h ⊢
  obtain ⟨n, rfl⟩ := Int.eq_ofNat_of_zero_le ha
  obtain ⟨m, rfl⟩ := Int.eq_ofNat_of_zero_le hb
  have e0 : (n : Int) * ((2 ^ k : Nat) : Int) = ((n * 2 ^ k : Nat) : Int) := by simp
  rw [e0] at h ⊢
  rw [z_lor_n (by omega) (by omega) (by omega) (by omega)]
  simp only [Int.toNat_natCast]
  have hm : m < 2 ^ k := by omega
  rw [Nat.mul_comm n (2 ^ k), ← Nat.two_pow_add_eq_or_of_lt hm]
  omega
theorem sh_nat {y : Int} (h0 : 0 ≤ y) (h1 : y < 64) : ((Int32.ofInt y).toInt64 &&& 63).toBitVec.toNat = y.toNat := by
  rw [w_i2l ⟨by omega, by omega⟩, show (63 : Int64) = Int64.ofInt 63 from rfl, Int64.toBitVec_and, BitVec.toNat_and, bv_ofInt h0 (by omega), bv_ofInt (by decide) (by decide)]
  show y.toNat &&& (2 ^ 6 - 1) = _
  rw [Nat.and_two_pow_sub_one_eq_mod, Nat.mod_eq_of_lt (by omega)]
theorem z_lushr_n {x y : Int} (hx : 0 ≤ x) (hx1 : x < 9223372036854775808) (h0 : 0 ≤ y) (h1 : y < 64) : z_lushr x y = x / 2 ^ y.toNat := by
  unfold z_lushr
  have hs := sh_nat h0 h1
  have e : ((Int64.ofInt x).toUInt64 >>> ((Int32.ofInt y).toInt64.toUInt64 &&& Int64.toUInt64 63)).toBitVec.toNat = x.toNat / 2 ^ y.toNat := by
    rw [UInt64.toBitVec_shiftRight]
    have e2 : ((Int32.ofInt y).toInt64.toUInt64 &&& Int64.toUInt64 63).toBitVec = ((Int32.ofInt y).toInt64 &&& 63).toBitVec := rfl
    rw [e2]
    have e3 : (((Int32.ofInt y).toInt64 &&& 63).toBitVec % 64#64) = ((Int32.ofInt y).toInt64 &&& 63).toBitVec := by
      apply BitVec.eq_of_toNat_eq
      rw [BitVec.toNat_umod, hs]
      show y.toNat % 64 = _
      omega
    rw [show (64 : BitVec 64) = 64#64 from rfl, e3, BitVec.ushiftRight_eq', BitVec.toNat_ushiftRight, hs, Nat.shiftRight_eq_div_pow]
    show (Int64.ofInt x).toBitVec.toNat / _ = _
    rw [bv_ofInt hx (by omega)]
  have e4 : (((Int64.ofInt x).toUInt64 >>> ((Int32.ofInt y).toInt64.toUInt64 &&& Int64.toUInt64 63)).toInt64).toBitVec.toNat = x.toNat / 2 ^ y.toNat := e
  have l : x.toNat / 2 ^ y.toNat ≤ x.toNat := Nat.div_le_self _ _
  rw [bv_toInt (by rw [e4]; omega), e4]
  have hp : (2 : Int) ^ y.toNat = ((2 ^ y.toNat : Nat) : Int) := by simp
  rw [hp, ← Int.toNat_of_nonneg hx]
  simp
theorem smod_n {b : BitVec 64} (h : b.toNat < 64) : (b.smod 64).toNat = b.toNat := by
  have h1 : (b.smod 64).toInt = (b.toNat : Int) := by
    rw [BitVec.toInt_smod, BitVec.toInt_eq_toNat_of_lt (by have : (2 ^ 64 : Nat) = 18446744073709551616 := rfl; omega)]
    show Int.fmod (b.toNat : Int) 64 = _
    rw [Int.fmod_eq_emod_of_nonneg _ (by decide), Int.emod_eq_of_lt (by omega) (by omega)]
  have h2 : (b.smod 64) = BitVec.ofInt 64 (b.toNat : Int) := by rw [← h1, BitVec.ofInt_toInt]
  rw [h2, BitVec.toNat_ofInt]
  have : ((2 ^ 64 : Nat) : Int) = 18446744073709551616 := rfl
  omega
theorem z_lshl_n {x y : Int} (hx : 0 ≤ x) (h0 : 0 ≤ y) (h1 : y < 64) (hb : x * 2 ^ y.toNat < 9223372036854775808) : z_lshl x y = x * 2 ^ y.toNat := by
  have hp : (2 : Int) ^ y.toNat = ((2 ^ y.toNat : Nat) : Int) := by simp
  have h1p : 1 ≤ 2 ^ y.toNat := Nat.one_le_two_pow
  rw [hp] at hb ⊢
  obtain ⟨n, rfl⟩ := Int.eq_ofNat_of_zero_le hx
  have e0 : (n : Int) * ((2 ^ y.toNat : Nat) : Int) = ((n * 2 ^ y.toNat : Nat) : Int) := by simp
  rw [e0] at hb ⊢
  have hn : n ≤ n * 2 ^ y.toNat := Nat.le_mul_of_pos_right _ (by omega)
  unfold z_lshl
  have hs := sh_nat h0 h1
  have e : (Int64.ofInt n <<< ((Int32.ofInt y).toInt64 &&& 63)).toBitVec.toNat = n * 2 ^ y.toNat := by
    rw [Int64.toBitVec_shiftLeft, BitVec.shiftLeft_eq', BitVec.toNat_shiftLeft, smod_n (by rw [hs]; omega), hs, bv_ofInt (by omega) (by omega), Nat.shiftLeft_eq, Int.toNat_natCast]
    apply Nat.mod_eq_of_lt
    have : (2 ^ 64 : Nat) = 18446744073709551616 := rfl
    omega
  rw [bv_toInt (by rw [e]; omega), e]
theorem z_lshr_n {x y : Int} (hx : 0 ≤ x) (hx1 : x < 9223372036854775808) (h0 : 0 ≤ y) (h1 : y < 64) : z_lshr x y = x / 2 ^ y.toNat := by
  unfold z_lshr
  have hs := sh_nat h0 h1
  have hxi : (Int64.ofInt x).toBitVec.toInt = x := by
    show (Int64.ofInt x).toInt = x
    rw [w64_of, w64_id ⟨by omega, hx1⟩]
  show (Int64.ofInt x >>> ((Int32.ofInt y).toInt64 &&& 63)).toBitVec.toInt = _
  rw [Int64.toBitVec_shiftRight, BitVec.sshiftRight_eq', BitVec.toInt_sshiftRight, smod_n (by rw [hs]; omega), hs, hxi, Int.shiftRight_eq_div_pow]
  have hp : (2 : Int) ^ y.toNat = ((2 ^ y.toNat : Nat) : Int) := by simp
  rw [hp]
/-! the same of ints -/
theorem bi_ofInt {x : Int} (h0 : 0 ≤ x) (h1 : x < 4294967296) : (Int32.ofInt x).toBitVec.toNat = x.toNat := by
  show (BitVec.ofInt 32 x).toNat = x.toNat
  rw [BitVec.toNat_ofInt]
  have : ((2 ^ 32 : Nat) : Int) = 4294967296 := rfl
  rw [this, Int.emod_eq_of_lt h0 h1]
theorem bi_toInt {a : Int32} (h : a.toBitVec.toNat < 2147483648) : a.toInt = (a.toBitVec.toNat : Int) := by
  show a.toBitVec.toInt = _
  rw [BitVec.toInt_eq_toNat_of_lt (by have : (2 ^ 32 : Nat) = 4294967296 := rfl; omega)]
theorem z_iand_n {x y : Int} (hx : 0 ≤ x) (hx1 : x < 2147483648) (hy : 0 ≤ y) (hy1 : y < 2147483648) : z_iand x y = ((x.toNat &&& y.toNat : Nat) : Int) := by
  unfold z_iand
  have e : (Int32.ofInt x &&& Int32.ofInt y).toBitVec.toNat = x.toNat &&& y.toNat := by
    rw [Int32.toBitVec_and, BitVec.toNat_and, bi_ofInt hx (by omega), bi_ofInt hy (by omega)]
  have l : x.toNat &&& y.toNat ≤ x.toNat := Nat.and_le_left
  rw [bi_toInt (by rw [e]; omega), e]
theorem z_ior_n {x y : Int} (hx : 0 ≤ x) (hx1 : x < 2147483648) (hy : 0 ≤ y) (hy1 : y < 2147483648) : z_ior x y = ((x.toNat ||| y.toNat : Nat) : Int) := by
  unfold z_ior
  have e : (Int32.ofInt x ||| Int32.ofInt y).toBitVec.toNat = x.toNat ||| y.toNat := by
    rw [Int32.toBitVec_or, BitVec.toNat_or, bi_ofInt hx (by omega), bi_ofInt hy (by omega)]
  have l : x.toNat ||| y.toNat < 2 ^ 31 := Nat.or_lt_two_pow (by have : (2 ^ 31 : Nat) = 2147483648 := rfl; omega) (by have : (2 ^ 31 : Nat) = 2147483648 := rfl; omega)
  rw [bi_toInt (by rw [e]; have : (2 ^ 31 : Nat) = 2147483648 := rfl; omega), e]
/-- a mask of the lowest k bits, of any int -/
theorem z_iand_mask (x : Int) (k : Nat) (hk : k ≤ 30) : z_iand x (2 ^ k - 1) = x % 2 ^ k := by
  have hp : (2 : Int) ^ k = ((2 ^ k : Nat) : Int) := by simp
  have h1 : 1 ≤ 2 ^ k := Nat.one_le_two_pow
  have h2 : 2 ^ k ≤ 2 ^ 30 := Nat.pow_le_pow_right (by decide) hk
  have h3 : (2 ^ 30 : Nat) = 1073741824 := rfl
  have hd : (2 ^ 32 : Nat) = 2 ^ k * 2 ^ (32 - k) := by rw [← Nat.pow_add]; congr 1; omega
  unfold z_iand
  have e : (Int32.ofInt x &&& Int32.ofInt ((2 : Int) ^ k - 1)).toBitVec.toNat = (x % 2 ^ k).toNat := by
    rw [Int32.toBitVec_and, BitVec.toNat_and, hp, bi_ofInt (x := ((2 ^ k : Nat) : Int) - 1) (by omega) (by omega)]
    have e1 : (((2 ^ k : Nat) : Int) - 1).toNat = 2 ^ k - 1 := by omega
    rw [e1, Nat.and_two_pow_sub_one_eq_mod]
    show (BitVec.ofInt 32 x).toNat % 2 ^ k = _
    rw [BitVec.toNat_ofInt]
    have h4 : 0 ≤ x % ((2 ^ 32 : Nat) : Int) := Int.emod_nonneg _ (by decide)
    apply Int.ofNat_inj.mp
    rw [Int.natCast_emod, Int.toNat_of_nonneg h4, Int.toNat_of_nonneg (Int.emod_nonneg _ (by omega)), hd, Int.natCast_mul, Int.emod_emod_of_dvd _ (Int.dvd_mul_right _ _)]
  have h5 : (x % 2 ^ k).toNat < 2 ^ k := by
    have := Int.emod_lt_of_pos x (show (0 : Int) < ((2 ^ k : Nat) : Int) by omega)
    have := Int.emod_nonneg x (show ((2 ^ k : Nat) : Int) ≠ 0 by omega)
    rw [hp]
    omega
  rw [bi_toInt (by rw [e]; omega), e, Int.toNat_of_nonneg]
  rw [hp]
  exact Int.emod_nonneg _ (by omega)
theorem z_iand255 (x : Int) : z_iand x 255 = x % 256 := z_iand_mask x 8 (by decide)
theorem z_iand7 (x : Int) : z_iand x 7 = x % 8 := z_iand_mask x 3 (by decide)
theorem z_iand1023 (x : Int) : z_iand x 1023 = x % 1024 := z_iand_mask x 10 (by decide)
theorem z_iand4095 (x : Int) : z_iand x 4095 = x % 4096 := z_iand_mask x 12 (by decide)
theorem z_ior_add {a b : Int} (k : Nat) (ha : 0 ≤ a) (hb : 0 ≤ b) (hb1 : b < 2 ^ k) (h : a * 2 ^ k + b < 2147483648) : z_ior (a * 2 ^ k) b = a * 2 ^ k + b := by
  have hp : (2 : Int) ^ k = ((2 ^ k : Nat) : Int) := by simp
  have h1 : 1 ≤ 2 ^ k := Nat.one_le_two_pow
  rw [hp] at hb1 h ⊢
  obtain ⟨n, rfl⟩ := Int.eq_ofNat_of_zero_le ha
  obtain ⟨m, rfl⟩ := Int.eq_ofNat_of_zero_le hb
  have e0 : (n : Int) * ((2 ^ k : Nat) : Int) = ((n * 2 ^ k : Nat) : Int) := by simp
  rw [e0] at h ⊢
  rw [z_ior_n (by omega) (by omega) (by omega) (by omega)]
  simp only [Int.toNat_natCast]
  have hm : m < 2 ^ k := by omega
  rw [Nat.mul_comm n (2 ^ k), ← Nat.two_pow_add_eq_or_of_lt hm]
  omega
theorem shi_nat {y : Int} (h0 : 0 ≤ y) (h1 : y < 32) : (Int32.ofInt y &&& 31).toBitVec.toNat = y.toNat := by
  rw [show (31 : Int32) = Int32.ofInt 31 from rfl, Int32.toBitVec_and, BitVec.toNat_and, bi_ofInt h0 (by omega), bi_ofInt (by decide) (by decide)]
  show y.toNat &&& (2 ^ 5 - 1) = _
  rw [Nat.and_two_pow_sub_one_eq_mod, Nat.mod_eq_of_lt (by omega)]
theorem smodi_n {b : BitVec 32} (h : b.toNat < 32) : (b.smod 32).toNat = b.toNat := by
  have h1 : (b.smod 32).toInt = (b.toNat : Int) := by
    rw [BitVec.toInt_smod, BitVec.toInt_eq_toNat_of_lt (by have : (2 ^ 32 : Nat) = 4294967296 := rfl; omega)]
    show Int.fmod (b.toNat : Int) 32 = _
    rw [Int.fmod_eq_emod_of_nonneg _ (by decide), Int.emod_eq_of_lt (by omega) (by omega)]
  have h2 : (b.smod 32) = BitVec.ofInt 32 (b.toNat : Int) := by rw [← h1, BitVec.ofInt_toInt]
  rw [h2, BitVec.toNat_ofInt]
  have : ((2 ^ 32 : Nat) : Int) = 4294967296 := rfl
  omega
theorem z_ishl_n {x y : Int} (hx : 0 ≤ x) (h0 : 0 ≤ y) (h1 : y < 32) (hb : x * 2 ^ y.toNat < 2147483648) : z_ishl x y = x * 2 ^ y.toNat := by
  have hp : (2 : Int) ^ y.toNat = ((2 ^ y.toNat : Nat) : Int) := by simp
  have h1p : 1 ≤ 2 ^ y.toNat := Nat.one_le_two_pow
  rw [hp] at hb ⊢
  obtain ⟨n, rfl⟩ := Int.eq_ofNat_of_zero_le hx
  have e0 : (n : Int) * ((2 ^ y.toNat : Nat) : Int) = ((n * 2 ^ y.toNat : Nat) : Int) := by simp
  rw [e0] at hb ⊢
  have hn : n ≤ n * 2 ^ y.toNat := Nat.le_mul_of_pos_right _ (by omega)
  unfold z_ishl
  have hs := shi_nat h0 h1
  have e : (Int32.ofInt n <<< (Int32.ofInt y &&& 31)).toBitVec.toNat = n * 2 ^ y.toNat := by
    rw [Int32.toBitVec_shiftLeft, BitVec.shiftLeft_eq', BitVec.toNat_shiftLeft, smodi_n (by rw [hs]; omega), hs, bi_ofInt (by omega) (by omega), Nat.shiftLeft_eq, Int.toNat_natCast]
    apply Nat.mod_eq_of_lt
    have : (2 ^ 32 : Nat) = 4294967296 := rfl
    omega
  rw [bi_toInt (by rw [e]; omega), e]
theorem z_ishr_n {x y : Int} (hx : z_in x) (h0 : 0 ≤ y) (h1 : y < 32) : z_ishr x y = x / 2 ^ y.toNat := by
  unfold z_ishr
  have hs := shi_nat h0 h1
  have hxi : (Int32.ofInt x).toBitVec.toInt = x := by
    show (Int32.ofInt x).toInt = x
    rw [w32_of, w32_id hx]
  show (Int32.ofInt x >>> (Int32.ofInt y &&& 31)).toBitVec.toInt = _
  rw [Int32.toBitVec_shiftRight, BitVec.sshiftRight_eq', BitVec.toInt_sshiftRight, smodi_n (by rw [hs]; omega), hs, hxi, Int.shiftRight_eq_div_pow]
  have hp : (2 : Int) ^ y.toNat = ((2 ^ y.toNat : Nat) : Int) := by simp
  rw [hp]
theorem z_idiv_n {x y : Int} (hx : 0 ≤ x) (hx1 : x < 2147483648) (hy : 0 < y) (hy1 : y < 2147483648) : z_idiv x y = x / y := by
  unfold z_idiv
  have e1 : Int32.ofInt x = nI x.toNat := by
    apply Int32.toInt_inj.mp
    rw [w32_of, w32_id ⟨by omega, hx1⟩, nI_toInt (by omega)]; omega
  have e2 : Int32.ofInt y = nI y.toNat := by
    apply Int32.toInt_inj.mp
    rw [w32_of, w32_id ⟨by omega, hy1⟩, nI_toInt (by omega)]; omega
  rw [e1, e2, pk_div (by omega) (by omega) (by omega), nI_toInt (by have := Nat.div_le_self x.toNat y.toNat; omega), Int.natCast_ediv, Int.toNat_of_nonneg hx, Int.toNat_of_nonneg (by omega)]
theorem z_irem_n {x y : Int} (hx : 0 ≤ x) (hx1 : x < 2147483648) (hy : 0 < y) (hy1 : y < 2147483648) : z_irem x y = x % y := by
  unfold z_irem
  have e1 : Int32.ofInt x = nI x.toNat := by
    apply Int32.toInt_inj.mp
    rw [w32_of, w32_id ⟨by omega, hx1⟩, nI_toInt (by omega)]; omega
  have e2 : Int32.ofInt y = nI y.toNat := by
    apply Int32.toInt_inj.mp
    rw [w32_of, w32_id ⟨by omega, hy1⟩, nI_toInt (by omega)]; omega
  rw [e1, e2, pk_rem (by omega) (by omega) (by omega), nI_toInt (by have := Nat.mod_le x.toNat y.toNat; omega), Int.natCast_emod, Int.toNat_of_nonneg hx, Int.toNat_of_nonneg (by omega)]
