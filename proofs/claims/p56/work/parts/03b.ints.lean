/-! INTS: words as pictures of integers -/
def andI (a b : Int) : Int := ((a.toNat &&& b.toNat : Nat) : Int)
def orI (a b : Int) : Int := ((a.toNat ||| b.toNat : Nat) : Int)
/-- a without the bits of b -/
def dfI (a b : Int) : Int := ((a.toNat &&& (4294967296 - (b.toNat + 1)) : Nat) : Int)
def oI (x : Int) : Int32 := Int32.ofInt x
abbrev rgI (x : Int) : Prop := -2147483648 ≤ x ∧ x ≤ 2147483647
theorem oI_toInt {x : Int} (h : rgI x) : (oI x).toInt = x := by
  have h1 := h.1
  have h2 := h.2
  exact Int32.toInt_ofInt_of_le (by omega) (by omega)
theorem oI_self (x : Int32) : oI x.toInt = x := Int32.ofInt_toInt x
theorem oI_eq {a b : Int} (ha : rgI a) (hb : rgI b) : oI a = oI b ↔ a = b :=
  ⟨fun h => by have h := congrArg Int32.toInt h; rw [oI_toInt ha, oI_toInt hb] at h; exact h, fun h => by rw [h]⟩
theorem oI_lt {a b : Int} (ha : rgI a) (hb : rgI b) : oI a < oI b ↔ a < b := by rw [Int32.lt_iff_toInt_lt, oI_toInt ha, oI_toInt hb]
theorem oI_le {a b : Int} (ha : rgI a) (hb : rgI b) : oI a ≤ oI b ↔ a ≤ b := by rw [Int32.le_iff_toInt_le, oI_toInt ha, oI_toInt hb]
theorem oI_add (a b : Int) : oI a + oI b = oI (a + b) := (Int32.ofInt_add a b).symm
theorem oI_sub (a b : Int) : oI a - oI b = oI (a - b) := (Int32.ofInt_sub a b).symm
theorem oI_mul (a b : Int) : oI a * oI b = oI (a * b) := (Int32.ofInt_mul a b).symm
theorem oI_neg (a : Int) : -oI a = oI (-a) := by
  show -(Int32.ofInt a) = Int32.ofInt (-a)
  rw [Int32.ofInt_neg]
theorem oI_tn (x : Int) : (oI x).toBitVec.toNat = (x % 4294967296).toNat := by
  show (BitVec.ofInt 32 x).toNat = _
  rw [BitVec.toNat_ofInt]
  rfl
theorem oI_of {a : Int32} {x : Int} (h : (a.toBitVec.toNat : Int) = x % 4294967296) : a = oI x := by
  apply Int32.toBitVec_inj.mp
  apply BitVec.eq_of_toNat_eq
  rw [oI_tn]
  omega
theorem oI_and {a b : Int} (ha : 0 ≤ a) (ha2 : a ≤ 2147483647) (hb : 0 ≤ b) (hb2 : b ≤ 2147483647) : oI a &&& oI b = oI (andI a b) := by
  apply oI_of
  rw [Int32.toBitVec_and, BitVec.toNat_and, oI_tn, oI_tn, show (a % 4294967296).toNat = a.toNat by omega, show (b % 4294967296).toNat = b.toNat by omega]
  have h := @Nat.and_le_left a.toNat b.toNat
  show ((a.toNat &&& b.toNat : Nat) : Int) = ((a.toNat &&& b.toNat : Nat) : Int) % 4294967296
  generalize a.toNat &&& b.toNat = q at h ⊢
  omega
theorem oI_or {a b : Int} (ha : 0 ≤ a) (ha2 : a ≤ 2147483647) (hb : 0 ≤ b) (hb2 : b ≤ 2147483647) : oI a ||| oI b = oI (orI a b) := by
  apply oI_of
  rw [Int32.toBitVec_or, BitVec.toNat_or, oI_tn, oI_tn, show (a % 4294967296).toNat = a.toNat by omega, show (b % 4294967296).toNat = b.toNat by omega]
  have h := @Nat.or_lt_two_pow a.toNat b.toNat 32 (by omega) (by omega)
  show ((a.toNat ||| b.toNat : Nat) : Int) = ((a.toNat ||| b.toNat : Nat) : Int) % 4294967296
  generalize a.toNat ||| b.toNat = q at h ⊢
  omega
theorem oI_not (x : Int) : oI x ^^^ oI (-1) = oI (-1 - x) := by
  apply oI_of
  rw [Int32.toBitVec_xor, show (oI (-1)).toBitVec = BitVec.allOnes 32 by decide, BitVec.xor_allOnes, BitVec.toNat_not, oI_tn]
  omega
theorem oI_shl {a b : Int} (h0 : 0 ≤ b) (h1 : b < 32) : oI a <<< (oI b &&& 31) = oI (a * 2 ^ b.toNat) := by
  obtain ⟨k, rfl⟩ := Int.eq_ofNat_of_zero_le h0
  have hs : ∀ k : Nat, k < 32 → ((oI (k : Int) &&& 31).toBitVec.smod 32).toNat = k := by decide
  have hs := hs k (by omega)
  apply oI_of
  show (((oI a).toBitVec <<< ((oI (k : Int) &&& 31).toBitVec.smod 32).toNat).toNat : Int) = _
  rw [hs, BitVec.toNat_shiftLeft, Nat.shiftLeft_eq, oI_tn, Int.natCast_emod, Int.natCast_mul, Int.toNat_of_nonneg (by omega), Int.natCast_pow, Int.toNat_natCast, show ((2 ^ 32 : Nat) : Int) = 4294967296 from rfl, show ((2 : Nat) : Int) = 2 from rfl]
  rw [Int.mul_emod, Int.emod_emod_of_dvd _ (Int.dvd_refl _), ← Int.mul_emod]
theorem oI_shr {a b : Int} (ha : rgI a) (h0 : 0 ≤ b) (h1 : b < 32) : oI a >>> (oI b &&& 31) = oI (a / 2 ^ b.toNat) := by
  obtain ⟨k, rfl⟩ := Int.eq_ofNat_of_zero_le h0
  have hs : ∀ k : Nat, k < 32 → ((oI (k : Int) &&& 31).toBitVec.smod 32).toNat = k := by decide
  have hs := hs k (by omega)
  refine (oI_self _).symm.trans ?_
  show oI ((oI a).toBitVec.sshiftRight ((oI (k : Int) &&& 31).toBitVec.smod 32).toNat).toInt = _
  rw [hs, BitVec.toInt_sshiftRight]
  show oI ((oI a).toInt >>> k) = _
  rw [oI_toInt ha, Int.shiftRight_eq_div_pow, Int.toNat_natCast, Int.natCast_pow]
  rfl
theorem oI_div {a b : Int} (ha : 0 ≤ a) (ha2 : a ≤ 2147483647) (hb : 0 < b) (hb2 : b ≤ 2147483647) : oI a / oI b = oI (a / b) := by
  have hA : rgI a := ⟨by omega, ha2⟩
  have hB : rgI b := ⟨by omega, hb2⟩
  have h1 := Int.ediv_nonneg ha (Int.le_of_lt hb)
  have h2 := Int.ediv_le_self b ha
  apply Int32.toInt_inj.mp
  rw [Int32.toInt_div_of_ne_right _ _ (fun q => by have q := congrArg Int32.toInt q; rw [oI_toInt hB, show (-1 : Int32).toInt = -1 by decide] at q; omega), oI_toInt hA, oI_toInt hB, oI_toInt ⟨by omega, by omega⟩, Int.tdiv_eq_ediv_of_nonneg ha]
theorem oI_nz {b : Int} (hb : 0 < b) (hb2 : b ≤ 2147483647) : ¬ oI b = 0 := fun q => by
  have q := congrArg Int32.toInt q
  rw [oI_toInt ⟨by omega, hb2⟩, show (0 : Int32).toInt = 0 by decide] at q
  omega
theorem oI_rem {a b : Int} (ha : 0 ≤ a) (ha2 : a ≤ 2147483647) (hb : 0 < b) (hb2 : b ≤ 2147483647) : oI a - oI a / oI b * oI b = oI (a % b) := by
  rw [oI_div ha ha2 hb hb2, oI_mul, oI_sub, Int.emod_def, Int.mul_comm b]
theorem oI_m1 (x : Int) : oI x &&& oI 1 = oI (x % 2) := by
  apply oI_of
  rw [Int32.toBitVec_and, BitVec.toNat_and, oI_tn, show (oI 1).toBitVec.toNat = 2 ^ 1 - 1 by decide +kernel, Nat.and_two_pow_sub_one_eq_mod]
  omega
theorem oI_m5 (x : Int) : oI x &&& oI 31 = oI (x % 32) := by
  apply oI_of
  rw [Int32.toBitVec_and, BitVec.toNat_and, oI_tn, show (oI 31).toBitVec.toNat = 2 ^ 5 - 1 by decide +kernel, Nat.and_two_pow_sub_one_eq_mod]
  omega
theorem oI_m6 (x : Int) : oI x &&& oI 63 = oI (x % 64) := by
  apply oI_of
  rw [Int32.toBitVec_and, BitVec.toNat_and, oI_tn, show (oI 63).toBitVec.toNat = 2 ^ 6 - 1 by decide +kernel, Nat.and_two_pow_sub_one_eq_mod]
  omega
theorem oI_m8 (x : Int) : oI x &&& oI 255 = oI (x % 256) := by
  apply oI_of
  rw [Int32.toBitVec_and, BitVec.toNat_and, oI_tn, show (oI 255).toBitVec.toNat = 2 ^ 8 - 1 by decide +kernel, Nat.and_two_pow_sub_one_eq_mod]
  omega
theorem oI_m30 (x : Int) : oI x &&& oI 1073741823 = oI (x % 1073741824) := by
  apply oI_of
  rw [Int32.toBitVec_and, BitVec.toNat_and, oI_tn, show (oI 1073741823).toBitVec.toNat = 2 ^ 30 - 1 by decide +kernel, Nat.and_two_pow_sub_one_eq_mod]
  omega
def oJ (x : Int) : Int64 := Int64.ofInt x
abbrev rgJ (x : Int) : Prop := -9223372036854775808 ≤ x ∧ x ≤ 9223372036854775807
theorem oJ_toInt {x : Int} (h : rgJ x) : (oJ x).toInt = x := by
  have h1 := h.1
  have h2 := h.2
  exact Int64.toInt_ofInt_of_le (by omega) (by omega)
theorem oJ_self (x : Int64) : oJ x.toInt = x := Int64.ofInt_toInt x
theorem oJ_eq {a b : Int} (ha : rgJ a) (hb : rgJ b) : oJ a = oJ b ↔ a = b :=
  ⟨fun h => by have h := congrArg Int64.toInt h; rw [oJ_toInt ha, oJ_toInt hb] at h; exact h, fun h => by rw [h]⟩
theorem oJ_lt {a b : Int} (ha : rgJ a) (hb : rgJ b) : oJ a < oJ b ↔ a < b := by rw [Int64.lt_iff_toInt_lt, oJ_toInt ha, oJ_toInt hb]
theorem oJ_le {a b : Int} (ha : rgJ a) (hb : rgJ b) : oJ a ≤ oJ b ↔ a ≤ b := by rw [Int64.le_iff_toInt_le, oJ_toInt ha, oJ_toInt hb]
theorem oJ_add (a b : Int) : oJ a + oJ b = oJ (a + b) := (Int64.ofInt_add a b).symm
theorem oJ_sub (a b : Int) : oJ a - oJ b = oJ (a - b) := (Int64.ofInt_sub a b).symm
theorem oJ_mul (a b : Int) : oJ a * oJ b = oJ (a * b) := (Int64.ofInt_mul a b).symm
theorem oJ_neg (a : Int) : -oJ a = oJ (-a) := by
  show -(Int64.ofInt a) = Int64.ofInt (-a)
  rw [Int64.ofInt_neg]
theorem oJ_tn (x : Int) : (oJ x).toBitVec.toNat = (x % 18446744073709551616).toNat := by
  show (BitVec.ofInt 64 x).toNat = _
  rw [BitVec.toNat_ofInt]
  rfl
theorem oJ_of {a : Int64} {x : Int} (h : (a.toBitVec.toNat : Int) = x % 18446744073709551616) : a = oJ x := by
  apply Int64.toBitVec_inj.mp
  apply BitVec.eq_of_toNat_eq
  rw [oJ_tn]
  omega
theorem oJ_and {a b : Int} (ha : 0 ≤ a) (ha2 : a ≤ 9223372036854775807) (hb : 0 ≤ b) (hb2 : b ≤ 9223372036854775807) : oJ a &&& oJ b = oJ (andI a b) := by
  apply oJ_of
  rw [Int64.toBitVec_and, BitVec.toNat_and, oJ_tn, oJ_tn, show (a % 18446744073709551616).toNat = a.toNat by omega, show (b % 18446744073709551616).toNat = b.toNat by omega]
  have h := @Nat.and_le_left a.toNat b.toNat
  show ((a.toNat &&& b.toNat : Nat) : Int) = ((a.toNat &&& b.toNat : Nat) : Int) % 18446744073709551616
  generalize a.toNat &&& b.toNat = q at h ⊢
  omega
theorem oJ_or {a b : Int} (ha : 0 ≤ a) (ha2 : a ≤ 9223372036854775807) (hb : 0 ≤ b) (hb2 : b ≤ 9223372036854775807) : oJ a ||| oJ b = oJ (orI a b) := by
  apply oJ_of
  rw [Int64.toBitVec_or, BitVec.toNat_or, oJ_tn, oJ_tn, show (a % 18446744073709551616).toNat = a.toNat by omega, show (b % 18446744073709551616).toNat = b.toNat by omega]
  have h := @Nat.or_lt_two_pow a.toNat b.toNat 64 (by omega) (by omega)
  show ((a.toNat ||| b.toNat : Nat) : Int) = ((a.toNat ||| b.toNat : Nat) : Int) % 18446744073709551616
  generalize a.toNat ||| b.toNat = q at h ⊢
  omega
theorem oJ_not (x : Int) : oJ x ^^^ oJ (-1) = oJ (-1 - x) := by
  apply oJ_of
  rw [Int64.toBitVec_xor, show (oJ (-1)).toBitVec = BitVec.allOnes 64 by decide, BitVec.xor_allOnes, BitVec.toNat_not, oJ_tn]
  omega
theorem oJ_shl {a b : Int} (h0 : 0 ≤ b) (h1 : b < 64) : oJ a <<< ((oI b).toInt64 &&& 63) = oJ (a * 2 ^ b.toNat) := by
  obtain ⟨k, rfl⟩ := Int.eq_ofNat_of_zero_le h0
  have hs : ∀ k : Nat, k < 64 → (((oI (k : Int)).toInt64 &&& 63).toBitVec.smod 64).toNat = k := by decide
  have hs := hs k (by omega)
  apply oJ_of
  show (((oJ a).toBitVec <<< (((oI (k : Int)).toInt64 &&& 63).toBitVec.smod 64).toNat).toNat : Int) = _
  rw [hs, BitVec.toNat_shiftLeft, Nat.shiftLeft_eq, oJ_tn, Int.natCast_emod, Int.natCast_mul, Int.toNat_of_nonneg (by omega), Int.natCast_pow, Int.toNat_natCast, show ((2 ^ 64 : Nat) : Int) = 18446744073709551616 from rfl, show ((2 : Nat) : Int) = 2 from rfl]
  rw [Int.mul_emod, Int.emod_emod_of_dvd _ (Int.dvd_refl _), ← Int.mul_emod]
theorem oJ_shr {a b : Int} (ha : rgJ a) (h0 : 0 ≤ b) (h1 : b < 64) : oJ a >>> ((oI b).toInt64 &&& 63) = oJ (a / 2 ^ b.toNat) := by
  obtain ⟨k, rfl⟩ := Int.eq_ofNat_of_zero_le h0
  have hs : ∀ k : Nat, k < 64 → (((oI (k : Int)).toInt64 &&& 63).toBitVec.smod 64).toNat = k := by decide
  have hs := hs k (by omega)
  refine (oJ_self _).symm.trans ?_
  show oJ ((oJ a).toBitVec.sshiftRight (((oI (k : Int)).toInt64 &&& 63).toBitVec.smod 64).toNat).toInt = _
  rw [hs, BitVec.toInt_sshiftRight]
  show oJ ((oJ a).toInt >>> k) = _
  rw [oJ_toInt ha, Int.shiftRight_eq_div_pow, Int.toNat_natCast, Int.natCast_pow]
  rfl
theorem oJ_div {a b : Int} (ha : 0 ≤ a) (ha2 : a ≤ 9223372036854775807) (hb : 0 < b) (hb2 : b ≤ 9223372036854775807) : oJ a / oJ b = oJ (a / b) := by
  have hA : rgJ a := ⟨by omega, ha2⟩
  have hB : rgJ b := ⟨by omega, hb2⟩
  have h1 := Int.ediv_nonneg ha (Int.le_of_lt hb)
  have h2 := Int.ediv_le_self b ha
  apply Int64.toInt_inj.mp
  rw [Int64.toInt_div_of_ne_right _ _ (fun q => by have q := congrArg Int64.toInt q; rw [oJ_toInt hB, show (-1 : Int64).toInt = -1 by decide] at q; omega), oJ_toInt hA, oJ_toInt hB, oJ_toInt ⟨by omega, by omega⟩, Int.tdiv_eq_ediv_of_nonneg ha]
theorem oJ_nz {b : Int} (hb : 0 < b) (hb2 : b ≤ 9223372036854775807) : ¬ oJ b = 0 := fun q => by
  have q := congrArg Int64.toInt q
  rw [oJ_toInt ⟨by omega, hb2⟩, show (0 : Int64).toInt = 0 by decide] at q
  omega
theorem oJ_rem {a b : Int} (ha : 0 ≤ a) (ha2 : a ≤ 9223372036854775807) (hb : 0 < b) (hb2 : b ≤ 9223372036854775807) : oJ a - oJ a / oJ b * oJ b = oJ (a % b) := by
  rw [oJ_div ha ha2 hb hb2, oJ_mul, oJ_sub, Int.emod_def, Int.mul_comm b]
theorem oJ_m1 (x : Int) : oJ x &&& oJ 1 = oJ (x % 2) := by
  apply oJ_of
  rw [Int64.toBitVec_and, BitVec.toNat_and, oJ_tn, show (oJ 1).toBitVec.toNat = 2 ^ 1 - 1 by decide +kernel, Nat.and_two_pow_sub_one_eq_mod]
  omega
theorem oJ_m5 (x : Int) : oJ x &&& oJ 31 = oJ (x % 32) := by
  apply oJ_of
  rw [Int64.toBitVec_and, BitVec.toNat_and, oJ_tn, show (oJ 31).toBitVec.toNat = 2 ^ 5 - 1 by decide +kernel, Nat.and_two_pow_sub_one_eq_mod]
  omega
theorem oJ_m6 (x : Int) : oJ x &&& oJ 63 = oJ (x % 64) := by
  apply oJ_of
  rw [Int64.toBitVec_and, BitVec.toNat_and, oJ_tn, show (oJ 63).toBitVec.toNat = 2 ^ 6 - 1 by decide +kernel, Nat.and_two_pow_sub_one_eq_mod]
  omega
theorem oJ_m8 (x : Int) : oJ x &&& oJ 255 = oJ (x % 256) := by
  apply oJ_of
  rw [Int64.toBitVec_and, BitVec.toNat_and, oJ_tn, show (oJ 255).toBitVec.toNat = 2 ^ 8 - 1 by decide +kernel, Nat.and_two_pow_sub_one_eq_mod]
  omega
theorem oJ_m30 (x : Int) : oJ x &&& oJ 1073741823 = oJ (x % 1073741824) := by
  apply oJ_of
  rw [Int64.toBitVec_and, BitVec.toNat_and, oJ_tn, show (oJ 1073741823).toBitVec.toNat = 2 ^ 30 - 1 by decide +kernel, Nat.and_two_pow_sub_one_eq_mod]
  omega
theorem oI_dif {a b : Int} (ha : 0 ≤ a) (ha2 : a ≤ 2147483647) (hb : 0 ≤ b) (hb2 : b ≤ 2147483647) : oI a &&& oI (-1 - b) = oI (dfI a b) := by
  apply oI_of
  rw [Int32.toBitVec_and, BitVec.toNat_and, oI_tn, oI_tn, show (a % 4294967296).toNat = a.toNat by omega, show ((-1 - b) % 4294967296).toNat = 4294967296 - (b.toNat + 1) by omega]
  have h := @Nat.and_le_left a.toNat (4294967296 - (b.toNat + 1))
  show ((a.toNat &&& (4294967296 - (b.toNat + 1)) : Nat) : Int) = ((a.toNat &&& (4294967296 - (b.toNat + 1)) : Nat) : Int) % 4294967296
  generalize a.toNat &&& (4294967296 - (b.toNat + 1)) = q at h ⊢
  omega
def xorR (a b : Int) : Int := (oI a ^^^ oI b).toInt
theorem oI_xorR (a b : Int) : oI a ^^^ oI b = oI (xorR a b) := (oI_self _).symm
def ushI (a : Int) (k : Nat) : Int := a % 4294967296 / 2 ^ k
theorem oI_ushr (a : Int) (k : Nat) (s : Int32) (hs : ((s.toUInt32 &&& Int32.toUInt32 31).toBitVec % 32).toNat = k) : ((oI a).toUInt32 >>> (s.toUInt32 &&& Int32.toUInt32 31)).toInt32 = oI (ushI a k) := by
  apply oI_of
  rw [pk_ushr _ s k hs, oI_tn]
  have h := Nat.div_le_self (a % 4294967296).toNat (2 ^ k)
  have e : (((a % 4294967296).toNat / 2 ^ k : Nat) : Int) = ushI a k := by
    unfold ushI
    rw [Int.natCast_ediv, Int.toNat_of_nonneg (by omega), Int.natCast_pow]
    rfl
  have e2 : ushI a k = (((a % 4294967296).toNat / 2 ^ k : Nat) : Int) := e.symm
  rw [e2]
  generalize (a % 4294967296).toNat / 2 ^ k = q at h
  omega
theorem xorR_rg (a b : Int) : rgI (xorR a b) := by
  have h1 := Int32.le_toInt (oI a ^^^ oI b)
  have h2 := Int32.toInt_lt (oI a ^^^ oI b)
  unfold xorR
  constructor <;> omega
theorem ushI_nn {a : Int} {k : Nat} (hk : 0 < k) : 0 ≤ ushI a k ∧ ushI a k ≤ 2147483647 := by
  have e : (((a % 4294967296).toNat / 2 ^ k : Nat) : Int) = ushI a k := by
    unfold ushI
    rw [Int.natCast_ediv, Int.toNat_of_nonneg (by omega), Int.natCast_pow]
    rfl
  have h1 : 2 ≤ 2 ^ k := by
    have := Nat.pow_le_pow_right (n := 2) (by decide) (show 1 ≤ k from hk)
    exact this
  have h2 : (a % 4294967296).toNat / 2 ^ k ≤ (a % 4294967296).toNat / 2 := Nat.div_le_div_left h1 (by decide)
  rw [← e]
  generalize (a % 4294967296).toNat / 2 ^ k = q at h2 ⊢
  omega
theorem ushI_rg {a : Int} {k : Nat} (hk : 0 < k) : rgI (ushI a k) := ⟨by have := (ushI_nn (a := a) hk).1; omega, (ushI_nn hk).2⟩
theorem oI_b {x : Int} (h : -128 ≤ x ∧ x ≤ 127) : (oI x).toInt8.toInt32 = oI x := by
  show ((Int32.ofInt x).toInt8).toInt32 = _
  rw [Int32.toInt8_ofInt, Int8.toInt32_ofInt h.1 h.2]
  rfl
theorem oI_l {x : Int} (h : rgI x) : (oI x).toInt64 = oJ x := Int32.toInt64_ofInt h.1 h.2
theorem oJ_i (x : Int) : (oJ x).toInt32 = oI x := Int64.toInt32_ofInt
theorem oI_c {x : Int} (h : 0 ≤ x ∧ x ≤ 65535) : ((oI x).toUInt32 % 65536).toInt32 = oI x := by
  have h1 := h.1
  have h2 := h.2
  apply oI_of
  show (((oI x).toUInt32 % 65536).toBitVec.toNat : Int) = _
  rw [UInt32.toBitVec_mod, BitVec.toNat_umod]
  show (((oI x).toBitVec.toNat % 65536 : Nat) : Int) = _
  rw [oI_tn]
  omega
/-- what lcmp pushes -/
def cmI (a b : Int) : Int := if b < a then 1 else if a = b then 0 else -1
theorem cmp_val {a b : Int} (ha : rgJ a) (hb : rgJ b) : lg_cmp (oJ a) (oJ b) = oI (cmI a b) := by
  unfold lg_cmp cmI
  by_cases h1 : b < a
  · rw [if_pos ((oJ_lt hb ha).mpr h1), if_pos h1]
    rfl
  · rw [if_neg (fun q => h1 ((oJ_lt hb ha).mp q)), if_neg h1]
    by_cases h2 : a = b
    · rw [if_pos (by rw [h2]), if_pos h2]
      rfl
    · rw [if_neg (fun q => h2 ((oJ_eq ha hb).mp q)), if_neg h2]
      decide
theorem cmp_cases (a b : Int) : (b < a ∧ cmI a b = 1) ∨ (a = b ∧ cmI a b = 0) ∨ (a < b ∧ cmI a b = -1) := by
  unfold cmI
  by_cases h1 : b < a
  · exact Or.inl ⟨h1, if_pos h1⟩
  · by_cases h2 : a = b
    · exact Or.inr (Or.inl ⟨h2, by rw [if_neg h1, if_pos h2]⟩)
    · exact Or.inr (Or.inr ⟨by omega, by rw [if_neg h1, if_neg h2]⟩)
theorem cmp_lt (a b : Int) : oI (cmI a b) < 0 ↔ a < b := by
  rcases cmp_cases a b with ⟨h, e⟩ | ⟨h, e⟩ | ⟨h, e⟩ <;> rw [e]
  · exact ⟨fun q => absurd q (by decide), fun q => by omega⟩
  · exact ⟨fun q => absurd q (by decide), fun q => by omega⟩
  · exact ⟨fun _ => h, fun _ => by decide⟩
theorem cmp_gt (a b : Int) : 0 < oI (cmI a b) ↔ b < a := by
  rcases cmp_cases a b with ⟨h, e⟩ | ⟨h, e⟩ | ⟨h, e⟩ <;> rw [e]
  · exact ⟨fun _ => h, fun _ => by decide⟩
  · exact ⟨fun q => absurd q (by decide), fun q => by omega⟩
  · exact ⟨fun q => absurd q (by decide), fun q => by omega⟩
theorem cmp_le (a b : Int) : oI (cmI a b) ≤ 0 ↔ a ≤ b := by
  rcases cmp_cases a b with ⟨h, e⟩ | ⟨h, e⟩ | ⟨h, e⟩ <;> rw [e]
  · exact ⟨fun q => absurd q (by decide), fun q => by omega⟩
  · exact ⟨fun _ => by omega, fun _ => by decide⟩
  · exact ⟨fun _ => by omega, fun _ => by decide⟩
theorem cmp_ge (a b : Int) : 0 ≤ oI (cmI a b) ↔ b ≤ a := by
  rcases cmp_cases a b with ⟨h, e⟩ | ⟨h, e⟩ | ⟨h, e⟩ <;> rw [e]
  · exact ⟨fun _ => by omega, fun _ => by decide⟩
  · exact ⟨fun _ => by omega, fun _ => by decide⟩
  · exact ⟨fun q => absurd q (by decide), fun q => by omega⟩
theorem cmp_eq (a b : Int) : oI (cmI a b) = 0 ↔ a = b := by
  rcases cmp_cases a b with ⟨h, e⟩ | ⟨h, e⟩ | ⟨h, e⟩ <;> rw [e]
  · exact ⟨fun q => absurd q (by decide), fun q => by omega⟩
  · exact ⟨fun _ => h, fun _ => by decide⟩
  · exact ⟨fun q => absurd q (by decide), fun q => by omega⟩
/-- an index in range -/
abbrev inb (i : Int) (n : Nat) : Prop := 0 ≤ i ∧ i < (n : Int) ∧ i ≤ 2147483647
theorem inb_lt {j : Int} {n : Nat} (h : inb j n) : j.toNat < n := by
  have h1 := h.1
  have h2 := h.2.1
  omega
theorem inb_rg {j : Int} {n : Nat} (h : inb j n) : rgI j := ⟨by have h1 := h.1; omega, h.2.2⟩
theorem inb_n {j : Int} {n : Nat} (h : inb j n) : (oI j).toNatClampNeg = j.toNat := by
  show (oI j).toInt.toNat = _
  rw [oI_toInt (inb_rg h)]
theorem inb_v {j : Int} {n : Nat} (h : inb j n) : vp_in (oI j) n := by
  have h1 := h.1
  intro q
  rcases q with q | q
  · have q := (oI_lt (inb_rg h) (b := 0) ⟨by decide, by decide⟩).mp q
    omega
  · rw [inb_n h] at q
    have := inb_lt h
    omega
abbrev nnI (x : Int) : Prop := 0 ≤ x ∧ x ≤ 2147483647
theorem inb_nn {j : Int} {n : Nat} (h : inb j n) : nnI j := ⟨h.1, h.2.2⟩
def iA (f : Nat → Int) : Nat → Int32 := fun k => oI (f k)
def jA (f : Nat → Int) : Nat → Int64 := fun k => oJ (f k)
theorem up_iA (f : Nat → Int) (k : Nat) (x : Int) : upd (iA f) k (oI x) = iA (va_up f k x) := by
  funext j
  show (if j = k then oI x else oI (f j)) = oI (if j = k then x else f j)
  by_cases e : j = k
  · rw [if_pos e, if_pos e]
  · rw [if_neg e, if_neg e]
theorem up_jA (f : Nat → Int) (k : Nat) (x : Int) : vp_updL (jA f) k (oJ x) = jA (va_up f k x) := by
  funext j
  show (if j = k then oJ x else oJ (f j)) = oJ (if j = k then x else f j)
  by_cases e : j = k
  · rw [if_pos e, if_pos e]
  · rw [if_neg e, if_neg e]
theorem cpy_iA (f g : Nat → Int) (a b n : Nat) : va_cpy (iA f) (iA g) a b n = iA (va_cpy f g a b n) := by
  funext j
  show (if b ≤ j ∧ j < b + n then oI (f (a + (j - b))) else oI (g j)) = oI (if b ≤ j ∧ j < b + n then f (a + (j - b)) else g j)
  by_cases e : b ≤ j ∧ j < b + n
  · rw [if_pos e, if_pos e]
  · rw [if_neg e, if_neg e]
theorem mn_oI {a b : Int} (ha : rgI a) (hb : rgI b) : (if oI b < oI a then oI b else oI a) = oI (min a b) := by
  by_cases h : b < a
  · rw [if_pos ((oI_lt hb ha).mpr h), Int.min_eq_right (by omega)]
  · rw [if_neg (fun q => h ((oI_lt hb ha).mp q)), Int.min_eq_left (by omega)]
theorem mx_oI {a b : Int} (ha : rgI a) (hb : rgI b) : (if oI a < oI b then oI b else oI a) = oI (max a b) := by
  by_cases h : a < b
  · rw [if_pos ((oI_lt ha hb).mpr h), Int.max_eq_right (by omega)]
  · rw [if_neg (fun q => h ((oI_lt ha hb).mp q)), Int.max_eq_left (by omega)]
theorem mn_oJ {a b : Int} (ha : rgJ a) (hb : rgJ b) : (if oJ b < oJ a then oJ b else oJ a) = oJ (min a b) := by
  by_cases h : b < a
  · rw [if_pos ((oJ_lt hb ha).mpr h), Int.min_eq_right (by omega)]
  · rw [if_neg (fun q => h ((oJ_lt hb ha).mp q)), Int.min_eq_left (by omega)]
theorem nz_b {x : Int} (h : x = 0 ∨ x = 1) : narrow .boolean (.int (oI x)) = .int (oI x) := by rcases h with rfl | rfl <;> rfl
theorem fz_b {x : Int} (h : x = 0 ∨ x = 1) : fits .boolean (.int (oI x)) = true := by rcases h with rfl | rfl <;> rfl
theorem tb_out {x lo hi : Int} (hr : rgI x) (h : x < lo ∨ hi < x) : (oI x).toInt < lo ∨ hi < (oI x).toInt := by rw [oI_toInt hr]; exact h
