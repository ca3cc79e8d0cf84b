/-! numbers -/
theorem nI_ofI {x : Int32} {n : Nat} (h : x.toInt = n) (hn : n < 2147483648) : x = nI n := Int32.toInt_inj.mp (h.trans (nI_toInt hn).symm)
theorem nI_div {a b : Nat} (ha : a < 2147483648) (hb : b < 2147483648) : nI a / nI b = nI (a / b) := by
  have h1 : a / b ≤ a := Nat.div_le_self a b
  refine nI_ofI ?_ (by omega)
  rw [Int32.toInt_div, nI_toInt ha, nI_toInt hb, ← Int.ofNat_tdiv]
  generalize a / b = q at *
  exact Int.bmod_eq_of_le (by omega) (by omega)
theorem nI_mod {a b : Nat} (ha : a < 2147483648) (hb : b < 2147483648) : nI a - nI a / nI b * nI b = nI (a % b) := by
  have h1 : a / b * b ≤ a := Nat.div_mul_le_self a b
  have h2 := Nat.div_add_mod' a b
  have e0 : nI (a / b) * nI b = nI (a / b * b) := (Int32.ofNat_mul _ _).symm
  have e : nI (a % b) + nI (a / b * b) = nI a := by
    show Int32.ofNat _ + Int32.ofNat _ = Int32.ofNat _
    rw [← Int32.ofNat_add]
    exact congrArg Int32.ofNat (by omega)
  rw [nI_div ha hb, e0, ← e, Int32.add_sub_cancel]
theorem nI_ofN {x : Int32} {n : Nat} (h : x.toBitVec.toNat = n) (hn : n < 2147483648) : x = nI n := by
  refine nI_ofI ?_ hn
  show x.toBitVec.toInt = _
  rw [BitVec.toInt_eq_toNat_of_lt (by omega), h]
theorem nI_bits {n : Nat} (h : n < 2147483648) : (nI n).toBitVec.toNat = n := by
  unfold nI
  show (BitVec.ofNat 32 n).toNat = n
  rw [BitVec.toNat_ofNat, Nat.mod_eq_of_lt (by omega)]
theorem nI_shr {a k : Nat} (ha : a < 2147483648) (hk : k < 32) : nI a >>> (nI k &&& 31) = nI (a / 2 ^ k) := by
  have h1 : a / 2 ^ k ≤ a := Nat.div_le_self _ _
  have e : nI k &&& 31 = nI k := by
    have q : ∀ m : Fin 32, nI m.val &&& 31 = nI m.val := by decide +kernel
    exact q ⟨k, hk⟩
  have e2 : (nI k).toBitVec.smod 32 = (nI k).toBitVec := by
    have q : ∀ m : Fin 32, (nI m.val).toBitVec.smod 32 = (nI m.val).toBitVec := by decide +kernel
    exact q ⟨k, hk⟩
  rw [e]
  refine nI_ofN ?_ (by omega)
  rw [Int32.toBitVec_shiftRight, e2]
  show ((nI a).toBitVec.sshiftRight (nI k).toBitVec.toNat).toNat = _
  rw [BitVec.sshiftRight_eq_of_msb_false, BitVec.toNat_ushiftRight, nI_bits ha, nI_bits (by omega), Nat.shiftRight_eq_div_pow]
  rw [BitVec.msb_eq_false_iff_two_mul_lt, nI_bits ha]
  omega
theorem msk_bits {x : Int32} {k : Nat} (hk : k < 2147483648) : (x &&& nI k).toBitVec.toNat = x.toBitVec.toNat &&& k := by
  rw [Int32.toBitVec_and, BitVec.toNat_and, nI_bits hk]
theorem msk_n {x : Int32} {k : Nat} (hk : k < 2147483648) : ∃ n, n ≤ k ∧ x &&& nI k = nI n := by
  have h := msk_bits (x := x) hk
  have h2 : x.toBitVec.toNat &&& k ≤ k := Nat.and_le_right
  exact ⟨_, h2, nI_ofN h (by omega)⟩
theorem nI_and {a k : Nat} (ha : a < 2147483648) (hk : k < 31) : nI a &&& nI (2 ^ k - 1) = nI (a % 2 ^ k) := by
  have h2 : 2 ^ k ≤ 2 ^ 30 := Nat.pow_le_pow_right (by omega) (by omega)
  have h3 : a % 2 ^ k ≤ a := Nat.mod_le _ _
  refine nI_ofN ?_ (by omega)
  rw [msk_bits (by omega), nI_bits ha, Nat.and_two_pow_sub_one_eq_mod]
theorem nI_modA {a b : Nat} : nI a - nI (a / b * b) = nI (a % b) := by
  rw [nI_sub (Nat.div_mul_le_self a b)]
  have := Nat.div_add_mod' a b
  exact congrArg nI (by omega)
theorem nI_modB {a b : Nat} : nI a - nI (a / b) * nI b = nI (a % b) := by
  rw [nI_mul9, nI_modA]
