/-! BITS of small numbers (nx_and, nx_xor, s_l: begun from the kit's laws to paste) -/
theorem nx_and (a b : Nat) : nI a &&& nI b = nI (a &&& b) := by
  apply Int32.toBitVec_inj.1
  show BitVec.ofNat 32 a &&& BitVec.ofNat 32 b = BitVec.ofNat 32 (a &&& b)
  apply BitVec.eq_of_getLsbD_eq
  intro i hi
  simp [hi]
theorem nx_xor (a b : Nat) : nI a ^^^ nI b = nI (a ^^^ b) := by
  apply Int32.toBitVec_inj.1
  show BitVec.ofNat 32 a ^^^ BitVec.ofNat 32 b = BitVec.ofNat 32 (a ^^^ b)
  apply BitVec.eq_of_getLsbD_eq
  intro i hi
  simp [hi]
theorem s_l : ∀ n, n < 32 → ((nI n &&& 31).toBitVec.smod 32).toNat = n := by decide +kernel
theorem zXor_n {a b : Nat} (ha : a < 2147483648) (hb : b < 2147483648) : zXor a b = ((a ^^^ b : Nat) : Int) := by
  unfold zXor
  rw [← nI_zI, ← nI_zI, nx_xor, nI_zI]
  exact zI_toInt (inR_n (Nat.xor_lt_two_pow (n := 31) ha hb))
theorem zAnd_n {a b : Nat} (hb : b < 2147483648) : zAnd a b = ((a &&& b : Nat) : Int) := by
  unfold zAnd
  rw [← nI_zI, ← nI_zI, nx_and, nI_zI]
  exact zI_toInt (inR_n (Nat.and_lt_two_pow (n := 31) a hb))
theorem zXor_1 {x : Int} (h : 0 ≤ x) (h2 : x < 2147483648) : zXor x 1 = x + 1 - 2 * (x % 2) := by
  obtain ⟨n, rfl⟩ := Int.eq_ofNat_of_zero_le h
  have e := zXor_n (a := n) (b := 1) (by omega) (by decide)
  rw [show ((1 : Nat) : Int) = 1 from rfl] at e
  rw [e]
  have d : (n ^^^ 1) / 2 = n / 2 := by rw [Nat.xor_div_two]; simp
  have m := Nat.xor_mod_two_eq_one (a := n) (b := 1)
  omega
theorem zAnd_1 {x : Int} (h : 0 ≤ x) : zAnd x 1 = x % 2 := by
  obtain ⟨n, rfl⟩ := Int.eq_ofNat_of_zero_le h
  have e := zAnd_n (a := n) (b := 1) (by decide)
  rw [show ((1 : Nat) : Int) = 1 from rfl, Nat.and_one_is_mod] at e
  rw [e]
  omega
theorem zAnd_m2 {x : Int} (h : 0 ≤ x) (h2 : x < 2147483648) : zAnd x (-2) = x - x % 2 := by
  obtain ⟨n, rfl⟩ := Int.eq_ofNat_of_zero_le h
  unfold zAnd
  rw [show zI (-2) = nI 4294967294 by decide, ← nI_zI, nx_and, nI_zI]
  have d : (n &&& 4294967294) / 2 = n / 2 := by
    rw [Nat.and_div_two]
    exact Nat.and_two_pow_sub_one_of_lt_two_pow (n := 31) (by omega)
  have m := Nat.and_mod_two_eq_one (a := n) (b := 4294967294)
  rw [zI_toInt (inR_n (by omega))]
  omega
theorem zAnd_lo {x : Int} (k : Nat) (hk : k < 31) : 0 ≤ zAnd x ((2 ^ k - 1 : Nat) : Int) ∧ zAnd x ((2 ^ k - 1 : Nat) : Int) < ((2 ^ k : Nat) : Int) := by
  have hp : 2 ^ k < 2 ^ 31 := Nat.pow_lt_pow_right (by decide) hk
  have h1 : 0 < 2 ^ k := Nat.pow_pos (by decide)
  unfold zAnd
  have e : zI x = nI (zI x).toBitVec.toNat := Int32.toBitVec_inj.mp (by show _ = BitVec.ofNat 32 _; simp)
  rw [e, ← nI_zI, nx_and, nI_zI, Nat.and_two_pow_sub_one_eq_mod]
  have hm := Nat.mod_lt (zI x).toBitVec.toNat h1
  rw [zI_toInt (inR_n (by omega))]
  omega
theorem zAnd_8191 (x : Int) : 0 ≤ zAnd x 8191 ∧ zAnd x 8191 < 8192 := zAnd_lo (x := x) 13 (by decide)
theorem zShr_e {x : Int} (hx : inR x) {k : Nat} (hk : k < 32) : zShr x k = x / 2 ^ k := by
  unfold zShr
  rw [← nI_zI]
  show ((zI x >>> (nI k &&& 31)).toBitVec).toInt = _
  rw [Int32.toBitVec_shiftRight]
  show ((zI x).toBitVec.sshiftRight ((nI k &&& 31).toBitVec.smod 32).toNat).toInt = _
  rw [s_l k hk, BitVec.toInt_sshiftRight]
  show (zI x).toInt >>> k = _
  rw [zI_toInt hx, Int.shiftRight_eq_div_pow]
  norm_cast
theorem zShr_1 {x : Int} (hx : inR x) : zShr x 1 = x / 2 := zShr_e (k := 1) hx (by decide)
theorem zShl_1 : ∀ k : Nat, k < 31 → zShl 1 k = 2 ^ k := by decide +kernel
