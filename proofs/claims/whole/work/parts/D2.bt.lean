/-! BITS, for what an EXPR is worth -/
theorem nx_or (a b : Nat) : nI a ||| nI b = nI (a ||| b) := by
  apply Int32.toBitVec_inj.1
  show BitVec.ofNat 32 a ||| BitVec.ofNat 32 b = BitVec.ofNat 32 (a ||| b)
  apply BitVec.eq_of_getLsbD_eq
  intro i hi
  simp [hi]
theorem zOr_n {a b : Nat} (ha : a < 2147483648) (hb : b < 2147483648) : zOr a b = ((a ||| b : Nat) : Int) := by
  unfold zOr
  rw [← nI_zI, ← nI_zI, nx_or, nI_zI]
  exact zI_toInt (inR_n (Nat.or_lt_two_pow (n := 31) ha hb))
theorem zI_bvn (v : Int) : (((zI v).toBitVec.toNat : Nat) : Int) = v % 4294967296 := by
  have e : (zI v).toBitVec = BitVec.ofInt 32 v := rfl
  rw [e, BitVec.toNat_ofInt]
  have : (0 : Int) ≤ v % 4294967296 := Int.emod_nonneg _ (by decide)
  omega
theorem zAnd_mod {v : Int} {k : Nat} (hk : k ≤ 8) : zAnd v ((2 ^ k - 1 : Nat) : Int) = v % ((2 ^ k : Nat) : Int) := by
  have hp : 2 ^ k ≤ 2 ^ 8 := Nat.pow_le_pow_right (by decide) hk
  have h1 : 0 < 2 ^ k := Nat.pow_pos (by decide)
  unfold zAnd
  have e : zI v = nI (zI v).toBitVec.toNat := Int32.toBitVec_inj.mp (by show _ = BitVec.ofNat 32 _; simp)
  have hz := zI_bvn v
  generalize (zI v).toBitVec.toNat = m at e hz
  rw [e, ← nI_zI, nx_and, nI_zI, Nat.and_two_pow_sub_one_eq_mod]
  have hm := Nat.mod_lt m h1
  rw [zI_toInt (inR_n (by omega))]
  have hc : k = 0 ∨ k = 1 ∨ k = 2 ∨ k = 3 ∨ k = 4 ∨ k = 5 ∨ k = 6 ∨ k = 7 ∨ k = 8 := by omega
  clear e hm h1 hp hk
  rcases hc with q | q | q | q | q | q | q | q | q <;> subst q <;> simp only [Nat.reducePow] <;> omega
theorem msk {k : Nat} (hk : k ≤ 8) : zShl 1 (k : Int) - 1 = ((2 ^ k - 1 : Nat) : Int) := by
  have hc : k = 0 ∨ k = 1 ∨ k = 2 ∨ k = 3 ∨ k = 4 ∨ k = 5 ∨ k = 6 ∨ k = 7 ∨ k = 8 := by omega
  rcases hc with q | q | q | q | q | q | q | q | q <;> subst q <;> decide +kernel
theorem cutN {v : Int} {k : Nat} (hk : k ≤ 8) : zAnd v (zShl 1 (k : Int) - 1) = v % ((2 ^ k : Nat) : Int) := by rw [msk hk, zAnd_mod hk]
theorem zShl_n : ∀ y : Nat, y < 8 → ∀ x : Nat, x < 256 → zShl (x : Int) (y : Int) = ((x * 2 ^ y : Nat) : Int) := by decide +kernel
theorem zDiv_n {x y : Nat} (hx : x < 256) (hy : y < 256) (h0 : y ≠ 0) : zDiv (x : Int) (y : Int) = ((x / y : Nat) : Int) := by
  unfold zDiv
  rw [Int32.toInt_div, zI_toInt ⟨by omega, by omega⟩, zI_toInt ⟨by omega, by omega⟩]
  have e : Int.tdiv (x : Int) (y : Int) = ((x / y : Nat) : Int) := by
    rw [Int.ofNat_tdiv]
  rw [e]
  have := Nat.div_le_self x y
  generalize x / y = q at this
  rw [Int.bmod_def]
  split <;> omega
theorem zRem_n {x y : Nat} (hx : x < 256) (hy : y < 256) (h0 : y ≠ 0) : zRem (x : Int) (y : Int) = ((x % y : Nat) : Int) := by
  have d := zDiv_n hx hy h0
  unfold zDiv at d
  unfold zRem
  have m := Nat.div_add_mod x y
  have hl := Nat.div_le_self x y
  have dm : x / y * y = y * (x / y) := Nat.mul_comm _ _
  have r := Nat.mod_le x y
  rw [Int32.toInt_sub, Int32.toInt_mul, d, zI_toInt ⟨by omega, by omega⟩, zI_toInt ⟨by omega, by omega⟩, ← Int.natCast_mul]
  generalize x / y * y = p at dm
  generalize y * (x / y) = p2 at dm m
  generalize x % y = g at m r
  subst dm
  rw [Int.bmod_def, Int.bmod_def]
  split <;> split <;> omega
