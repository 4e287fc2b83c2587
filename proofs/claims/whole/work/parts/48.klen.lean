/-! how long tokens are, at least -/
def kl (k : Int) : Nat := if k = 39 then 5 else if k = 40 then 3 else if k = 41 then 2 else if k = 42 then 4 else if k = 43 then 5 else if k = 44 then 6 else if k = 45 then 6 else 1
theorem rnF_all (P : Int → Bool) (f : Nat → Int) : ∀ k i j, i ≤ j → j < rnF P f k i → P (f j) = true
  | 0, i, j, h1, h2 => absurd h2 (by unfold rnF; omega)
  | k + 1, i, j, h1, h2 => by
    unfold rnF at h2
    split at h2
    · next c =>
      by_cases e : i = j
      · rw [← e]; exact c
      · exact rnF_all P f k (i + 1) j (by omega) h2
    · omega
theorem i64_step {a : Int64} {c : Int} (h0 : 0 ≤ a.toInt) (h1 : a.toInt < 1099511627776) (c0 : 0 ≤ c) (c1 : c ≤ 1000) : (a * 32 + (zI c).toInt64).toInt = a.toInt * 32 + c := by
  have e : (zI c).toInt64.toInt = c := by rw [Int32.toInt_toInt64]; exact zI_toInt ⟨by omega, by omega⟩
  rw [Int64.toInt_add, Int64.toInt_mul, e]
  have : (32 : Int64).toInt = 32 := by decide
  rw [this]
  rw [Int.bmod_eq_of_le (n := a.toInt * 32) (by omega) (by omega)]
  exact Int.bmod_eq_of_le (by omega) (by omega)
theorem wva_bd (f : Nat → Int) : ∀ (L s : Nat) (acc : Int64), (∀ j, s ≤ j → j < s + L → lxL (f j) = true) → 0 ≤ acc.toInt → (acc.toInt + 1) * 32 ^ L ≤ 33554432 → 0 ≤ (wva f s L acc).toInt ∧ (wva f s L acc).toInt < (acc.toInt + 1) * 32 ^ L
  | 0, s, acc, _, h0, _ => by
    show 0 ≤ acc.toInt ∧ acc.toInt < _
    simp
    omega
  | L + 1, s, acc, hl, h0, h1 => by
    have hc := lxL_iff.mp (hl s (by omega) (by omega))
    have h32 : (1 : Int) ≤ 32 ^ L := Int.pow_pos (by decide)
    have hp : (32 : Int) ^ (L + 1) = 32 ^ L * 32 := Int.pow_succ 32 L
    rw [hp] at h1 ⊢
    generalize hP : (32 : Int) ^ L = P at *
    have hs : acc.toInt < 33554432 := by
      have h5 := Int.mul_le_mul_of_nonneg_left (show (1 : Int) ≤ P * 32 by omega) (show 0 ≤ acc.toInt + 1 by omega)
      rw [Int.mul_one] at h5
      omega
    have e := i64_step (a := acc) (c := f s - 96) h0 (by omega) (by omega) (by omega)
    have h4 : (acc.toInt * 32 + (f s - 96) + 1) * P ≤ (acc.toInt + 1) * (P * 32) := by
      have : (acc.toInt + 1) * (P * 32) = ((acc.toInt + 1) * 32) * P := by rw [Int.mul_comm P 32, Int.mul_assoc]
      rw [this]
      exact Int.mul_le_mul_of_nonneg_right (by omega) (by omega)
    have ih := wva_bd f L (s + 1) (acc * 32 + (zI (f s - 96)).toInt64) (fun j h1 h2 => hl j (by omega) (by omega)) (by rw [e]; omega) (by rw [e, hP]; omega)
    rw [e, hP] at ih
    rw [show wva f s (L + 1) acc = wva f (s + 1) L (acc * 32 + (zI (f s - 96)).toInt64) from rfl]
    exact ⟨ih.1, by omega⟩
theorem tkE_kl {f : Nat → Int} {n s : Nat} (h : s < n) : s + kl (tkK f n s) ≤ tkE f n s := by
  have hb := tkE_bd (f := f) h
  by_cases c : lxL (f s) = true
  · have eE : tkE f n s = rn lxL f n s := by unfold tkE; rw [if_pos h, if_pos c]
    by_cases c8 : rn lxL f n s - s > 8
    · have eK : tkK f n s = 47 := by unfold tkK; rw [if_pos h, if_pos c, if_pos c8]
      rw [eK]; show s + 1 ≤ _; omega
    · have eK : tkK f n s = wk (wva f s (rn lxL f n s - s) 0) := by unfold tkK; rw [if_pos h, if_pos c, if_neg c8]
      have hle := rn_le lxL f n s
      have small : ∀ m : Nat, rn lxL f n s - s ≤ m → m ≤ 5 → (wva f s (rn lxL f n s - s) 0).toInt < 32 ^ m := by
        intro m hm h5
        have a := wva_bd f (rn lxL f n s - s) s 0 (fun j h1 h2 => rnF_all lxL f (n - s) s j h1 (by unfold rn at h2; unfold rn at hle; omega)) (by decide) (by
          rw [show (0 : Int64).toInt = 0 by decide]
          have : (32 : Int) ^ (rn lxL f n s - s) ≤ 32 ^ 5 := by exact_mod_cast Nat.pow_le_pow_right (n := 32) (by decide) (show rn lxL f n s - s ≤ 5 by omega)
          have e5 : (32 : Int) ^ 5 = 33554432 := by decide
          omega)
        rw [show (0 : Int64).toInt = 0 by decide] at a
        have : (32 : Int) ^ (rn lxL f n s - s) ≤ 32 ^ m := by exact_mod_cast Nat.pow_le_pow_right (n := 32) (by decide) hm
        omega
      have len : ∀ (m : Nat) (w : Int64), m ≤ 5 → w = wva f s (rn lxL f n s - s) 0 → (32 : Int) ^ m ≤ w.toInt → m + 1 ≤ rn lxL f n s - s := by
        intro m w hm hw hx
        rcases Nat.lt_or_ge m (rn lxL f n s - s) with h1 | h1
        · omega
        · have := small m h1 hm
          rw [← hw] at this
          omega
      rw [eK]
      unfold wk
      split
      · next e => have := len 4 _ (by decide) e (by decide); show s + 5 ≤ _; omega
      · split
        · next e => have := len 2 _ (by decide) e (by decide); show s + 3 ≤ _; omega
        · split
          · next e => have := len 1 _ (by decide) e (by decide); show s + 2 ≤ _; omega
          · split
            · next e => have := len 3 _ (by decide) e (by decide); show s + 4 ≤ _; omega
            · split
              · next e => have := len 4 _ (by decide) e (by decide); show s + 5 ≤ _; omega
              · split
                · next e => have := len 5 _ (by decide) e (by decide); show s + 6 ≤ _; omega
                · split
                  · next e => have := len 5 _ (by decide) e (by decide); show s + 6 ≤ _; omega
                  · show s + 1 ≤ _; omega
  · have k1 : kl (tkK f n s) = 1 := by
      unfold tkK
      rw [if_pos h, if_neg c]
      exact q_ite (P := fun v => kl v = 1) (q_ite (P := fun v => kl v = 1) rfl rfl) (q_ite (P := fun v => kl v = 1) (sg1_P (P := fun v => kl v = 1) (by decide) _) (sg2_P (P := fun v => kl v = 1) (by decide) _ _))
    rw [k1]; omega
theorem sp_kl {f : Nat → Int} {n i : Nat} (h : sp f n i < n) : sp f n i + kl (tkK f n (sp f n i)) ≤ sp f n (i + 1) := Nat.le_trans (tkE_kl h) (rn_le _ _ _ _)
theorem nva_bd (f : Nat → Int) : ∀ (L s : Nat) (acc : Int), (∀ j, s ≤ j → j < s + L → lxD (f j) = true) → 0 ≤ acc → acc ≤ 256 → 0 ≤ nva f s L acc ∧ nva f s L acc ≤ 256
  | 0, s, acc, _, h0, h1 => ⟨h0, h1⟩
  | L + 1, s, acc, hl, h0, h1 => by
    have hc := lxD_iff.mp (hl s (by omega) (by omega))
    exact nva_bd f L (s + 1) _ (fun j a b => hl j (by omega) (by omega)) (by omega) (by omega)
/-- a NUMBER's content -/
theorem tkC_num {f : Nat → Int} {n s : Nat} (h : tkK f n s = 23) : 0 ≤ zL (tkC f n s) ∧ zL (tkC f n s) ≤ 255 := by
  unfold tkK at h
  by_cases c1 : s < n
  · rw [if_pos c1] at h
    by_cases c2 : lxL (f s) = true
    · rw [if_pos c2] at h
      exact absurd h (q_ite (P := fun v => v ≠ 23) (by decide) (wk_P (P := fun v => v ≠ 23) (by decide) _))
    · rw [if_neg c2] at h
      by_cases c3 : lxD (f s) = true
      · rw [if_pos c3] at h
        by_cases c4 : nva f s (rn lxD f n s - s) 0 > 255
        · rw [if_pos c4] at h; exact absurd h (by decide)
        · have b := nva_bd f (rn lxD f n s - s) s 0 (fun j h1 h2 => rnF_all lxD f (n - s) s j h1 (by have := rn_le lxD f n s; unfold rn at h2 this; omega)) (by decide) (by decide)
          have e : tkC f n s = (zI (nva f s (rn lxD f n s - s) 0)).toInt64 := by unfold tkC; rw [if_pos c1, if_neg c2, if_pos c3]
          have e2 : zL (tkC f n s) = nva f s (rn lxD f n s - s) 0 := by
            rw [e]; unfold zL; rw [Int32.toInt32_toInt64]; exact zI_toInt ⟨by omega, by omega⟩
          rw [e2]; omega
      · rw [if_neg c3] at h
        exact absurd h (q_ite (P := fun v => v ≠ 23) (sg1_P (P := fun v => v ≠ 23) (by decide) _) (sg2_P (P := fun v => v ≠ 23) (by decide) _ _))
  · rw [if_neg c1] at h; exact absurd h (by decide)
