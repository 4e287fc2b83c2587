/-! THE SCANNER: what tokens are, as functions of the bytes f and their number n -/
def lxL (x : Int) : Bool := decide (97 ≤ x ∧ x ≤ 122)
def lxD (x : Int) : Bool := decide (48 ≤ x ∧ x ≤ 57)
def lxB (x : Int) : Bool := decide (x = 32 ∨ x = 10)
def rnF (P : Int → Bool) (f : Nat → Int) : Nat → Nat → Nat
  | 0, i => i
  | k + 1, i => if P (f i) = true then rnF P f k (i + 1) else i
/-- behind the run of what is so, from i on -/
def rn (P : Int → Bool) (f : Nat → Int) (n i : Nat) : Nat := rnF P f (n - i) i
theorem rn_ge {P : Int → Bool} {f : Nat → Int} {n i : Nat} (h : n ≤ i) : rn P f n i = i := by
  unfold rn
  rw [show n - i = 0 by omega]
  rfl
theorem rn_no {P : Int → Bool} {f : Nat → Int} {n i : Nat} (h : P (f i) = false) : rn P f n i = i := by
  unfold rn
  cases hk : n - i with
  | zero => rfl
  | succ k => unfold rnF; rw [h]; rfl
theorem rn_yes {P : Int → Bool} {f : Nat → Int} {n i : Nat} (hi : i < n) (h : P (f i) = true) : rn P f n i = rn P f n (i + 1) := by
  unfold rn
  rw [show n - i = (n - (i + 1)) + 1 by omega]
  show (if P (f i) = true then rnF P f (n - (i + 1)) (i + 1) else i) = _
  rw [if_pos h]
theorem rnF_le (P : Int → Bool) (f : Nat → Int) : ∀ k i, i ≤ rnF P f k i ∧ rnF P f k i ≤ i + k
  | 0, i => ⟨Nat.le_refl _, Nat.le_refl _⟩
  | k + 1, i => by
    unfold rnF
    split
    · have := rnF_le P f k (i + 1); omega
    · omega
theorem rn_le (P : Int → Bool) (f : Nat → Int) (n i : Nat) : i ≤ rn P f n i := (rnF_le P f _ i).1
theorem rn_bd {P : Int → Bool} {f : Nat → Int} {n i : Nat} (h : i ≤ n) : rn P f n i ≤ n := by
  have := (rnF_le P f (n - i) i).2
  unfold rn
  omega
theorem rn_gt {P : Int → Bool} {f : Nat → Int} {n i : Nat} (hi : i < n) (h : P (f i) = true) : i < rn P f n i := by
  rw [rn_yes hi h]
  exact rn_le P f n (i + 1)
def wva (f : Nat → Int) : Nat → Nat → Int64 → Int64
  | _, 0, acc => acc
  | i, k + 1, acc => wva f (i + 1) k (acc * 32 + (zI (f i - 96)).toInt64)
def nva (f : Nat → Int) : Nat → Nat → Int → Int
  | _, 0, acc => acc
  | i, k + 1, acc => nva f (i + 1) k (min (acc * 10 + (f i - 48)) 256)
def wds : List Int64 := [9913012, 22578, 294, 176741, 24388997, 54105684, 54121893]
def wk (x : Int64) : Int := if wds.getD 0 0 = x then 39 else if wds.getD 1 0 = x then 40 else if wds.getD 2 0 = x then 41 else if wds.getD 3 0 = x then 42 else if wds.getD 4 0 = x then 43 else if wds.getD 5 0 = x then 44 else if wds.getD 6 0 = x then 45 else 30
def sg2 (a b : Int) : Int :=
  if a = 61 then (if b = 61 then 6 else 47) else if a = 33 then (if b = 61 then 7 else 47)
  else if a = 60 then (if b = 61 then 9 else if b = 60 then 12 else 47) else if a = 62 then (if b = 61 then 11 else if b = 62 then 13 else 47)
  else if a = 38 then (if b = 38 then 2 else 47) else if a = 124 then (if b = 124 then 1 else 47) else 47
def sg1 (a : Int) : Int :=
  if a = 59 then 32 else if a = 58 then 33 else if a = 40 then 35 else if a = 41 then 36 else if a = 123 then 37 else if a = 125 then 38 else if a = 61 then 31 else if a = 63 then 34 else if a = 33 then 19 else if a = 126 then 20
  else if a = 43 then 14 else if a = 45 then 15 else if a = 42 then 16 else if a = 47 then 17 else if a = 37 then 18 else if a = 38 then 5 else if a = 124 then 3 else if a = 94 then 4 else if a = 60 then 8 else if a = 62 then 10 else 47
def nx (f : Nat → Int) (n s : Nat) : Int := if s + 1 < n then f (s + 1) else 0
def tkE (f : Nat → Int) (n s : Nat) : Nat := if s < n then (if lxL (f s) = true then rn lxL f n s else if lxD (f s) = true then rn lxD f n s else if sg2 (f s) (nx f n s) = 47 then s + 1 else s + 2) else s
def tkK (f : Nat → Int) (n s : Nat) : Int := if s < n then (if lxL (f s) = true then (if rn lxL f n s - s > 8 then 47 else wk (wva f s (rn lxL f n s - s) 0)) else if lxD (f s) = true then (if nva f s (rn lxD f n s - s) 0 > 255 then 47 else 23) else if sg2 (f s) (nx f n s) = 47 then sg1 (f s) else sg2 (f s) (nx f n s)) else 46
def tkC (f : Nat → Int) (n s : Nat) : Int64 := if s < n then (if lxL (f s) = true then wva f s (rn lxL f n s - s) 0 else if lxD (f s) = true then (zI (nva f s (rn lxD f n s - s) 0)).toInt64 else 0) else 0
theorem lxL_iff {x : Int} : lxL x = true ↔ (97 ≤ x ∧ x ≤ 122) := by unfold lxL; exact decide_eq_true_iff
theorem lxL_no {x : Int} : lxL x = false ↔ ¬ (97 ≤ x ∧ x ≤ 122) := by unfold lxL; exact decide_eq_false_iff_not
theorem lxD_iff {x : Int} : lxD x = true ↔ (48 ≤ x ∧ x ≤ 57) := by unfold lxD; exact decide_eq_true_iff
theorem lxD_no {x : Int} : lxD x = false ↔ ¬ (48 ≤ x ∧ x ≤ 57) := by unfold lxD; exact decide_eq_false_iff_not
theorem lxB_iff {x : Int} : lxB x = true ↔ (x = 32 ∨ x = 10) := by unfold lxB; exact decide_eq_true_iff
theorem lxB_no {x : Int} : lxB x = false ↔ ¬ (x = 32 ∨ x = 10) := by unfold lxB; exact decide_eq_false_iff_not
theorem q_ite {P : Int → Prop} {c : Prop} [Decidable c] {a b : Int} (h1 : P a) (h2 : P b) : P (if c then a else b) := by split <;> assumption
theorem sg1_P {P : Int → Prop} (h : ∀ v ∈ [32, 33, 35, 36, 37, 38, 31, 34, 19, 20, 14, 15, 16, 17, 18, 5, 3, 4, 8, 10, 47], P v) (a : Int) : P (sg1 a) := by
  unfold sg1
  repeat (first | exact h _ (by decide) | refine q_ite (h _ (by decide)) ?_)
theorem sg2_P {P : Int → Prop} (h : ∀ v ∈ [6, 7, 9, 12, 11, 13, 2, 1, 47], P v) (a b : Int) : P (sg2 a b) := by
  unfold sg2
  refine q_ite (q_ite (h _ (by decide)) (h _ (by decide))) (q_ite (q_ite (h _ (by decide)) (h _ (by decide))) (q_ite (q_ite (h _ (by decide)) (q_ite (h _ (by decide)) (h _ (by decide)))) (q_ite (q_ite (h _ (by decide)) (q_ite (h _ (by decide)) (h _ (by decide)))) (q_ite (q_ite (h _ (by decide)) (h _ (by decide))) (q_ite (q_ite (h _ (by decide)) (h _ (by decide))) (h _ (by decide)))))))
theorem wk_P {P : Int → Prop} (h : ∀ v ∈ [39, 40, 41, 42, 43, 44, 45, 30], P v) (x : Int64) : P (wk x) := by
  unfold wk
  repeat (first | exact h _ (by decide) | refine q_ite (h _ (by decide)) ?_)
section ScJ
variable {ω : q_W} {d : Nat} {Q : q_R → q_H → Prop}
theorem l_Sc_word_7 {x3 : Int} {n : Nat} (hn2 : n ≤ 4096) : ∀ (k i : Nat) (x1 : Int64) (σ : q_H), n - i = k → i ≤ n → q_E σ → z σ 2 2 = (n : Int) → z σ 2 3 = (i : Int) →
    J ω m_Sc_word (d + 1) 0 0 0 0 68 [(0, .ref 2), (1, .long (wva (z σ 3) i (rn lxL (z σ 3) n i - i) x1)), (3, .int (zI x3))] [] (zs σ 2 3 (rn lxL (z σ 3) n i : Nat)) Q →
    J ω m_Sc_word (d + 1) 0 0 0 0 7 [(0, .ref 2), (1, .long x1), (3, .int (zI x3))] [] σ Q := by
  intro k
  induction k with
  | zero =>
    intro i x1 σ hk hin hE hn hi kk
    refine b_Sc_word_7 hE ?_
    rw [hi, hn]
    refine ⟨fun _ => ?_, fun c => absurd c (by omega)⟩
    rw [rn_ge (by omega), show i - i = 0 by omega, zs_self hi] at kk
    exact kk
  | succ k ih =>
    intro i x1 σ hk hin hE hn hi kk
    refine b_Sc_word_7 hE ?_
    rw [hi, hn, Int.toNat_natCast]
    refine ⟨fun c => absurd c (by omega), fun c => ⟨⟨by omega, by omega⟩, fun c2 => ?_, fun c2 => ?_⟩⟩
    · rw [rn_no (lxL_no.mpr (zIf_eq.mp c2)), show i - i = 0 by omega, zs_self hi] at kk
      exact kk
    · have hy := rn_yes (P := lxL) (n := n) (by omega) (lxL_iff.mpr (zIf_ne.mp c2))
      have hl := rn_le lxL (z σ 3) n (i + 1)
      rw [hy, show rn lxL (z σ 3) n (i + 1) - i = (rn lxL (z σ 3) n (i + 1) - (i + 1)) + 1 by omega] at kk
      refine ih (i + 1) _ _ (by omega) (by omega) (zs_E hE) ?_ ?_ ?_
      · rw [z_k (by decide), hn]
      · rw [z_s ⟨by omega, by omega⟩]; omega
      · rw [z_oF (by decide), zs_zs]
        exact kk
theorem l_Sc_digits_2 {n : Nat} (hn2 : n ≤ 4096) : ∀ (k i : Nat) (x1 : Int) (σ : q_H), n - i = k → i ≤ n → 0 ≤ x1 → x1 ≤ 256 → q_E σ → z σ 2 2 = (n : Int) → z σ 2 3 = (i : Int) →
    (0 ≤ nva (z σ 3) i (rn lxD (z σ 3) n i - i) x1 → nva (z σ 3) i (rn lxD (z σ 3) n i - i) x1 ≤ 256 → J ω m_Sc_digits (d + 1) 0 0 0 0 65 [(0, .ref 2), (1, .int (zI (nva (z σ 3) i (rn lxD (z σ 3) n i - i) x1)))] [] (zs σ 2 3 (rn lxD (z σ 3) n i : Nat)) Q) →
    J ω m_Sc_digits (d + 1) 0 0 0 0 2 [(0, .ref 2), (1, .int (zI x1))] [] σ Q := by
  intro k
  induction k with
  | zero =>
    intro i x1 σ hk hin h0 h1 hE hn hi kk
    refine b_Sc_digits_2 hE ?_
    rw [hi, hn]
    refine ⟨fun _ => ?_, fun c => absurd c (by omega)⟩
    rw [rn_ge (by omega), show i - i = 0 by omega, zs_self hi] at kk
    exact kk h0 h1
  | succ k ih =>
    intro i x1 σ hk hin h0 h1 hE hn hi kk
    refine b_Sc_digits_2 hE ?_
    rw [hi, hn, Int.toNat_natCast]
    refine ⟨fun c => absurd c (by omega), fun c => ⟨⟨by omega, by omega⟩, fun c2 => ?_, fun c2 => ?_⟩⟩
    · rw [rn_no (lxD_no.mpr (zIf_eq.mp c2)), show i - i = 0 by omega, zs_self hi] at kk
      exact kk h0 h1
    · have hc := zIf_ne.mp c2
      have hy := rn_yes (P := lxD) (n := n) (by omega) (lxD_iff.mpr hc)
      have hl := rn_le lxD (z σ 3) n (i + 1)
      rw [hy, show rn lxD (z σ 3) n (i + 1) - i = (rn lxD (z σ 3) n (i + 1) - (i + 1)) + 1 by omega] at kk
      refine ⟨⟨by omega, by omega⟩, ih (i + 1) _ _ (by omega) (by omega) (by omega) (by omega) (zs_E hE) ?_ ?_ ?_⟩
      · rw [z_k (by decide), hn]
      · rw [z_s ⟨by omega, by omega⟩]; omega
      · rw [z_oF (by decide), zs_zs]
        exact kk
theorem l_Sc_word_95 {x1 : Int64} {σ : q_H} (hE : q_E σ) (hw : ∀ j, j < 7 → q_l σ 7 j = wds.getD j 0) (kk : Q (.inl (some (.int (zI (wk x1))))) σ) : J ω m_Sc_word (d + 1) 0 0 0 0 95 [(0, .ref 2), (1, .long x1), (4, .int (zI 0))] [] σ Q := by
  have st : ∀ (i : Nat), i < 7 → (wds.getD i 0 = x1 → Q (.inl (some (.int (zI ((i : Int) + 39))))) σ) → (wds.getD i 0 ≠ x1 → J ω m_Sc_word (d + 1) 0 0 0 0 95 [(0, .ref 2), (1, .long x1), (4, .int (zI ((i : Int) + 1)))] [] σ Q) → J ω m_Sc_word (d + 1) 0 0 0 0 95 [(0, .ref 2), (1, .long x1), (4, .int (zI (i : Int)))] [] σ Q := by
    intro i hi h1 h2
    refine b_Sc_word_95 hE ⟨⟨by omega, by omega⟩, fun c => absurd c (by omega), fun _ => ⟨⟨by omega, by omega⟩, fun c => h2 ?_, fun c => h1 ?_⟩⟩
    · rw [Int.toNat_natCast, hw i hi] at c; exact c
    · rw [Int.toNat_natCast, hw i hi] at c; exact c
  refine st 0 (by decide) (fun c => ?_) (fun c0 => st 1 (by decide) (fun c => ?_) (fun c1 => st 2 (by decide) (fun c => ?_) (fun c2 => st 3 (by decide) (fun c => ?_) (fun c3 => st 4 (by decide) (fun c => ?_) (fun c4 => st 5 (by decide) (fun c => ?_) (fun c5 => st 6 (by decide) (fun c => ?_) (fun c6 => ?_)))))))
  · unfold wk at kk; rw [if_pos c] at kk; exact kk
  · unfold wk at kk; rw [if_neg c0, if_pos c] at kk; exact kk
  · unfold wk at kk; rw [if_neg c0, if_neg c1, if_pos c] at kk; exact kk
  · unfold wk at kk; rw [if_neg c0, if_neg c1, if_neg c2, if_pos c] at kk; exact kk
  · unfold wk at kk; rw [if_neg c0, if_neg c1, if_neg c2, if_neg c3, if_pos c] at kk; exact kk
  · unfold wk at kk; rw [if_neg c0, if_neg c1, if_neg c2, if_neg c3, if_neg c4, if_pos c] at kk; exact kk
  · unfold wk at kk; rw [if_neg c0, if_neg c1, if_neg c2, if_neg c3, if_neg c4, if_neg c5, if_pos c] at kk; exact kk
  · unfold wk at kk; rw [if_neg c0, if_neg c1, if_neg c2, if_neg c3, if_neg c4, if_neg c5, if_neg c6] at kk
    exact b_Sc_word_95 hE ⟨⟨by decide, by decide⟩, fun _ => kk, fun c => absurd c (by decide)⟩
theorem wk_R (x : Int64) : inR (wk x) := by
  have := wk_P (P := fun v => 30 ≤ v ∧ v ≤ 45) (by decide) x
  exact ⟨by omega, by omega⟩
theorem c_Sc_word {σ : q_H} {K : Int → q_H → Prop} {n i t : Nat} (hd : 1 ≤ d) (hE : q_E σ) (hn2 : n ≤ 4096) (hn : z σ 2 2 = (n : Int)) (hi : z σ 2 3 = (i : Int)) (hin : i < n) (ht : z σ 2 4 = (t : Int)) (ht2 : t < 4097) (hw : ∀ j, j < 7 → q_l σ 7 j = wds.getD j 0)
    (kk : K (if rn lxL (z σ 3) n i - i > 8 then 47 else wk (wva (z σ 3) i (rn lxL (z σ 3) n i - i) 0)) (zt (zs σ 2 3 (rn lxL (z σ 3) n i : Nat)) 6 t (wva (z σ 3) i (rn lxL (z σ 3) n i - i) 0))) :
    J ω m_Sc_word d 0 0 0 0 0 [(0, .ref 2)] [] σ (q_ki K) := by
  obtain ⟨d, rfl⟩ : ∃ k, d = k + 1 := ⟨d - 1, by omega⟩
  refine b_Sc_word_0 hE ?_
  rw [hi]
  have hb := rn_bd (P := lxL) (f := z σ 3) (Nat.le_of_lt hin)
  have hl := rn_le lxL (z σ 3) n i
  refine l_Sc_word_7 hn2 _ i 0 σ rfl (Nat.le_of_lt hin) hE hn hi (b_Sc_word_68 (zs_E hE) ?_)
  rw [z_k (by decide), ht, z_s ⟨by omega, by omega⟩, Int.toNat_natCast]
  refine ⟨⟨by omega, by omega⟩, ⟨by omega, by omega⟩, fun c => ?_, fun c => ?_⟩
  · rw [if_neg (by omega)] at kk
    exact l_Sc_word_95 (zt_E (zs_E hE)) (fun j hj => (zt_o (by decide)).trans (hw j hj)) ⟨_, wk_R _, rfl, kk⟩
  · rw [if_pos (by omega)] at kk
    exact ⟨_, ⟨by decide, by decide⟩, rfl, kk⟩
theorem c_Sc_digits {σ : q_H} {K : Int → q_H → Prop} {n i t : Nat} (hd : 1 ≤ d) (hE : q_E σ) (hn2 : n ≤ 4096) (hn : z σ 2 2 = (n : Int)) (hi : z σ 2 3 = (i : Int)) (hin : i < n) (ht : z σ 2 4 = (t : Int)) (ht2 : t < 4097)
    (kk : K (if nva (z σ 3) i (rn lxD (z σ 3) n i - i) 0 > 255 then 47 else 23) (zt (zs σ 2 3 (rn lxD (z σ 3) n i : Nat)) 6 t (zI (nva (z σ 3) i (rn lxD (z σ 3) n i - i) 0)).toInt64)) :
    J ω m_Sc_digits d 0 0 0 0 0 [(0, .ref 2)] [] σ (q_ki K) := by
  obtain ⟨d, rfl⟩ : ∃ k, d = k + 1 := ⟨d - 1, by omega⟩
  refine b_Sc_digits_0 hE ?_
  refine l_Sc_digits_2 hn2 _ i 0 σ rfl (Nat.le_of_lt hin) (by decide) (by decide) hE hn hi (fun h0 h1 => b_Sc_digits_65 (zs_E hE) ?_)
  rw [z_k (by decide), ht, Int.toNat_natCast]
  refine ⟨⟨by omega, by omega⟩, ⟨by omega, by omega⟩, fun c => ?_, fun c => ?_⟩
  · rw [if_neg (by omega)] at kk
    exact ⟨_, ⟨by decide, by decide⟩, rfl, kk⟩
  · rw [if_pos (by omega)] at kk
    exact ⟨_, ⟨by decide, by decide⟩, rfl, kk⟩
end ScJ
