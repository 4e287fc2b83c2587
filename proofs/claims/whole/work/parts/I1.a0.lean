/-! INPUTS by number: the first counts most -/
def cod (w I : Nat → Nat) : Nat → Nat
  | 0 => 0
  | n + 1 => cod w I n * 2 ^ w n + I n
section SpP
variable {w I I' : Nat → Nat}
theorem spr_ge : ∀ n t i, n ≤ i → spr w n t i = 0
  | 0, _, _, _ => rfl
  | n + 1, t, i, h => by
    show (if i = n then _ else spr w n (t / 2 ^ w n) i) = 0
    rw [if_neg (by omega)]; exact spr_ge n _ i (by omega)
theorem spr_lt : ∀ n t i, i < n → spr w n t i < 2 ^ w i
  | 0, _, _, h => absurd h (by omega)
  | n + 1, t, i, h => by
    show (if i = n then _ else spr w n (t / 2 ^ w n) i) < _
    by_cases c : i = n
    · rw [if_pos c, c]; exact Nat.mod_lt _ (Nat.two_pow_pos _)
    · rw [if_neg c]; exact spr_lt n _ i (by omega)
theorem cod_cg : ∀ n, (∀ i, i < n → I i = I' i) → cod w I n = cod w I' n
  | 0, _ => rfl
  | n + 1, h => by
    show cod w I n * 2 ^ w n + I n = cod w I' n * 2 ^ w n + I' n
    rw [cod_cg n (fun i hi => h i (by omega)), h n (by omega)]
theorem cod_bd : ∀ n, (∀ i, i < n → I i < 2 ^ w i) → cod w I n < 2 ^ smn w n
  | 0, _ => by show 0 < 2 ^ 0; decide
  | n + 1, h => by
    have a := cod_bd n (fun i hi => h i (by omega))
    have b := h n (by omega)
    show cod w I n * 2 ^ w n + I n < 2 ^ (smn w n + w n)
    rw [Nat.pow_add]
    have c : (cod w I n + 1) * 2 ^ w n ≤ 2 ^ smn w n * 2 ^ w n := Nat.mul_le_mul_right _ a
    rw [Nat.add_mul] at c
    omega
theorem spr_cod : ∀ n, (∀ i, i < n → I i < 2 ^ w i) → ∀ i, i < n → spr w n (cod w I n) i = I i
  | 0, _, _, h => absurd h (by omega)
  | n + 1, h, i, hi => by
    have b := h n (by omega)
    have e1 : (cod w I n * 2 ^ w n + I n) % 2 ^ w n = I n := by
      rw [Nat.add_comm, Nat.add_mul_mod_self_right, Nat.mod_eq_of_lt b]
    have e2 : (cod w I n * 2 ^ w n + I n) / 2 ^ w n = cod w I n := by
      rw [Nat.add_comm, Nat.add_mul_div_right _ _ (Nat.two_pow_pos _), Nat.div_eq_of_lt b, Nat.zero_add]
    show (if i = n then (cod w I n * 2 ^ w n + I n) % 2 ^ w n else spr w n ((cod w I n * 2 ^ w n + I n) / 2 ^ w n) i) = I i
    rw [e1, e2]
    by_cases c : i = n
    · rw [if_pos c, c]
    · rw [if_neg c]; exact spr_cod n (fun i hi => h i (by omega)) i (by omega)
theorem cod_spr : ∀ n t, t < 2 ^ smn w n → cod w (spr w n t) n = t
  | 0, t, h => by
    have : t < 1 := h
    show 0 = t
    omega
  | n + 1, t, h => by
    have h' : t < 2 ^ (smn w n + w n) := h
    rw [Nat.pow_add] at h'
    have d : t / 2 ^ w n < 2 ^ smn w n := Nat.div_lt_of_lt_mul (by rw [Nat.mul_comm]; exact h')
    have e := cod_spr n (t / 2 ^ w n) d
    show cod w (spr w (n + 1) t) n * 2 ^ w n + spr w (n + 1) t n = t
    have c1 : cod w (spr w (n + 1) t) n = cod w (spr w n (t / 2 ^ w n)) n := cod_cg n (fun i hi => by
      show (if i = n then _ else spr w n (t / 2 ^ w n) i) = _
      rw [if_neg (by omega)])
    have c2 : spr w (n + 1) t n = t % 2 ^ w n := by
      show (if n = n then t % 2 ^ w n else _) = _
      rw [if_pos rfl]
    rw [c1, c2, e, Nat.mul_comm]
    exact Nat.div_add_mod t (2 ^ w n)
theorem cod_inj : ∀ n, (∀ i, i < n → I i < 2 ^ w i) → (∀ i, i < n → I' i < 2 ^ w i) → cod w I n = cod w I' n → ∀ i, i < n → I i = I' i := fun n h h' e i hi => by
  rw [← spr_cod n h i hi, ← spr_cod n h' i hi, e]
theorem cod_less : ∀ n, (∀ i, i < n → I i < 2 ^ w i) → (∀ i, i < n → I' i < 2 ^ w i) → cod w I n < cod w I' n → ∃ i, i < n ∧ I i < I' i ∧ ∀ j, j < i → I j = I' j
  | 0, _, _, h => absurd h (by show ¬ 0 < 0; omega)
  | n + 1, h, h', l => by
    have l' : cod w I n * 2 ^ w n + I n < cod w I' n * 2 ^ w n + I' n := l
    have b := h n (by omega)
    have b' := h' n (by omega)
    rcases Nat.lt_trichotomy (cod w I n) (cod w I' n) with c | c | c
    · obtain ⟨i, h1, h2, h3⟩ := cod_less n (fun i hi => h i (by omega)) (fun i hi => h' i (by omega)) c
      exact ⟨i, by omega, h2, h3⟩
    · rw [c] at l'
      exact ⟨n, by omega, by omega, cod_inj n (fun i hi => h i (by omega)) (fun i hi => h' i (by omega)) c⟩
    · exfalso
      have q : (cod w I' n + 1) * 2 ^ w n ≤ cod w I n * 2 ^ w n := Nat.mul_le_mul_right _ c
      rw [Nat.add_mul] at q
      omega
end SpP
/-- the bits of INPUTS at their leaves -/
def vbn (w I : Nat → Nat) : Nat → Nat → Bool
  | 0, g => decide (g = 0)
  | n + 1, g => if 1 + smn w n ≤ g ∧ g < 1 + smn w n + w n then (I n).testBit (g - (1 + smn w n)) else vbn w I n g
theorem smn_mono {w : Nat → Nat} : ∀ k i, smn w i ≤ smn w (i + k)
  | 0, _ => Nat.le_refl _
  | k + 1, i => by
    have := smn_mono (w := w) k i
    show smn w i ≤ smn w (i + k) + w (i + k)
    omega
theorem vbn_at {w I : Nat → Nat} : ∀ n i b, i < n → b < w i → vbn w I n (1 + smn w i + b) = (I i).testBit b
  | 0, _, _, h, _ => absurd h (by omega)
  | n + 1, i, b, h, hb => by
    show (if 1 + smn w n ≤ 1 + smn w i + b ∧ 1 + smn w i + b < 1 + smn w n + w n then (I n).testBit (1 + smn w i + b - (1 + smn w n)) else vbn w I n (1 + smn w i + b)) = _
    by_cases c : i = n
    · subst c
      rw [if_pos ⟨by omega, by omega⟩, show 1 + smn w i + b - (1 + smn w i) = b by omega]
    · have m := smn_mono (w := w) (n - (i + 1)) (i + 1)
      rw [show i + 1 + (n - (i + 1)) = n by omega] at m
      have e : smn w (i + 1) = smn w i + w i := rfl
      rw [if_neg (fun q => by omega)]
      exact vbn_at n i b (by omega) hb
theorem vbn_0 {w I : Nat → Nat} : ∀ n, vbn w I n 0 = true
  | 0 => rfl
  | n + 1 => by
    show (if 1 + smn w n ≤ 0 ∧ _ then _ else vbn w I n 0) = true
    rw [if_neg (fun q => by omega)]; exact vbn_0 n
/-- of two numbers the lesser has 0 where they differ first, from above -/
theorem nV_less {u v : Nat → Bool} {f : Nat → Int} : ∀ n, nV v f n < nV u f n → ∃ b, b < n ∧ lvb v (f b) = false ∧ lvb u (f b) = true ∧ ∀ c, b < c → c < n → lvb v (f c) = lvb u (f c)
  | 0, h => absurd h (by show ¬ 0 < 0; omega)
  | n + 1, h => by
    have h' : nV v f n + 2 ^ n * (lvb v (f n)).toNat < nV u f n + 2 ^ n * (lvb u (f n)).toNat := h
    have a := nV_lt (v := v) (f := f) n
    have b := nV_lt (v := u) (f := f) n
    cases hv : lvb v (f n) <;> cases hu : lvb u (f n) <;> rw [hv, hu] at h'
    · obtain ⟨k, k1, k2, k3, k4⟩ := nV_less n (by simpa using h')
      refine ⟨k, by omega, k2, k3, fun c c1 c2 => ?_⟩
      by_cases e : c = n
      · rw [e, hv, hu]
      · exact k4 c c1 (by omega)
    · exact ⟨n, by omega, hv, hu, fun c c1 c2 => absurd c2 (by omega)⟩
    · exfalso; simp at h'; omega
    · obtain ⟨k, k1, k2, k3, k4⟩ := nV_less n (by simpa using h')
      refine ⟨k, by omega, k2, k3, fun c c1 c2 => ?_⟩
      by_cases e : c = n
      · rw [e, hv, hu]
      · exact k4 c c1 (by omega)
/-! a run hangs on the INPUTS that there are -/
section RcP
variable {S : List q_St} {W WI WU : Nat → Int} {I I' U : Nat → Nat} {V : Nat}
theorem stI_cong2 {x : q_It} {st : List Nat} (h : cI WI WU V x) (hI : ∀ i, i < 12 → WI i ≤ 8 → I' i = I i) : stI I' U x st = stI I U x st := by
  obtain ⟨h0, -, h2, -⟩ := h
  unfold stI
  by_cases c : x.1 = 24
  · have q := h2 c
    rw [hI _ (by omega) (by rw [← q.2]; exact h0.2), if_neg (show ¬ x.1 = 23 by omega), if_pos c]
  · simp only [if_neg c]
theorem evI_cong2 (hI : ∀ i, i < 12 → WI i ≤ 8 → I' i = I i) : ∀ (l : List q_It) (st : List Nat), gI (cI WI WU V) l → evI I' U l st = evI I U l st
  | [], _, _ => rfl
  | x :: l, st, h => by
    show evI I' U l (stI I' U x st) = evI I U l (stI I U x st)
    rw [stI_cong2 (h x (by simp)) hI]
    exact evI_cong2 hI l _ (fun y hy => h y (by simp [hy]))
theorem mNx_cong2 (hS : ∀ x, x ∈ S → gI (cI WI WU V) x.2.2.2) (hI : ∀ i, i < 12 → WI i ≤ 8 → I' i = I i) (c : q_Ms) : mNx S W I' c = mNx S W I c := by
  unfold mNx
  cases hx : S[c.1]? with
  | none => rfl
  | some x =>
    have e : ∀ U, wth I' U x.2.2.2 = wth I U x.2.2.2 := fun U => by
      unfold wth
      rw [evI_cong2 hI _ _ (hS x (List.mem_of_getElem? hx))]
    simp only [e]
theorem mIt_cong2 (hS : ∀ x, x ∈ S → gI (cI WI WU V) x.2.2.2) (hI : ∀ i, i < 12 → WI i ≤ 8 → I' i = I i) : ∀ (n : Nat) (c : q_Ms), mIt S W I' n c = mIt S W I n c
  | 0, _ => rfl
  | n + 1, c => by
    show (match mNx S W I' c with | .inl c' => mIt S W I' n c' | .inr s => .inr s) = (match mNx S W I c with | .inl c' => mIt S W I n c' | .inr s => .inr s)
    rw [mNx_cong2 hS hI c]
    cases mNx S W I c with
    | inl c' => exact mIt_cong2 hS hI n c'
    | inr s => rfl
theorem runF_cong2 (hS : ∀ x, x ∈ S → gI (cI WI WU V) x.2.2.2) (hI : ∀ i, i < 12 → WI i ≤ 8 → I' i = I i) : runF S W I' = runF S W I := by
  unfold runF
  rw [mIt_cong2 hS hI]
end RcP
