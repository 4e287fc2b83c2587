/-! The class works an EXPR out -/
theorem zIfT : zIf ((1 : Int) ≠ 0) = 1 := by decide
theorem zIfF : zIf ((0 : Int) ≠ 0) = 0 := by decide
def stq (f : Nat → Int) : List Nat → Prop
  | [] => True
  | x :: r => f r.length = (x : Int) ∧ stq f r
theorem stq_cong {f g : Nat → Int} : ∀ (st : List Nat), stq f st → (∀ j, j < st.length → g j = f j) → stq g st
  | [], _, _ => trivial
  | x :: r, h, e => ⟨by rw [e _ (by simp)]; exact h.1, stq_cong r h.2 (fun j hj => e j (by simp; omega))⟩
theorem stq_last {f : Nat → Int} : ∀ (st : List Nat), stq f st → st ≠ [] → f 0 = ((st.getLastD 0 : Nat) : Int)
  | [], _, h => absurd rfl h
  | [x], h, _ => h.1
  | x :: y :: r, h, _ => by
    have := stq_last (y :: r) h.2 (by simp)
    rw [this]
    simp [List.getLastD]
section CwP
variable {ω : q_W} {d m p w : Nat} {σ : q_H}
theorem emodN {a : Int} {M : Nat} (hM : 0 < M) : a % (M : Int) = (((a % (M : Int)).toNat : Nat) : Int) := by
  have := Int.emod_nonneg a (show (M : Int) ≠ 0 by omega)
  omega
theorem c_single {K : Int → q_H → Prop} {u : Int} {x : Nat} (hd : 1 ≤ d) (hE : q_E σ) (hu : 19 ≤ u ∧ u ≤ 21) (hx : x < 256) (kk : ∀ r, (∀ k : Nat, k ≤ 8 → zAnd r (zShl 1 (k : Int) - 1) = ((op1c u k x : Nat) : Int)) → K r σ) : J ω m_Ma_single d 0 0 0 0 0 [(0, .int (zI u)), (1, .int (zI (x : Int)))] [] σ (q_ki K) := by
  obtain ⟨d, rfl⟩ : ∃ k, d = k + 1 := ⟨d - 1, by omega⟩
  refine b_Ma_single_0 hE ⟨⟨by omega, by omega⟩, fun c => ⟨fun c2 => ⟨_, ⟨by omega, by omega⟩, rfl, kk _ (fun k hk => ?_)⟩, fun c2 => ⟨zXor (x : Int) (-1), inR_of _, rfl, kk _ (fun k hk => ?_)⟩⟩, fun c => ⟨⟨by omega, by omega⟩, fun c2 => ⟨_, ⟨by decide, by decide⟩, rfl, kk _ (fun k hk => ?_)⟩, fun c2 => ⟨_, ⟨by decide, by decide⟩, rfl, kk _ (fun k hk => ?_)⟩⟩⟩
  · rw [cutN hk, emodN (Nat.two_pow_pos k)]
    unfold op1c
    rw [if_neg c, if_neg c2]
  · rw [cutN hk, zXor_n1 x hx, emodN (Nat.two_pow_pos k)]
    unfold op1c
    rw [if_neg c, if_pos c2]
  · rw [cutN hk, zIfF]
    unfold op1c tru
    rw [if_pos c, if_neg (by omega)]
    simp
  · rw [cutN hk, zIfT]
    unfold op1c tru
    rw [if_pos c, if_pos (by omega)]
    norm_cast
theorem cut_n {k a : Nat} {r : Int} (hk : k ≤ 8) (h : r = (a : Int)) : zAnd r (zShl 1 (k : Int) - 1) = ((a % 2 ^ k : Nat) : Int) := by
  rw [cutN hk, h, ← Int.natCast_emod]
theorem c_both {K : Int → q_H → Prop} {j x y k : Nat} (hd : 1 ≤ d) (hE : q_E σ) (hj : 1 ≤ j ∧ j ≤ 18) (hx : x < 256) (hy : y < 256) (hk : 1 ≤ k ∧ k ≤ 8) (kk : ∀ r, zAnd r (zShl 1 (k : Int) - 1) = ((op2c (j : Int) k x y : Nat) : Int) → K r σ) : J ω m_Ma_both d 0 0 0 0 0 [(0, .int (zI (j : Int))), (1, .int (zI (x : Int))), (2, .int (zI (y : Int))), (3, .int (zI (k : Int)))] [] σ (q_ki K) := by
  obtain ⟨d, rfl⟩ : ∃ k, d = k + 1 := ⟨d - 1, by omega⟩
  have pxy : 0 ≤ (x : Int) * (y : Int) ∧ (x : Int) * (y : Int) ≤ 256 * 256 := ⟨Int.mul_nonneg (by omega) (by omega), Int.mul_le_mul (by omega) (by omega) (by omega) (by decide)⟩
  have xR : inR (x : Int) := ⟨by omega, by omega⟩
  have yR : inR (y : Int) := ⟨by omega, by omega⟩
  have kR : inR (k : Int) := ⟨by omega, by omega⟩
  have M0 := Nat.two_pow_pos k
  have gt : ∀ {r : Int} (a : Nat), j ≠ 15 → inR r → r = (a : Int) → a % 2 ^ k = op2 (j : Int) k x y % 2 ^ k → q_ki K (.inl (some (.int (zI r)))) σ := fun {r} a h15 h0 h1 h2 => by
    refine ⟨r, h0, rfl, kk r ?_⟩
    rw [cut_n hk.2 h1, h2]
    unfold op2c
    rw [if_neg (by omega)]
  have t1 : ∀ {b : Prop} [Decidable b], j ≠ 15 → b → op2 (j : Int) k x y = tru b → q_ki K (.inl (some (.int (zI (zIf ((1 : Int) ≠ 0)))))) σ := fun {b} _ h15 hb h2 => gt 1 h15 ⟨by decide, by decide⟩ zIfT (by rw [h2]; unfold tru; rw [if_pos hb])
  have t0 : ∀ {b : Prop} [Decidable b], j ≠ 15 → ¬ b → op2 (j : Int) k x y = tru b → q_ki K (.inl (some (.int (zI (zIf ((0 : Int) ≠ 0)))))) σ := fun {b} _ h15 hb h2 => gt 0 h15 ⟨by decide, by decide⟩ zIfF (by rw [h2]; unfold tru; rw [if_neg hb])
  have hc : j = 1 ∨ j = 2 ∨ j = 3 ∨ j = 4 ∨ j = 5 ∨ j = 6 ∨ j = 7 ∨ j = 8 ∨ j = 9 ∨ j = 10 ∨ j = 11 ∨ 12 ≤ j := by omega
  refine b_Ma_both_0 hE ⟨⟨by omega, by omega⟩, fun c => ⟨xR, fun c2 => ?_, fun c2 => ⟨yR, fun c3 => ?_, fun c3 => ?_⟩⟩, fun c => ⟨xR, fun c2 => ?_, fun c2 => ⟨yR, fun c3 => ?_, fun c3 => ?_⟩⟩, fun c => ?_, fun c => ?_, fun c => ?_, fun c => ⟨xR, yR, fun c2 => ?_, fun c2 => ?_⟩, fun c => ⟨xR, yR, fun c2 => ?_, fun c2 => ?_⟩, fun c => ⟨xR, yR, fun c2 => ?_, fun c2 => ?_⟩, fun c => ⟨xR, yR, fun c2 => ?_, fun c2 => ?_⟩, fun c => ⟨xR, yR, fun c2 => ?_, fun c2 => ?_⟩, fun c => ⟨xR, yR, fun c2 => ?_, fun c2 => ?_⟩, fun c => ?_⟩
  · obtain rfl : j = 1 := by omega
    exact t1 (b := x ≠ 0 ∨ y ≠ 0) (by omega) (by omega) rfl
  · obtain rfl : j = 1 := by omega
    exact t0 (b := x ≠ 0 ∨ y ≠ 0) (by omega) (by omega) rfl
  · obtain rfl : j = 1 := by omega
    exact t1 (b := x ≠ 0 ∨ y ≠ 0) (by omega) (by omega) rfl
  · obtain rfl : j = 2 := by omega
    exact t0 (b := x ≠ 0 ∧ y ≠ 0) (by omega) (by omega) rfl
  · obtain rfl : j = 2 := by omega
    exact t0 (b := x ≠ 0 ∧ y ≠ 0) (by omega) (by omega) rfl
  · obtain rfl : j = 2 := by omega
    exact t1 (b := x ≠ 0 ∧ y ≠ 0) (by omega) (by omega) rfl
  · obtain rfl : j = 3 := by omega
    exact gt _ (by omega) (inR_of _) (zOr_n (by omega) (by omega)) rfl
  · obtain rfl : j = 4 := by omega
    exact gt _ (by omega) (inR_of _) (zXor_n (by omega) (by omega)) rfl
  · obtain rfl : j = 5 := by omega
    exact gt _ (by omega) (inR_of _) (zAnd_n (by omega)) rfl
  · obtain rfl : j = 6 := by omega
    exact t0 (b := x = y) (by omega) (by omega) rfl
  · obtain rfl : j = 6 := by omega
    exact t1 (b := x = y) (by omega) (by omega) rfl
  · obtain rfl : j = 7 := by omega
    exact t0 (b := x ≠ y) (by omega) (by omega) rfl
  · obtain rfl : j = 7 := by omega
    exact t1 (b := x ≠ y) (by omega) (by omega) rfl
  · obtain rfl : j = 8 := by omega
    exact t0 (b := x < y) (by omega) (by omega) rfl
  · obtain rfl : j = 8 := by omega
    exact t1 (b := x < y) (by omega) (by omega) rfl
  · obtain rfl : j = 9 := by omega
    exact t0 (b := x ≤ y) (by omega) (by omega) rfl
  · obtain rfl : j = 9 := by omega
    exact t1 (b := x ≤ y) (by omega) (by omega) rfl
  · obtain rfl : j = 10 := by omega
    exact t0 (b := y < x) (by omega) (by omega) rfl
  · obtain rfl : j = 10 := by omega
    exact t1 (b := y < x) (by omega) (by omega) rfl
  · obtain rfl : j = 11 := by omega
    exact t0 (b := y ≤ x) (by omega) (by omega) rfl
  · obtain rfl : j = 11 := by omega
    exact t1 (b := y ≤ x) (by omega) (by omega) rfl
  have h12 : 12 ≤ j := by omega
  clear hc t1 t0
  have rt : ∀ {r : Int}, q_ki K (.inl (some (.int (zI r)))) σ → q_ki (fun v τ => J ω m_Ma_both (d + 1) 0 0 0 0 197 [] [.int (zI v)] τ (q_ki K)) (.inl (some (.int (zI r)))) σ := fun {r} h => by
    obtain ⟨v, h1, h2, h3⟩ := h
    exact ⟨v, h1, h2, b_Ma_both_197 hE ⟨v, h1, rfl, h3⟩⟩
  refine b_Ma_arithmetic_0 hE ⟨⟨by omega, by omega⟩, fun c => ⟨yR, kR, fun c2 => rt ?_, fun c2 => rt ?_⟩, fun c => ⟨yR, kR, fun c2 => rt ?_, fun c2 => rt ?_⟩, fun c => rt ?_, fun c => rt ?_, fun c => rt ?_, fun c => ⟨yR, fun c2 => ⟨⟨yR, c2⟩, rt ?_⟩, fun c2 => rt ?_⟩, fun c => ⟨yR, fun c2 => ⟨⟨yR, c2⟩, rt ?_⟩, fun c2 => rt ?_⟩⟩
  · obtain rfl : j = 12 := by omega
    refine gt _ (by omega) (inR_of _) (zShl_n y (by omega) x hx) ?_
    show _ = (if k ≤ y then 0 else x * 2 ^ y % 2 ^ k) % 2 ^ k
    rw [if_neg (by omega), Nat.mod_mod]
  · obtain rfl : j = 12 := by omega
    refine gt 0 (by omega) ⟨by decide, by decide⟩ rfl ?_
    show _ = (if k ≤ y then 0 else x * 2 ^ y % 2 ^ k) % 2 ^ k
    rw [if_pos (by omega)]
  · obtain rfl : j = 13 := by omega
    refine gt (x / 2 ^ y) (by omega) (inR_of _) ((zShr_e ⟨by omega, by omega⟩ (by omega)).trans (by norm_cast)) ?_
    show _ = (if k ≤ y then 0 else x / 2 ^ y) % 2 ^ k
    rw [if_neg (by omega)]
  · obtain rfl : j = 13 := by omega
    refine gt 0 (by omega) ⟨by decide, by decide⟩ rfl ?_
    show _ = (if k ≤ y then 0 else x / 2 ^ y) % 2 ^ k
    rw [if_pos (by omega)]
  · obtain rfl : j = 14 := by omega
    refine gt (x + y) (by omega) ⟨by omega, by omega⟩ (by omega) ?_
    show _ = (x + y) % 2 ^ k % 2 ^ k
    rw [Nat.mod_mod]
  · obtain rfl : j = 15 := by omega
    refine ⟨_, ⟨by omega, by omega⟩, rfl, kk _ ?_⟩
    rw [cutN hk.2, emodN M0]
    rfl
  · obtain rfl : j = 16 := by omega
    refine gt (x * y) (by omega) ⟨by omega, by omega⟩ (by rw [Int.natCast_mul]) ?_
    show _ = x * y % 2 ^ k % 2 ^ k
    rw [Nat.mod_mod]
  · obtain rfl : j = 17 := by omega
    refine gt _ (by omega) (inR_of _) (zDiv_n hx hy (by omega)) ?_
    show _ = (if y = 0 then 2 ^ k - 1 else x / y) % 2 ^ k
    rw [if_neg (by omega)]
  · obtain rfl : j = 17 := by omega
    refine ⟨-1, ⟨by decide, by decide⟩, rfl, kk _ ?_⟩
    rw [cutN hk.2, neg_mod hk.2]
    show _ = ((((if y = 0 then 2 ^ k - 1 else x / y) % 2 ^ k : Nat)) : Int)
    rw [if_pos (by omega), Nat.mod_eq_of_lt (by omega)]
  · obtain rfl : j = 18 := by omega
    refine gt _ (by omega) (inR_of _) (zRem_n hx hy (by omega)) ?_
    show _ = (if y = 0 then x else x % y) % 2 ^ k
    rw [if_neg (by omega)]
  · obtain rfl : j = 18 := by omega
    refine gt x (by omega) xR rfl ?_
    show _ = (if y = 0 then x else x % y) % 2 ^ k
    rw [if_pos (by omega)]
/-- the items of a list stand from a on -/
def itA (p : Nat) (σ : q_H) (a : Nat) (l : List q_It) : Prop := ∀ j x, l[j]? = some x → z σ (p + 10) (a + j) = x.1 ∧ z σ (p + 11) (a + j) = x.2.1 ∧ z σ (p + 12) (a + j) = x.2.2
def okI (x : q_It) : Prop := (1 ≤ x.1 ∧ x.1 ≤ 25) ∧ (x.1 = 23 → 0 ≤ x.2.1 ∧ x.2.1 < 256) ∧ (24 ≤ x.1 → 0 ≤ x.2.1 ∧ x.2.1 < 12) ∧ (1 ≤ x.2.2 ∧ x.2.2 ≤ 8)
def b256 (f : Nat → Int) : Prop := ∀ i, i < 12 → 0 ≤ f i ∧ f i < 256
theorem op_256 {k : Nat} (hk : k ≤ 8) (a : Nat) : a % 2 ^ k < 256 := Nat.lt_of_lt_of_le (Nat.mod_lt _ (Nat.two_pow_pos k)) (Nat.pow_le_pow_right (n := 2) (by decide) hk)
theorem em_256 {k : Nat} (hk : k ≤ 8) (a : Int) : (a % ((2 ^ k : Nat) : Int)).toNat < 256 := by
  have h1 : (2 ^ k : Nat) ≤ 256 := Nat.pow_le_pow_right (n := 2) (by decide) hk
  have h0 := Nat.two_pow_pos k
  generalize 2 ^ k = M at h0 h1
  have := Int.emod_lt_of_pos a (show (0 : Int) < (M : Int) by omega)
  omega
theorem op2c_256 {u : Int} {k x y : Nat} (hk : k ≤ 8) : op2c u k x y < 256 := by
  unfold op2c
  split
  · exact em_256 hk _
  · exact op_256 hk _
theorem op1c_256 {u : Int} {k x : Nat} (hk : k ≤ 8) : op1c u k x < 256 := by
  unfold op1c
  split
  · exact op_256 hk _
  · split <;> exact em_256 hk _
theorem l_worth {K : Int → q_H → Prop} {σ0 : q_H} {I U : Nat → Nat} (hd : 2 ≤ d) (hm : m = 43 ∨ m = 87) (hp : p = 16 ∨ p = 29) (hw : w = 42 ∨ w = 91) (r5 : q_r σ0 m 5 = p) (r6 : q_r σ0 m 6 = w) (hE0 : q_E σ0) (hI : b256 (z σ0 w)) (hU : b256 (z σ0 (m + 1))) (eI : I = nw (z σ0 w)) (eU : U = nw (z σ0 (m + 1))) {x2 : Nat} (h2 : x2 ≤ 4096) :
    ∀ (l : List q_It) (a : Nat) (st : List Nat) (σ : q_H) (h' : Nat), a + l.length = x2 → itA p σ0 a l → (∀ x, x ∈ l → okI x) → fr [m + 3] σ0 σ → stq (z σ (m + 3)) st → (∀ x, x ∈ st → x < 256) → st.length ≤ 400 → hB l st.length = some h' →
    (∀ τ, fr [m + 3] σ0 τ → (evC I U l st).getLastD 0 < 256 → K (((evC I U l st).getLastD 0 : Nat) : Int) τ) → J ω m_Ma_worth (d + 1) 0 0 0 0 5 [(0, .ref m), (2, .int (zI (x2 : Int))), (3, .int (zI (st.length : Int))), (4, .int (zI (a : Int)))] [] σ (q_ki K) := by
  intro l
  induction l with
  | nil =>
    intro a st σ h' ha _ _ hf hs h256 hl _ kk
    have hE := fr_E hf hE0
    have q5 : q_r σ m 5 = p := by rw [fr_r hf]; exact r5
    have q6 : q_r σ m 6 = w := by rw [fr_r hf]; exact r6
    have ha' : a = x2 := by simpa using ha
    have kk' : ∀ τ, fr [m + 3] σ0 τ → st.getLastD 0 < 256 → K ((st.getLastD 0 : Nat) : Int) τ := kk
    refine b_Ma_worth_5 hm hp hw q5 q6 hE ⟨⟨by omega, by omega⟩, ⟨by omega, by omega⟩, fun _ => ⟨⟨by omega, by omega⟩, fun c => ?_, fun c => ?_⟩, fun c => absurd c (by omega)⟩
    · have : st = [] := List.length_eq_zero_iff.mp (by omega)
      subst this
      exact ⟨0, ⟨by decide, by decide⟩, rfl, kk' σ hf (by decide)⟩
    · have ne : st ≠ [] := fun e => by rw [e] at c; exact absurd c (by decide)
      have e := stq_last st hs ne
      have lt : st.getLastD 0 < 256 := by
        have : st.getLastD 0 ∈ st := by
          cases st with
          | nil => exact absurd rfl ne
          | cons x r => rw [List.getLastD_cons]; exact List.getLastD_mem_cons
        exact h256 _ this
      rw [e]
      exact ⟨_, ⟨by omega, by omega⟩, rfl, kk' σ hf lt⟩
  | cons x l ih =>
    intro a st σ h' ha hit ho hf hs h256 hl hh kk
    have hE := fr_E hf hE0
    have q5 : q_r σ m 5 = p := by rw [fr_r hf]; exact r5
    have q6 : q_r σ m 6 = w := by rw [fr_r hf]; exact r6
    have hlen : a + 1 + l.length = x2 := by simp at ha; omega
    have p10 : z σ (p + 10) = z σ0 (p + 10) := fr_zF hf (by simp; omega)
    have p11 : z σ (p + 11) = z σ0 (p + 11) := fr_zF hf (by simp; omega)
    have p12 : z σ (p + 12) = z σ0 (p + 12) := fr_zF hf (by simp; omega)
    obtain ⟨i1, i2, i3⟩ : z σ0 (p + 10) a = x.1 ∧ z σ0 (p + 11) a = x.2.1 ∧ z σ0 (p + 12) a = x.2.2 := hit 0 x rfl
    obtain ⟨o1, o2, o3, o4⟩ := ho x (by simp)
    have hit' : itA p σ0 (a + 1) l := fun j y hy => by
      have := hit (j + 1) y (by simpa using hy)
      rwa [show a + (j + 1) = a + 1 + j by omega] at this
    have ho' : ∀ y, y ∈ l → okI y := fun y hy => ho y (by simp [hy])
    -- a write at the top of what stays
    have wr : ∀ (r : List Nat) (v : Nat) (e : Int), e = (v : Int) → v < 256 → stq (z σ (m + 3)) r → (∀ x, x ∈ r → x < 256) → fr [m + 3] σ0 (zs σ (m + 3) r.length e) ∧ stq (z (zs σ (m + 3) r.length e) (m + 3)) (v :: r) ∧ (∀ x, x ∈ v :: r → x < 256) := fun r v e he hv hr h2 => by
      refine ⟨fr_s hf (by simp), ⟨by rw [z_s ⟨by omega, by omega⟩]; exact he, stq_cong r hr (fun j hj => z_k (by omega))⟩, fun y hy => ?_⟩
      rcases List.mem_cons.mp hy with q | q
      · rw [q]; exact hv
      · exact h2 y q
    have a1 : (a : Int) + 1 = ((a + 1 : Nat) : Int) := by omega
    have go : ∀ (r : List Nat) (v : Nat) (e : Int), e = (v : Int) → v < 256 → stq (z σ (m + 3)) r → (∀ x, x ∈ r → x < 256) → r.length + 1 ≤ 400 → hB l (r.length + 1) = some h' → stC I U x st = v :: r → J ω m_Ma_worth (d + 1) 0 0 0 0 5 [(0, .ref m), (2, .int (zI (x2 : Int))), (3, .int (zI ((r.length + 1 : Nat) : Int))), (4, .int (zI ((a + 1 : Nat) : Int)))] [] (zs σ (m + 3) r.length e) (q_ki K) := fun r v e he hv hr h2 h400 hB' hst => by
      obtain ⟨w1, w2, w3⟩ := wr r v e he hv hr h2
      refine ih (a + 1) (v :: r) _ h' hlen hit' ho' w1 w2 w3 (by simp; omega) hB' (fun τ ht lt => ?_)
      have : evC I U (x :: l) st = evC I U l (v :: r) := by
        show evC I U l (stC I U x st) = _
        rw [hst]
      have k0 := kk τ ht
      rw [this] at k0
      exact k0 lt
    have hst : stC I U x st = stC I U x st := rfl
    refine b_Ma_worth_5 hm hp hw q5 q6 hE ?_
    rw [p10, p11, p12, Int.toNat_natCast, i1, i2, i3]
    refine ⟨⟨by omega, by omega⟩, ⟨by omega, by omega⟩, fun c => absurd c (by simp at ha; omega), fun _ => ⟨⟨by omega, by simp at ha; omega⟩, fun c23 => ?_, fun c23 => ⟨⟨by omega, by omega⟩, fun c400 => ?_, fun c400 => ?_⟩⟩⟩
    · by_cases c22 : x.1 = 22
      · unfold hB at hh
        rw [if_neg (by omega), if_pos c22] at hh
        split at hh
        · next c3 =>
          match st, hs, h256, hl, c3, hh, kk, go, hst with
          | c :: b :: e :: r, hs, h256, hl, c3, hh, kk, go, hst =>
            have hh' : hB l (r.length + 1) = some h' := by
              have : (c :: b :: e :: r).length - 2 = r.length + 1 := by simp
              rw [this] at hh; exact hh
            have e1 : ((c :: b :: e :: r).length : Int) - 3 = (r.length : Int) := by simp; omega
            have e2 : ((c :: b :: e :: r).length : Int) - 1 = ((r.length + 2 : Nat) : Int) := by simp; omega
            have e3 : ((c :: b :: e :: r).length : Int) - 2 = ((r.length + 1 : Nat) : Int) := by simp; omega
            have l4 : r.length + 3 ≤ 400 := by simpa using hl
            obtain ⟨s1, s2, s3, s4⟩ := hs
            have s1' : z σ (m + 3) (r.length + 2) = (c : Int) := s1
            have s2' : z σ (m + 3) (r.length + 1) = (b : Int) := s2
            refine b_Ma_worth_77 hm hp hw q5 q6 hE ⟨⟨by omega, by omega⟩, fun q => absurd c22 q, fun _ => ⟨⟨by omega, by omega⟩, fun q => absurd q (by simp; omega), fun _ => ?_⟩⟩
            rw [e1, e2, e3, a1, Int.toNat_natCast, Int.toNat_natCast, Int.toNat_natCast, s1', s2', s3]
            have bc : c < 256 ∧ b < 256 := ⟨h256 c (by simp), h256 b (by simp)⟩
            have hr2 : ∀ x, x ∈ r → x < 256 := fun y hy => h256 y (by simp [hy])
            have ex : stC I U x (c :: b :: e :: r) = (if e ≠ 0 then b else c) :: r := by
              unfold stC
              rw [if_neg (by omega), if_neg (by omega), if_neg (by omega), if_pos c22]
            refine ⟨⟨by omega, by omega⟩, fun q => ⟨⟨by omega, by omega⟩, go r c _ rfl bc.1 s4 hr2 (by omega) hh' (by rw [ex, if_neg (by omega)])⟩, fun q => ⟨⟨by omega, by omega⟩, go r b _ rfl bc.2 s4 hr2 (by omega) hh' (by rw [ex, if_pos (by omega)])⟩⟩
          | [], _, _, _, c3, _, _, _, _ => exact absurd c3 (by simp)
          | [_], _, _, _, c3, _, _, _, _ => exact absurd c3 (by simp)
          | [_, _], _, _, _, c3, _, _, _, _ => exact absurd c3 (by simp)
        · cases hh
      · refine b_Ma_worth_77 hm hp hw q5 q6 hE ⟨⟨by omega, by omega⟩, fun _ => ?_, fun q => absurd q c22⟩
        by_cases c19 : 19 ≤ x.1
        · unfold hB at hh
          rw [if_neg (by omega), if_neg c22, if_pos c19] at hh
          split at hh
          · next c3 =>
            match st, hs, h256, hl, c3, hh, kk, go, hst with
            | y :: r, hs, h256, hl, c3, hh, kk, go, hst =>
              have hh' : hB l (r.length + 1) = some h' := hh
              have e1 : ((y :: r).length : Int) - 1 = (r.length : Int) := by simp
              have e0 : (y :: r).length = r.length + 1 := by simp
              obtain ⟨s1, s4⟩ := hs
              have l4 : r.length + 1 ≤ 400 := by simpa using hl
              have hr2 : ∀ x, x ∈ r → x < 256 := fun z hz => h256 z (by simp [hz])
              refine b_Ma_worth_131 hm hp hw q5 q6 hE ⟨⟨by omega, by omega⟩, fun q => absurd q (by omega), fun _ => ⟨⟨by omega, by omega⟩, fun q => absurd q (by omega), fun _ => ?_⟩⟩
              rw [e1, Int.toNat_natCast, s1]
              refine ⟨⟨by omega, by omega⟩, c_single (by omega) hE ⟨c19, by omega⟩ (h256 y (by simp)) (fun v hv => ?_)⟩
              refine b_Ma_worth_163 hm hp hw q5 q6 hE ⟨⟨by omega, by omega⟩, ⟨by omega, by omega⟩, ?_⟩
              have hv' := hv x.2.2.toNat (by omega)
              rw [show ((x.2.2.toNat : Nat) : Int) = x.2.2 by omega] at hv'
              rw [Int.toNat_natCast, e0, a1]
              refine go r (op1c x.1 x.2.2.toNat y) _ hv' (op1c_256 (by omega)) s4 hr2 (by omega) hh' ?_
              unfold stC
              rw [if_neg (by omega), if_neg (by omega), if_neg (by omega), if_neg c22, if_pos c19]
            | [], _, _, _, c3, _, _, _, _ => exact absurd c3 (by simp)
          · cases hh
        · refine b_Ma_worth_131 hm hp hw q5 q6 hE ⟨⟨by omega, by omega⟩, fun _ => ?_, fun q => absurd q (by omega)⟩
          unfold hB at hh
          rw [if_neg (by omega), if_neg c22, if_neg c19] at hh
          split at hh
          · next c3 =>
            match st, hs, h256, hl, c3, hh, kk, go, hst with
            | y :: t :: r, hs, h256, hl, c3, hh, kk, go, hst =>
              have hh' : hB l (r.length + 1) = some h' := by
                have : (y :: t :: r).length - 1 = r.length + 1 := by simp
                rw [this] at hh; exact hh
              have e1 : ((y :: t :: r).length : Int) - 1 = ((r.length + 1 : Nat) : Int) := by simp
              have e2 : ((y :: t :: r).length : Int) - 2 = (r.length : Int) := by simp; omega
              obtain ⟨s1, s2, s4⟩ := hs
              have s1' : z σ (m + 3) (r.length + 1) = (y : Int) := s1
              have l4 : r.length + 2 ≤ 400 := by simpa using hl
              have hr2 : ∀ x, x ∈ r → x < 256 := fun z hz => h256 z (by simp [hz])
              refine b_Ma_worth_173 hm hp hw q5 q6 hE ⟨⟨by omega, by omega⟩, fun q => absurd q (by simp; omega), fun _ => ?_⟩
              rw [e1, e2, Int.toNat_natCast, Int.toNat_natCast, s1', s2]
              have ex : x.1 = ((x.1.toNat : Nat) : Int) := by omega
              have ew : x.2.2 = ((x.2.2.toNat : Nat) : Int) := by omega
              refine ⟨⟨by omega, by omega⟩, ⟨by omega, by omega⟩, ?_⟩
              rw [ex, ew]
              refine c_both (by omega) hE ⟨by omega, by omega⟩ (h256 t (by simp)) (h256 y (by simp)) ⟨by omega, by omega⟩ (fun v hv => ?_)
              refine b_Ma_worth_209 hm hp hw q5 q6 hE ⟨⟨by omega, by omega⟩, ⟨by omega, by omega⟩, ?_⟩
              rw [Int.toNat_natCast, a1]
              rw [← ex] at hv
              refine go r (op2c x.1 x.2.2.toNat t y) _ hv (op2c_256 (by omega)) s4 hr2 (by omega) hh' ?_
              unfold stC
              rw [if_neg (by omega), if_neg (by omega), if_neg (by omega), if_neg c22, if_neg c19]
            | [], _, _, _, c3, _, _, _, _ => exact absurd c3 (by simp)
            | [_], _, _, _, c3, _, _, _, _ => exact absurd c3 (by simp)
          · cases hh
    · unfold hB at hh
      rw [if_pos c23, if_neg (by omega)] at hh
      cases hh
    · unfold hB at hh
      rw [if_pos c23, if_pos (by omega)] at hh
      have e3 : (st.length : Int) + 1 = ((st.length + 1 : Nat) : Int) := by omega
      have nx : ∀ v : Nat, v < 256 → stC I U x st = v :: st → J ω m_Ma_worth (d + 1) 0 0 0 0 70 [(0, .ref m), (2, .int (zI (x2 : Int))), (3, .int (zI (st.length : Int))), (4, .int (zI (a : Int)))] [.int (zI (v : Int)), .int (zI (st.length : Int)), .ref (m + 3)] σ (q_ki K) := fun v hv hst => by
        refine b_Ma_worth_70 hm hp hw q5 q6 hE ⟨⟨by omega, by omega⟩, ?_⟩
        rw [a1, e3, Int.toNat_natCast]
        exact go st v _ rfl hv hs h256 (by omega) hh hst
      have zw : z σ w = z σ0 w := fr_zF hf (by simp; omega)
      have zm : z σ (m + 1) = z σ0 (m + 1) := fr_zF hf (by simp)
      have ck : x.1 = 23 ∨ x.1 = 24 ∨ x.1 = 25 := by omega
      refine b_Ma_fetch_0 hm hp hw q5 q6 hE ⟨⟨by omega, by omega⟩, fun q1 => ⟨fun q2 => ⟨o3 (by omega), ?_⟩, fun q2 => ⟨o3 (by omega), ?_⟩⟩, fun q => ?_⟩
      · have b := hU x.2.1.toNat (by have := o3 (by omega); omega)
        have b3 := o3 (by omega)
        rw [zm]
        refine ⟨_, ⟨by omega, by omega⟩, rfl, ?_⟩
        rw [show z σ0 (m + 1) x.2.1.toNat = (((z σ0 (m + 1) x.2.1.toNat).toNat : Nat) : Int) by omega]
        refine nx _ (by omega) ?_
        unfold stC
        rw [if_neg q1, if_neg q2, if_pos (by omega), eU]
        unfold nw
        rw [if_pos (by omega)]
      · have b := hI x.2.1.toNat (by have := o3 (by omega); omega)
        have b3 := o3 (by omega)
        rw [zw]
        refine ⟨_, ⟨by omega, by omega⟩, rfl, ?_⟩
        rw [show z σ0 w x.2.1.toNat = (((z σ0 w x.2.1.toNat).toNat : Nat) : Int) by omega]
        refine nx _ (by omega) ?_
        unfold stC
        rw [if_neg q1, if_pos q2, eI]
        unfold nw
        rw [if_pos (by omega)]
      · have b := o2 q
        refine ⟨_, ⟨by omega, by omega⟩, rfl, ?_⟩
        rw [show x.2.1 = ((x.2.1.toNat : Nat) : Int) by omega]
        refine nx _ (by omega) ?_
        unfold stC
        rw [if_pos q]
end CwP
