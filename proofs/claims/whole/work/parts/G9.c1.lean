/-! values of literals; and, or, xor, pick: what they are worth -/
def lvb (v : Nat → Bool) (x : Int) : Bool := xor (v (x / 2).toNat) (decide (x % 2 = 1))
def gvb (k : Int) (a b c : Bool) : Bool := if k = 1 then a && b else if k = 2 then xor a b else if a then b else c
/-- v keeps to the gates -/
def CSv (s : Nat) (σ : q_H) (v : Nat → Bool) : Prop := v 0 = true ∧ ∀ g : Nat, 1 ≤ g → g < s → z σ 51 g ≠ 0 → v g = gvb (z σ 51 g) (lvb v (z σ 52 g)) (lvb v (z σ 53 g)) (lvb v (z σ 54 g))
theorem CSv_CE {s s' : Nat} {σ τ : q_H} {v : Nat → Bool} (h : CSv s' τ v) (e : CE s s' σ τ) : CSv s σ v := by
  obtain ⟨-, -, ls, k⟩ := e
  refine ⟨h.1, fun g h1 h2 h3 => ?_⟩
  obtain ⟨b1, b2, b3, b4⟩ := k g h2
  rw [← b1, ← b2, ← b3, ← b4]
  exact h.2 g h1 (by omega) (by rw [b1]; exact h3)
theorem CSv_2 {s s' : Nat} {σ τ : q_H} {v : Nat → Bool} (h : CSv s' τ v) (e : CX2 s s' σ τ) : CSv s σ v := CSv_CE h e.1
section LvP
variable {v : Nat → Bool} {x : Int}
theorem lvb_0 (h : v 0 = true) : lvb v 0 = true := by unfold lvb; rw [show ((0 : Int) / 2).toNat = 0 by decide, h]; rfl
theorem lvb_1 (h : v 0 = true) : lvb v 1 = false := by unfold lvb; rw [show ((1 : Int) / 2).toNat = 0 by decide, h]; rfl
theorem lvb_b {b : Int} (h : 0 ≤ x) (h2 : x < 2147483648) (hb : b = 0 ∨ b = 1) : lvb v (zXor x b) = xor (lvb v x) (decide (b = 1)) := by
  rcases hb with rfl | rfl
  · rw [zXor_0 h h2]; simp
  · rw [zXor_1 h h2]
    unfold lvb
    rw [show (x + 1 - 2 * (x % 2)) / 2 = x / 2 by omega]
    by_cases c : x % 2 = 1
    · rw [show (x + 1 - 2 * (x % 2)) % 2 = 0 by omega, c]; simp
    · rw [show (x + 1 - 2 * (x % 2)) % 2 = 1 by omega, show x % 2 = 0 by omega]; simp
theorem lvb_x (h : 0 ≤ x) (h2 : x < 2147483648) : lvb v (zXor x 1) = !lvb v x := by rw [lvb_b h h2 (Or.inr rfl)]; simp
theorem lvb_n (h : 0 ≤ x) (h2 : x < 2147483648) : lvb v (x + 1 - 2 * (x % 2)) = !lvb v x := by rw [← zXor_1 h h2]; exact lvb_x h h2
theorem lvb_m (h : 0 ≤ x) : lvb v x = xor (lvb v (x - x % 2)) (decide (x % 2 = 1)) := by
  unfold lvb
  rw [show (x - x % 2) / 2 = x / 2 by omega, show (x - x % 2) % 2 = 0 by omega]
  simp
theorem lvb_g (g : Nat) : lvb v (2 * (g : Int)) = v g := by
  unfold lvb
  rw [show (2 * (g : Int)) / 2 = (g : Int) by omega, Int.toNat_natCast, show (2 * (g : Int)) % 2 = 0 by omega]
  simp
theorem sgn_2 {x y : Int} (hx : 0 ≤ x) (hx2 : x < 2147483648) (hy : 0 ≤ y) (hy2 : y < 2147483648) : zAnd (zXor x y) 1 = (x + y) % 2 := by
  obtain ⟨a, rfl⟩ := Int.eq_ofNat_of_zero_le hx
  obtain ⟨b, rfl⟩ := Int.eq_ofNat_of_zero_le hy
  rw [zXor_n (by omega) (by omega), zAnd_1 (by omega)]
  have h : decide ((a ^^^ b) % 2 = 1) = xor (decide (a % 2 = 1)) (decide (b % 2 = 1)) := by
    rw [← Nat.testBit_zero, ← Nat.testBit_zero, ← Nat.testBit_zero, Nat.testBit_xor]
  generalize a ^^^ b = w at h ⊢
  by_cases c1 : a % 2 = 1 <;> by_cases c2 : b % 2 = 1
  · simp [c1, c2] at h; omega
  · simp [c1, c2] at h; omega
  · simp [c1, c2] at h; omega
  · simp [c1, c2] at h; omega
end LvP
def tA (x y : Int) : Option Int := if x = 1 ∨ y = 1 ∨ x = y + 1 - 2 * (y % 2) then some 1 else if x = 0 ∨ x = y then some y else if y = 0 then some x else none
/-- r is what 'and' answers -/
def RA (s : Nat) (σ : q_H) (x y r : Int) : Prop := tA x y = some r ∨ (tA x y = none ∧ ∃ g, GQ s σ 1 (min x y) (max x y) 0 g ∧ r = 2 * (g : Int))
section RaP
variable {s s' : Nat} {σ τ : q_H} {x y r : Int} {v : Nat → Bool}
theorem RA_CE (h : RA s σ x y r) (e : CE s s' σ τ) : RA s' τ x y r := by
  rcases h with h | ⟨h, g, h1, h2⟩
  · exact Or.inl h
  · exact Or.inr ⟨h, g, GQ_CE h1 e, h2⟩
theorem RA_uq {r' : Int} (hi : HI s σ) (h : RA s σ x y r) (h' : RA s σ x y r') : r' = r := by
  rcases h with h | ⟨h, g, h1, h2⟩
  · rcases h' with h' | ⟨h', -⟩
    · rw [h] at h'; exact (Option.some.inj h').symm
    · rw [h] at h'; cases h'
  · rcases h' with h' | ⟨h', g', h1', h2'⟩
    · rw [h] at h'; cases h'
    · rw [h2, h2', GQ_uq hi (by decide) h1 h1']
theorem gq_v {k a b c : Int} {g : Nat} (h : GQ s σ k a b c g) (hk : k ≠ 0) (hv : CSv s σ v) : v g = gvb k (lvb v a) (lvb v b) (lvb v c) := by
  obtain ⟨l, a1, a2, a3, a4⟩ := h
  have := hv.2 g l.1 l.2 (by rw [a1]; exact hk)
  rw [a1, a2, a3, a4] at this
  exact this
theorem RA_v (h : RA s σ x y r) (hs : s ≤ 10240) (hx : lit s x) (hy : lit s y) (hv : CSv s σ v) : lvb v r = (lvb v x && lvb v y) := by
  have x0 := hx.1
  have x1 := hx.2
  have y0 := hy.1
  have y1 := hy.2
  rcases h with h | ⟨h, g, h1, h2⟩
  · unfold tA at h
    split at h
    · next c =>
      cases h
      rw [lvb_1 hv.1]
      rcases c with c | c | c
      · rw [c, lvb_1 hv.1]; rfl
      · rw [c, lvb_1 hv.1]; simp
      · rw [c, lvb_n y0 (by omega)]; simp
    · split at h
      · next c =>
        cases h
        rcases c with c | c
        · rw [c, lvb_0 hv.1]; rfl
        · rw [c]; simp
      · split at h
        · next c => cases h; rw [c, lvb_0 hv.1]; simp
        · cases h
  · rw [h2, lvb_g, gq_v h1 (by decide) hv]
    unfold gvb
    rw [if_pos rfl]
    by_cases c : x ≤ y
    · rw [Int.min_eq_left c, Int.max_eq_right c]
    · rw [Int.min_eq_right (by omega), Int.max_eq_left (by omega), Bool.and_comm]
end RaP
section KaJ
variable {ω : q_W} {d s : Nat} {σ : q_H}
theorem k_and {K : Int → q_H → Prop} {x1 x2 : Int} (hd : 1 ≤ d) (hE : q_E σ) (hc : CI s σ) (hi : HI s σ) (hs10 : s < 10240) (h1 : lit s x1) (h2 : lit s x2) (kk : ∀ r τ s', CX2 s s' σ τ → s' ≤ s + 1 → lit s' r → RA s' τ x1 x2 r → ((∃ r0, RA s σ x1 x2 r0) → s' = s ∧ τ = σ) → K r τ) : J ω m_Ci_and d 0 0 0 0 0 [(0, .ref 50), (1, .int (zI x1)), (2, .int (zI x2))] [] σ (q_ki K) := by
  obtain ⟨d, rfl⟩ : ∃ k, d = k + 1 := ⟨d - 1, by omega⟩
  obtain ⟨h10, h11⟩ := h1
  obtain ⟨h20, h21⟩ := h2
  have hs1 := hc.2.1
  have hx := zXor_1 h20 (by omega)
  have ret : ∀ v : Int, lit s v → tA x1 x2 = some v → q_ki K (.inl (some (.int (zI v)))) σ := fun v hv ht => ⟨v, ⟨by have := hv.1; omega, by have := hv.2; omega⟩, rfl, kk v σ s (CX2_refl hc hi) (by omega) hv (Or.inl ht) (fun _ => ⟨rfl, rfl⟩)⟩
  have l1 : lit s 1 := ⟨by decide, by omega⟩
  refine b_Ci_and_0 hE ⟨⟨by omega, by omega⟩, fun c => ret 1 l1 (by unfold tA; rw [if_pos (Or.inl c)]), fun a1 => ⟨⟨by omega, by omega⟩, fun c => ret 1 l1 (by unfold tA; rw [if_pos (Or.inr (Or.inl c))]), fun a2 => ⟨fun a3 => ?_, fun c => ret 1 l1 (by rw [hx] at c; unfold tA; rw [if_pos (Or.inr (Or.inr c))])⟩⟩⟩
  rw [hx] at a3
  have n0 : ¬ (x1 = 1 ∨ x2 = 1 ∨ x1 = x2 + 1 - 2 * (x2 % 2)) := by omega
  refine ⟨fun c => ret x2 ⟨h20, h21⟩ (by unfold tA; rw [if_neg n0, if_pos (Or.inl c)]), fun a4 => ⟨fun a5 => ⟨fun a6 => ?_, fun c => ret x1 ⟨h10, h11⟩ (by unfold tA; rw [if_neg n0, if_neg (by omega), if_pos c])⟩, fun c => ret x2 ⟨h20, h21⟩ (by unfold tA; rw [if_neg n0, if_pos (Or.inr c)])⟩⟩
  have tn : tA x1 x2 = none := by unfold tA; rw [if_neg n0, if_neg (by omega), if_neg a6]
  refine k_gate hE hc hi hs10 ⟨by decide, by decide⟩ ⟨by omega, by omega⟩ ⟨by omega, by omega⟩ (by omega) (fun c => absurd c (by decide)) (fun _ => rfl) (fun g τ s' ht hb hg hf => b_Ci_and_52 (fr_E ht.1.1 hE) ?_)
  have hs2 := ht.1.2.1.2.1
  have gl := hg.1
  refine ⟨2 * (g : Int), ⟨by omega, by omega⟩, rfl, kk _ τ s' ht hb ⟨by omega, by omega⟩ (Or.inr ⟨tn, g, hg, rfl⟩) (fun ⟨r0, q⟩ => ?_)⟩
  rcases q with q | ⟨-, g', q, -⟩
  · rw [tn] at q; cases q
  · exact hf ⟨g', q⟩
theorem k_or {K : Int → q_H → Prop} {x1 x2 : Int} (hd : 2 ≤ d) (hE : q_E σ) (hc : CI s σ) (hi : HI s σ) (hs10 : s < 10240) (h1 : lit s x1) (h2 : lit s x2) (kk : ∀ r τ s', CX2 s s' σ τ → s' ≤ s + 1 → lit s' r → (∀ v, CSv s' τ v → lvb v r = (lvb v x1 || lvb v x2)) → (x1 = 1 → r = x2 ∧ s' = s) → (x2 = 1 → r = x1 ∧ s' = s) → K r τ) : J ω m_Ci_or d 0 0 0 0 0 [(0, .ref 50), (1, .int (zI x1)), (2, .int (zI x2))] [] σ (q_ki K) := by
  obtain ⟨d, rfl⟩ : ∃ k, d = k + 1 := ⟨d - 1, by omega⟩
  have hs1 := hc.2.1
  have l1 := lit_x hs1.2 h1
  have l2 := lit_x hs1.2 h2
  have a0 := h1.1; have a1 := h1.2; have b0 := h2.1; have b1 := h2.2
  refine b_Ci_or_0 hE (k_and (by omega) hE hc hi hs10 l1.1 l2.1 (fun r τ s' ht hb hr hR hf => b_Ci_or_10 (fr_E ht.1.1 hE) ?_))
  have hs2 := ht.1.2.1.2.1
  have r0 := hr.1; have r1 := hr.2
  have hx := lit_x hs2.2 hr
  have triv : ∀ w, tA (zXor x1 1) (zXor x2 1) = some w → r = w ∧ s' = s := fun w hw => by
    have e := hf ⟨w, Or.inl hw⟩
    rcases hR with q | ⟨q, -⟩
    · rw [hw] at q; exact ⟨(Option.some.inj q).symm, e.1⟩
    · rw [hw] at q; cases q
  refine ⟨_, ⟨by have := hx.1.1; omega, by have := hx.1.2; omega⟩, rfl, kk _ τ s' ht hb hx.1 (fun v hv => ?_) (fun c => ?_) (fun c => ?_)⟩
  · rw [lvb_x r0 (by omega), RA_v hR hs2.2 (lit_m l1.1 ht.1.2.2.1) (lit_m l2.1 ht.1.2.2.1) hv, lvb_x a0 (by omega), lvb_x b0 (by omega)]
    cases lvb v x1 <;> cases lvb v x2 <;> rfl
  · have e1 : zXor x1 1 = 0 := by rw [l1.2, c]; decide
    have t2 : zXor x2 1 = x2 + 1 - 2 * (x2 % 2) := l2.2
    by_cases c2 : x2 = 0
    · have := triv 1 (by rw [e1, t2, c2]; decide)
      rw [this.1, c2]; exact ⟨by decide, this.2⟩
    · by_cases c3 : x2 = 1
      · have := triv 0 (by rw [e1, t2, c3]; decide)
        rw [this.1, c3]; exact ⟨by decide, this.2⟩
      · have := triv (zXor x2 1) (by unfold tA; rw [e1, t2, if_neg (by omega), if_pos (Or.inl rfl)])
        rw [this.1]
        refine ⟨?_, this.2⟩
        rw [zXor_1 (by omega) (by omega), t2]; omega
  · have e1 : zXor x2 1 = 0 := by rw [l2.2, c]; decide
    have t1 : zXor x1 1 = x1 + 1 - 2 * (x1 % 2) := l1.2
    by_cases c2 : x1 = 0
    · have := triv 1 (by rw [e1, t1, c2]; decide)
      rw [this.1, c2]; exact ⟨by decide, this.2⟩
    · by_cases c3 : x1 = 1
      · have := triv 0 (by rw [e1, t1, c3]; decide)
        rw [this.1, c3]; exact ⟨by decide, this.2⟩
      · have := triv (zXor x1 1) (by unfold tA; rw [e1, t1, if_neg (by omega), if_neg (by omega), if_pos rfl])
        rw [this.1]
        refine ⟨?_, this.2⟩
        rw [zXor_1 (by omega) (by omega), t1]; omega
theorem bx1 (a b c : Bool) (s t : Bool) : xor (xor (xor a c) true) (xor s t) = xor (xor a s) (xor (xor c true) t) := by cases a <;> cases b <;> cases c <;> cases s <;> cases t <;> rfl
theorem dx2 (x y : Int) (hx : 0 ≤ x) (hy : 0 ≤ y) : decide ((x + y) % 2 = 1) = xor (decide (x % 2 = 1)) (decide (y % 2 = 1)) := by
  by_cases a : x % 2 = 1 <;> by_cases b : y % 2 = 1
  · rw [show (x + y) % 2 = 0 by omega, a, b]; rfl
  · rw [show (x + y) % 2 = 1 by omega, a, show y % 2 = 0 by omega]; rfl
  · rw [show (x + y) % 2 = 1 by omega, b, show x % 2 = 0 by omega]; rfl
  · rw [show (x + y) % 2 = 0 by omega, show x % 2 = 0 by omega, show y % 2 = 0 by omega]; rfl
theorem k_xor {K : Int → q_H → Prop} {x1 x2 : Int} (hd : 1 ≤ d) (hE : q_E σ) (hc : CI s σ) (hi : HI s σ) (hs10 : s < 10240) (h1 : lit s x1) (h2 : lit s x2) (kk : ∀ r τ s', CX2 s s' σ τ → s' ≤ s + 1 → lit s' r → (∀ v, CSv s' τ v → lvb v r = xor (lvb v x1) (lvb v x2)) → ((x1 ≤ 1 ∨ x2 ≤ 1) → s' = s) → (x1 = 1 → x2 = 1 → r = 1) → K r τ) : J ω m_Ci_xor d 0 0 0 0 0 [(0, .ref 50), (1, .int (zI x1)), (2, .int (zI x2))] [] σ (q_ki K) := by
  obtain ⟨d, rfl⟩ : ∃ k, d = k + 1 := ⟨d - 1, by omega⟩
  obtain ⟨h10, h11⟩ := id h1
  obtain ⟨h20, h21⟩ := id h2
  have hs1 := hc.2.1
  have e1 := zAnd_m2 h10 (by omega)
  have e2 := zAnd_m2 h20 (by omega)
  have e3 : zAnd (zXor x1 x2) 1 = (x1 + x2) % 2 := sgn_2 h10 (by omega) h20 (by omega)
  have e4 : (x1 + x2) % 2 = 0 ∨ (x1 + x2) % 2 = 1 := by omega
  have dd := dx2 x1 x2 h10 h20
  have sx : ∀ (t : Nat) (w : Int), t ≤ 10240 → lit t w → lit t (zXor w ((x1 + x2) % 2)) := fun t w ht hw => lit_b ht hw e4
  have l1 : lit s 1 := ⟨by decide, by omega⟩
  have g39 : (zAnd x1 (-2) = 0 ∨ zAnd x2 (-2) = 0) → zAnd x1 (-2) ≠ zAnd x2 (-2) → J ω m_Ci_xor (d + 1) 0 0 0 0 39 [(3, .int (zI (zAnd (zXor x1 x2) 1))), (4, .int (zI (zAnd x1 (-2)))), (5, .int (zI (zAnd x2 (-2))))] [] σ (q_ki K) := by
    intro h0 hne
    rw [e1, e2] at h0 hne
    rw [e1, e2, e3]
    have hl : lit s (x1 - x1 % 2 + (x2 - x2 % 2)) := ⟨by omega, by omega⟩
    have hlx := (lit_x hs1.2 hl).1
    have hl2 := sx s _ hs1.2 hlx
    refine b_Ci_xor_39 hE ⟨_, ⟨by have := hl2.1; omega, by have := hl2.2; omega⟩, rfl, kk _ σ s (CX2_refl hc hi) (by omega) hl2 (fun v hv => ?_) (fun _ => rfl) (fun c1 c2 => absurd h0 (by omega))⟩
    rw [lvb_b hlx.1 (by have := hlx.2; omega) e4, lvb_x hl.1 (by have := hl.2; omega), lvb_m (x := x1) h10, lvb_m (x := x2) h20, dd]
    rcases h0 with q | q
    · rw [q, Int.zero_add, lvb_0 hv.1]
      cases lvb v (x2 - x2 % 2) <;> cases decide (x1 % 2 = 1) <;> cases decide (x2 % 2 = 1) <;> rfl
    · rw [q, Int.add_zero, lvb_0 hv.1]
      cases lvb v (x1 - x1 % 2) <;> cases decide (x1 % 2 = 1) <;> cases decide (x2 % 2 = 1) <;> rfl
  refine b_Ci_xor_0 hE ⟨fun a1 => ⟨fun a2 => g39 (Or.inl a2) a1, fun a2 => ⟨fun a3 => ?_, fun a3 => g39 (Or.inr a3) a1⟩⟩, fun a1 => ?_⟩
  · rw [e1, e2] at a1
    rw [e1] at a2
    rw [e2] at a3
    rw [e1, e2, e3]
    refine k_gate hE hc hi hs10 ⟨by decide, by decide⟩ ⟨by omega, by omega⟩ ⟨by omega, by omega⟩ (by omega) (fun c => absurd c (by decide)) (fun _ => rfl) (fun g τ s' ht hb hg hf => b_Ci_xor_69 (fr_E ht.1.1 hE) ?_)
    have hs2 := ht.1.2.1.2.1
    have gl := hg.1
    have lg : lit s' (2 * (g : Int)) := ⟨by omega, by omega⟩
    have hl2 := sx s' _ hs2.2 lg
    refine ⟨_, ⟨by have := hl2.1; omega, by have := hl2.2; omega⟩, rfl, kk _ τ s' ht hb hl2 (fun v hv => ?_) (fun c => absurd c (by omega)) (fun c1 c2 => absurd a2 (by omega))⟩
    rw [lvb_b lg.1 (by omega) e4, lvb_g, gq_v hg (by decide) hv, lvb_m (x := x1) h10, lvb_m (x := x2) h20, dd]
    unfold gvb
    rw [if_neg (by decide), if_pos rfl]
    by_cases c : x1 - x1 % 2 ≤ x2 - x2 % 2
    · rw [Int.min_eq_left c, Int.max_eq_right c]
      cases lvb v (x1 - x1 % 2) <;> cases lvb v (x2 - x2 % 2) <;> cases decide (x1 % 2 = 1) <;> cases decide (x2 % 2 = 1) <;> rfl
    · rw [Int.min_eq_right (by omega), Int.max_eq_left (by omega)]
      cases lvb v (x1 - x1 % 2) <;> cases lvb v (x2 - x2 % 2) <;> cases decide (x1 % 2 = 1) <;> cases decide (x2 % 2 = 1) <;> rfl
  · rw [e1, e2] at a1
    rw [e3]
    have hl2 := sx s 1 hs1.2 l1
    refine ⟨_, ⟨by have := hl2.1; omega, by have := hl2.2; omega⟩, rfl, kk _ σ s (CX2_refl hc hi) (by omega) hl2 (fun v hv => ?_) (fun _ => rfl) (fun c1 c2 => by rw [c1, c2]; decide)⟩
    rw [lvb_b (by decide) (by decide) e4, lvb_1 hv.1, lvb_m (x := x1) h10, lvb_m (x := x2) h20, dd, a1]
    cases lvb v (x2 - x2 % 2) <;> cases decide (x1 % 2 = 1) <;> cases decide (x2 % 2 = 1) <;> rfl
theorem k_pick {K : Int → q_H → Prop} {x1 x2 x3 : Int} (hd : 2 ≤ d) (hE : q_E σ) (hc : CI s σ) (hi : HI s σ) (hs10 : s < 10240) (h1 : lit s x1) (h2 : lit s x2) (h3 : lit s x3) (kk : ∀ r τ s', CX2 s s' σ τ → s' ≤ s + 1 → lit s' r → (∀ v, CSv s' τ v → lvb v r = if lvb v x1 then lvb v x2 else lvb v x3) → (x1 = 0 → r = x2 ∧ s' = s) → (x1 = 1 → r = x3 ∧ s' = s) → (x2 = x3 → r = x2 ∧ s' = s) → K r τ) : J ω m_Ci_pick d 0 0 0 0 0 [(0, .ref 50), (1, .int (zI x1)), (2, .int (zI x2)), (3, .int (zI x3))] [] σ (q_ki K) := by
  obtain ⟨d, rfl⟩ : ∃ k, d = k + 1 := ⟨d - 1, by omega⟩
  have hs1 := hc.2.1
  have x0 := h1.1; have x9 := h1.2
  have y0 := h2.1; have y9 := h2.2
  have z0 := h3.1; have z9 := h3.2
  have ret : ∀ (v : Int) τ s', CX2 s s' σ τ → s' ≤ s + 1 → lit s' v → (∀ w, CSv s' τ w → lvb w v = if lvb w x1 then lvb w x2 else lvb w x3) → (x1 = 0 → v = x2 ∧ s' = s) → (x1 = 1 → v = x3 ∧ s' = s) → (x2 = x3 → v = x2 ∧ s' = s) → q_ki K (.inl (some (.int (zI v)))) τ := fun v τ s' ht hb hv a1 a2 a3 a4 => ⟨v, lit_R ht.1.2.1.2.1.2 hv, rfl, kk v τ s' ht hb hv a1 a2 a3 a4⟩
  have l1 := lit_x hs1.2 h1
  have l2 := lit_x hs1.2 h2
  have l3 := lit_x hs1.2 h3
  refine b_Ci_pick_0 hE ⟨lit_R hs1.2 h1, fun c => ret x2 σ s (CX2_refl hc hi) (by omega) h2 (fun w hw => by rw [c, lvb_0 hw.1]; rfl) (fun _ => ⟨rfl, rfl⟩) (fun q => absurd q (by omega)) (fun _ => ⟨rfl, rfl⟩), fun c1 => ⟨lit_R hs1.2 h2, lit_R hs1.2 h3, fun c2 => ⟨fun c3 => ?_, fun c3 => ret x3 σ s (CX2_refl hc hi) (by omega) h3 (fun w hw => by rw [c3, lvb_1 hw.1]; rfl) (fun q => absurd q c1) (fun _ => ⟨rfl, rfl⟩) (fun q => absurd q c2)⟩, fun c2 => ret x2 σ s (CX2_refl hc hi) (by omega) h2 (fun w hw => by rw [c2]; simp) (fun _ => ⟨rfl, rfl⟩) (fun _ => ⟨c2, rfl⟩) (fun _ => ⟨rfl, rfl⟩)⟩⟩
  have n0 : ∀ {P : Prop}, x1 = 0 → P := fun q => absurd q c1
  have n1 : ∀ {P : Prop}, x1 = 1 → P := fun q => absurd q c3
  have n2 : ∀ {P : Prop}, x2 = x3 → P := fun q => absurd q c2
  have g41 : (x2 = 0 ∨ x2 = x1) → J ω m_Ci_pick (d + 1) 0 0 0 0 41 [(0, .ref 50), (1, .int (zI x1)), (3, .int (zI x3))] [] σ (q_ki K) := fun hq =>
    b_Ci_pick_41 hE (k_and (by omega) hE hc hi hs10 l1.1 l3.1 (fun v τ s' ht hb hv hR hf => b_Ci_pick_51 (fr_E ht.1.1 hE) (ret _ τ s' ht hb (lit_x ht.1.2.1.2.1.2 hv).1 (fun w hw => by
      have hs2 := ht.1.2.1.2.1.2
      rw [lvb_x hv.1 (by have := hv.2; omega), RA_v hR hs2 (lit_m l1.1 ht.1.2.2.1) (lit_m l3.1 ht.1.2.2.1) hw, lvb_x x0 (by omega), lvb_x z0 (by omega)]
      rcases hq with q | q
      · rw [q, lvb_0 hw.1]; cases lvb w x1 <;> cases lvb w x3 <;> rfl
      · rw [q]; cases lvb w x1 <;> cases lvb w x3 <;> rfl) n0 n1 n2)))
  have g86 : (x3 = 0 ∨ x3 = zXor x1 1) → J ω m_Ci_pick (d + 1) 0 0 0 0 86 [(0, .ref 50), (1, .int (zI x1)), (2, .int (zI x2))] [] σ (q_ki K) := fun hq =>
    b_Ci_pick_86 hE (k_and (by omega) hE hc hi hs10 h1 l2.1 (fun v τ s' ht hb hv hR hf => b_Ci_pick_94 (fr_E ht.1.1 hE) (ret _ τ s' ht hb (lit_x ht.1.2.1.2.1.2 hv).1 (fun w hw => by
      have hs2 := ht.1.2.1.2.1.2
      rw [lvb_x hv.1 (by have := hv.2; omega), RA_v hR hs2 (lit_m h1 ht.1.2.2.1) (lit_m l2.1 ht.1.2.2.1) hw, lvb_x y0 (by omega)]
      rcases hq with q | q
      · rw [q, lvb_0 hw.1]; cases lvb w x1 <;> cases lvb w x2 <;> rfl
      · rw [q, lvb_x x0 (by omega)]; cases lvb w x1 <;> cases lvb w x2 <;> rfl) n0 n1 n2)))
  have g74 : (x2 = 1 ∨ x2 = zXor x1 1) → J ω m_Ci_and d 0 0 0 0 0 [(0, .ref 50), (1, .int (zI (zXor x1 1))), (2, .int (zI x3))] [] σ (q_ki (fun v τ => J ω m_Ci_pick (d + 1) 0 0 0 0 74 [] [.int (zI v)] τ (q_ki K))) := fun hq =>
    k_and (by omega) hE hc hi hs10 l1.1 h3 (fun v τ s' ht hb hv hR hf => b_Ci_pick_74 (fr_E ht.1.1 hE) (ret _ τ s' ht hb hv (fun w hw => by
      have hs2 := ht.1.2.1.2.1.2
      rw [RA_v hR hs2 (lit_m l1.1 ht.1.2.2.1) (lit_m h3 ht.1.2.2.1) hw, lvb_x x0 (by omega)]
      rcases hq with q | q
      · rw [q, lvb_1 hw.1]; cases lvb w x1 <;> cases lvb w x3 <;> rfl
      · rw [q, lvb_x x0 (by omega)]; cases lvb w x1 <;> cases lvb w x3 <;> rfl) n0 n1 n2))
  have g113 : (x3 = 1 ∨ x3 = x1) → J ω m_Ci_and d 0 0 0 0 0 [(0, .ref 50), (1, .int (zI x1)), (2, .int (zI x2))] [] σ (q_ki (fun v τ => J ω m_Ci_pick (d + 1) 0 0 0 0 113 [] [.int (zI v)] τ (q_ki K))) := fun hq =>
    k_and (by omega) hE hc hi hs10 h1 h2 (fun v τ s' ht hb hv hR hf => b_Ci_pick_113 (fr_E ht.1.1 hE) (ret _ τ s' ht hb hv (fun w hw => by
      have hs2 := ht.1.2.1.2.1.2
      rw [RA_v hR hs2 (lit_m h1 ht.1.2.2.1) (lit_m h2 ht.1.2.2.1) hw]
      rcases hq with q | q
      · rw [q, lvb_1 hw.1]; cases lvb w x1 <;> cases lvb w x2 <;> rfl
      · rw [q]; cases lvb w x1 <;> cases lvb w x2 <;> rfl) n0 n1 n2))
  have g138 : ∀ a b : Int, lit s a → lit s b → 2 ≤ x1 → 2 ≤ a → 2 ≤ b → x1 / 2 ≠ a / 2 → x1 / 2 ≠ b / 2 → a / 2 ≠ b / 2 → (x1 % 2 = 0 → a = x2 ∧ b = x3) → (x1 % 2 = 1 → a = x3 ∧ b = x2) → J ω m_Ci_pick (d + 1) 0 0 0 0 138 [(0, .ref 50), (1, .int (zI x1)), (4, .int (zI a))] [.int (zI b)] σ (q_ki K) := by
    intro a b ha hb c1' c2' c3' n1' n2' n3' s0 s1
    have a0 := ha.2
    have b0 := hb.2
    have e1 := zAnd_m2 h1.1 (by omega)
    have e2 := zAnd_1 ha.1
    have hb2 : a % 2 = 0 ∨ a % 2 = 1 := by omega
    have ea := zXor_b ha.1 (by omega) hb2
    have eb := zXor_b hb.1 (by omega) hb2
    have ga : lvb = lvb := rfl
    refine b_Ci_pick_138 hE ?_
    rw [e1, e2]
    refine k_gate hE hc hi hs10 ⟨by decide, by decide⟩ ⟨by omega, by omega⟩ ⟨by omega, by omega⟩ (by omega) (fun _ => ⟨by omega, by omega, by omega, by omega⟩) (fun c => absurd rfl c) (fun g τ s' ht hbb hg hf => b_Ci_pick_165 (fr_E ht.1.1 hE) ?_)
    have hs2 := ht.1.2.1.2.1.2
    have gl := hg.1
    have lg : lit s' (2 * (g : Int)) := ⟨by omega, by omega⟩
    refine ret _ τ s' ht hbb (lit_b hs2 lg hb2) (fun w hw => ?_) n0 n1 n2
    rw [lvb_b lg.1 (by omega) hb2, lvb_g, gq_v hg (by decide) hw]
    unfold gvb
    rw [if_neg (by decide), if_neg (by decide), lvb_b ha.1 (by omega) hb2, lvb_b hb.1 (by omega) hb2, lvb_m (x := x1) x0]
    by_cases c : x1 % 2 = 1
    · obtain ⟨q1, q2⟩ := s1 c
      rw [← q1, ← q2, c]
      cases lvb w (x1 - 1) <;> cases lvb w a <;> cases lvb w b <;> cases decide (a % 2 = 1) <;> rfl
    · obtain ⟨q1, q2⟩ := s0 (by omega)
      rw [← q1, ← q2, show x1 % 2 = 0 by omega]
      cases lvb w (x1 - 0) <;> cases lvb w a <;> cases lvb w b <;> cases decide (a % 2 = 1) <;> rfl
  refine ⟨fun c4 => ⟨fun c5 => g41 (Or.inl c5), fun c5 => ⟨fun c6 => ⟨fun c7 => g74 (Or.inl c7), fun c7 => ⟨fun c8 => ⟨fun c9 => g86 (Or.inl c9), fun c9 => ⟨fun c10 => ⟨fun c11 => g113 (Or.inl c11), fun c11 => ⟨fun c12 => ?_, fun c12 => g113 (Or.inr c12)⟩⟩, fun c10 => g86 (Or.inr c10)⟩⟩, fun c8 => g74 (Or.inr c8)⟩⟩, fun c6 => g41 (Or.inr c6)⟩⟩, fun c4 => k_xor (by omega) hE hc hi hs10 h1 h3 (fun v τ s' ht hb hv hR hf ht1 => b_Ci_pick_31 (fr_E ht.1.1 hE) (ret _ τ s' ht hb hv (fun w hw => by
      rw [hR w hw, c4, lvb_x z0 (by omega)]
      cases lvb w x1 <;> cases lvb w x3 <;> rfl) n0 n1 n2))⟩
  rw [l3.2] at c4
  rw [l1.2] at c8 c10
  have e2 := zAnd_1 x0
  exact ⟨fun a1 => b_Ci_pick_125 hE ⟨fun _ => g138 x3 x2 h3 h2 (by omega) (by omega) (by omega) (by omega) (by omega) (by omega) (fun q => absurd (e2.trans q) a1) (fun _ => ⟨rfl, rfl⟩), fun a2 => absurd a2 a1⟩, fun a1 => b_Ci_pick_125 hE ⟨fun a2 => absurd a1 a2, fun _ => g138 x2 x3 h2 h3 (by omega) (by omega) (by omega) (by omega) (by omega) (by omega) (fun _ => ⟨rfl, rfl⟩) (fun q => absurd q (by rw [← e2, a1]; decide))⟩⟩
end KaJ
