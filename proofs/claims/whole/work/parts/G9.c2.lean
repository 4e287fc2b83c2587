/-! WORDS: numbers of literals -/
def nV (v : Nat → Bool) (f : Nat → Int) : Nat → Nat
  | 0 => 0
  | n + 1 => nV v f n + 2 ^ n * (lvb v (f n)).toNat
/-- no bit from w on -/
def wdt (f : Nat → Int) (w : Nat) : Prop := ∀ j, w ≤ j → j < 8 → f j = 1
section NvP
variable {v : Nat → Bool} {f g h : Nat → Int}
theorem nV_s (n : Nat) : nV v f (n + 1) = nV v f n + 2 ^ n * (lvb v (f n)).toNat := rfl
theorem nV_lt : ∀ n, nV v f n < 2 ^ n
  | 0 => Nat.one_pos
  | n + 1 => by
    have := nV_lt n
    rw [nV_s, Nat.pow_succ]
    cases lvb v (f n) <;> simp <;> omega
theorem nV_cg : ∀ n, (∀ j, j < n → lvb v (f j) = lvb v (g j)) → nV v f n = nV v g n
  | 0, _ => rfl
  | n + 1, h => by rw [nV_s, nV_s, nV_cg n (fun j hj => h j (by omega)), h n (by omega)]
theorem nV_cf (n : Nat) (h : ∀ j, j < n → f j = g j) : nV v f n = nV v g n := nV_cg n (fun j hj => by rw [h j hj])
theorem nV_w (hv : v 0 = true) {w : Nat} (hw : wdt f w) : ∀ n, w ≤ n → n ≤ 8 → nV v f n = nV v f w
  | 0, h1, _ => by rw [show w = 0 by omega]
  | n + 1, h1, h2 => by
    by_cases c : w = n + 1
    · rw [c]
    · rw [nV_s, hw n (by omega) (by omega), lvb_1 hv, nV_w hv hw n (by omega) (by omega)]; rfl
theorem nV_lw (hv : v 0 = true) {w : Nat} (hw : wdt f w) (h8 : w ≤ 8) : nV v f 8 < 2 ^ w := by
  rw [nV_w hv hw 8 h8 (Nat.le_refl _)]; exact nV_lt w
theorem nV_ite (t : Bool) : ∀ n, (∀ j, j < n → lvb v (f j) = if t then lvb v (g j) else lvb v (h j)) → nV v f n = if t then nV v g n else nV v h n
  | 0, _ => by cases t <;> rfl
  | n + 1, q => by
    rw [nV_s, nV_ite t n (fun j hj => q j (by omega)), q n (by omega)]
    cases t <;> rfl
theorem nV_tb : ∀ n j, j < n → (nV v f n).testBit j = lvb v (f j)
  | 0, j, h => absurd h (by omega)
  | n + 1, j, h => by
    rw [nV_s, Nat.add_comm, Nat.testBit_two_pow_mul_add _ (nV_lt n)]
    by_cases c : j < n
    · rw [if_pos c]; exact nV_tb n j c
    · rw [if_neg c, show j = n by omega, Nat.sub_self]
      cases lvb v (f n) <;> rfl
theorem nV_th (n j : Nat) (h : n ≤ j) : (nV v f n).testBit j = false := Nat.testBit_lt_two_pow (Nat.lt_of_lt_of_le (nV_lt n) (Nat.pow_le_pow_right (by decide) h))
/-- bits make the number -/
theorem nV_eq {n x : Nat} (hx : x < 2 ^ n) (hb : ∀ j, j < n → lvb v (f j) = x.testBit j) : nV v f n = x := by
  apply Nat.eq_of_testBit_eq
  intro j
  by_cases c : j < n
  · rw [nV_tb n j c, hb j c]
  · rw [nV_th n j (by omega), Nat.testBit_lt_two_pow (Nat.lt_of_lt_of_le hx (Nat.pow_le_pow_right (by decide) (by omega)))]
theorem nV_0 : ∀ n, nV v f n = 0 ↔ ∀ j, j < n → lvb v (f j) = false
  | 0 => ⟨fun _ j h => absurd h (by omega), fun _ => rfl⟩
  | n + 1 => by
    have p := Nat.two_pow_pos n
    rw [nV_s]
    constructor
    · intro q j hj
      have a : nV v f n = 0 := by omega
      by_cases c : j = n
      · rw [c]
        cases hb : lvb v (f n) with
        | false => rfl
        | true => rw [hb] at q; simp at q
      · exact (nV_0 n).mp a j (by omega)
    · intro q
      rw [(nV_0 n).mpr (fun j hj => q j (by omega)), q n (by omega)]; rfl
end NvP
theorem CSv_z {s : Nat} {σ τ : q_H} {v : Nat → Bool} (h1 : z τ 51 = z σ 51) (h2 : z τ 52 = z σ 52) (h3 : z τ 53 = z σ 53) (h4 : z τ 54 = z σ 54) (h : CSv s τ v) : CSv s σ v := by
  unfold CSv at h ⊢
  rw [h1, h2, h3, h4] at h
  exact h
/-- while words are worked out -/
def WT (n : Nat) (σ0 : q_H) (s0 : Nat) (σ : q_H) (s : Nat) : Prop := WS n σ0 s0 σ s ∧ HI s σ ∧ z σ 50 8 = z σ0 50 8 ∧ ∀ g : Nat, g < s0 → z σ 51 g = z σ0 51 g ∧ z σ 52 g = z σ0 52 g ∧ z σ 53 g = z σ0 53 g ∧ z σ 54 g = z σ0 54 g
/-- rows other than that at a are as before -/
def RO (a : Nat) (σ τ : q_H) : Prop := ∀ j, j < a ∨ a + 8 ≤ j → z τ 58 j = z σ 58 j
/-- behind a step: what grew, what stays -/
def PO (n : Nat) (σ0 : q_H) (s0 : Nat) (B a : Nat) (σ : q_H) (s : Nat) (τ : q_H) (s' : Nat) : Prop := WT n σ0 s0 τ s' ∧ s ≤ s' ∧ s' ≤ s + B ∧ (∀ v, CSv s' τ v → CSv s σ v) ∧ RO a σ τ
section WtJ
variable {ω : q_W} {d s n s0 : Nat} {σ σ0 : q_H}
theorem WT_CX {τ : q_H} {s' : Nat} (h : WT n σ0 s0 σ s) (g : CX2 s s' σ τ) : WT n σ0 s0 τ s' := by
  obtain ⟨h1, h2, h3, h4⟩ := h
  refine ⟨WS_CE h1 g.1, g.2.1, g.2.2.1.trans h3, fun i hi => ?_⟩
  have s0s := h1.2.2.2.2
  obtain ⟨a1, a2, a3, a4⟩ := h4 i hi
  obtain ⟨b1, b2, b3, b4⟩ := g.1.2.2.2 i (by omega)
  exact ⟨b1.trans a1, b2.trans a2, b3.trans a3, b4.trans a4⟩
theorem WT_o {o i : Nat} {x : Int} (ho : o = 58 ∨ o = 59 ∨ o = 60) (hx : o = 58 → lit s x) (h : WT n σ0 s0 σ s) : WT n σ0 s0 (zs σ o i x) s := by
  obtain ⟨h1, h2, h3, h4⟩ := h
  refine ⟨?_, ?_, by rw [z_o (by omega)]; exact h3, fun g hg => ?_⟩
  · rcases ho with q | q
    · subst q; exact WS_58 h1 (hx rfl)
    · exact WS_sc q h1
  · unfold HI
    rw [z_oF (by omega), z_oF (by omega), z_oF (by omega), z_oF (by omega), z_oF (by omega), z_oF (by omega), z_oF (by omega), z_oF (by omega)]
    exact h2
  · rw [z_oF (by omega), z_oF (by omega), z_oF (by omega), z_oF (by omega)]; exact h4 g hg
theorem WT_v {v : Nat → Bool} (h : WT n σ0 s0 σ s) (hv : CSv s σ v) : CSv s0 σ0 v := by
  obtain ⟨h1, -, -, h4⟩ := h
  refine ⟨hv.1, fun g l1 l2 l3 => ?_⟩
  obtain ⟨a1, a2, a3, a4⟩ := h4 g l2
  have s0s := h1.2.2.2.2
  rw [← a1, ← a2, ← a3, ← a4]
  exact hv.2 g l1 (by omega) (by rw [a1]; exact l3)
theorem CSv_o {o i : Nat} {x : Int} {v : Nat → Bool} (ho : o = 58 ∨ o = 59 ∨ o = 60) (h : CSv s (zs σ o i x) v) : CSv s σ v := CSv_z (z_oF (by omega)) (z_oF (by omega)) (z_oF (by omega)) (z_oF (by omega)) h
theorem PO_refl {B a : Nat} (h : WT n σ0 s0 σ s) : PO n σ0 s0 B a σ s σ s := ⟨h, Nat.le_refl _, by omega, fun _ h => h, fun _ _ => rfl⟩
/-- one more gate -/
theorem PO_CX {B B' a t : Nat} {ρ τ : q_H} {s' : Nat} (h : PO n σ0 s0 B a σ s ρ t) (g : CX2 t s' ρ τ) (hb : s' ≤ s + B') : PO n σ0 s0 B' a σ s τ s' := by
  obtain ⟨h1, h2, h3, h4, h5⟩ := h
  refine ⟨WT_CX h1 g, by have := g.1.2.2.1; omega, hb, fun v hv => h4 v (CSv_2 hv g), fun j hj => ?_⟩
  rw [fr_z g.1.1 (by decide)]; exact h5 j hj
/-- a bit of the row is written -/
theorem PO_58 {B a i t : Nat} {ρ : q_H} {x : Int} (h : PO n σ0 s0 B a σ s ρ t) (hi : a ≤ i ∧ i < a + 8) (hx : lit t x) : PO n σ0 s0 B a σ s (zs ρ 58 i x) t := by
  obtain ⟨h1, h2, h3, h4, h5⟩ := h
  refine ⟨WT_o (Or.inl rfl) (fun _ => hx) h1, h2, h3, fun v hv => h4 v (CSv_o (Or.inl rfl) hv), fun j hj => ?_⟩
  rw [z_k (by omega)]; exact h5 j hj
theorem PO_sc {B a i t o : Nat} {ρ : q_H} {x : Int} (h : PO n σ0 s0 B a σ s ρ t) (ho : o = 59 ∨ o = 60) : PO n σ0 s0 B a σ s (zs ρ o i x) t := by
  obtain ⟨h1, h2, h3, h4, h5⟩ := h
  refine ⟨WT_o (Or.inr ho) (fun q => by omega) h1, h2, h3, fun v hv => h4 v (CSv_o (Or.inr ho) hv), fun j hj => ?_⟩
  rw [z_o (by omega)]; exact h5 j hj
theorem PO_tr {B B' a t t' : Nat} {ρ τ : q_H} (h : PO n σ0 s0 B a σ s ρ t) (g : PO n σ0 s0 B' a ρ t τ t') : PO n σ0 s0 (B + B') a σ s τ t' := by
  obtain ⟨h1, h2, h3, h4, h5⟩ := h
  obtain ⟨g1, g2, g3, g4, g5⟩ := g
  exact ⟨g1, by omega, by omega, fun v hv => h4 v (g4 v hv), fun j hj => (g5 j hj).trans (h5 j hj)⟩
theorem PO_le {B B' a t : Nat} {ρ : q_H} (h : PO n σ0 s0 B a σ s ρ t) (hb : t ≤ s + B') : PO n σ0 s0 B' a σ s ρ t := ⟨h.1, h.2.1, hb, h.2.2.2.1, h.2.2.2.2⟩
theorem PO_s {B a t : Nat} {ρ : q_H} (h : PO n σ0 s0 B a σ s ρ t) : 1 ≤ t ∧ t ≤ 10240 := h.1.1.2.1.2.1
theorem PO_E {B a t : Nat} {ρ : q_H} (h : PO n σ0 s0 B a σ s ρ t) : q_E ρ := h.1.1.1
theorem PO_C {B a t : Nat} {ρ : q_H} (h : PO n σ0 s0 B a σ s ρ t) : CI t ρ := h.1.1.2.1
theorem PO_H {B a t : Nat} {ρ : q_H} (h : PO n σ0 s0 B a σ s ρ t) : HI t ρ := h.1.2.1
theorem PO_l {B a t : Nat} {ρ : q_H} (h : PO n σ0 s0 B a σ s ρ t) {e : Int} (h0 : 0 ≤ e) (h1 : e < (n : Int)) : lit t (z ρ 58 e.toNat) := WS_at h.1.1 h0 h1
theorem PO_l1 {B a t : Nat} {ρ : q_H} (h : PO n σ0 s0 B a σ s ρ t) : lit t 1 := lit_1 h.1.1
theorem PO_l0 {B a t : Nat} {ρ : q_H} (h : PO n σ0 s0 B a σ s ρ t) : lit t 0 := lit_0 h.1.1
/-! whether no bit is 1 -/
def RNn (s : Nat) (σ : q_H) (f : Nat → Int) : Nat → Int → Int → Prop
  | 0, acc, r => r = acc
  | k + 1, acc, r => ∃ m, RA s σ acc (zXor (f k) 1) m ∧ RNn s σ f k m r
theorem RNn_CE {f : Nat → Int} {τ : q_H} {s' : Nat} (e : CE s s' σ τ) : ∀ k acc r, RNn s σ f k acc r → RNn s' τ f k acc r
  | 0, _, _, h => h
  | k + 1, _, _, ⟨m, h1, h2⟩ => ⟨m, RA_CE h1 e, RNn_CE e k _ _ h2⟩
theorem RNn_uq {f : Nat → Int} (hi : HI s σ) : ∀ k acc r r', RNn s σ f k acc r → RNn s σ f k acc r' → r' = r
  | 0, _, _, _, h, h' => by rw [show _ = _ from h, show _ = _ from h']
  | k + 1, _, _, _, ⟨m, h1, h2⟩, ⟨m', h1', h2'⟩ => by
    have := RA_uq hi h1 h1'
    subst this
    exact RNn_uq hi k _ _ _ h2 h2'
theorem RA_lit {x y r : Int} (hx : lit s x) (hy : lit s y) (h : RA s σ x y r) : lit s r := by
  have s1 : 0 < s := by have := hx.1; have := hx.2; omega
  rcases h with h | ⟨-, g, h, e⟩
  · unfold tA at h
    split at h
    · cases h; exact ⟨by decide, by omega⟩
    · split at h
      · cases h; exact hy
      · split at h
        · cases h; exact hx
        · cases h
  · have := h.1; rw [e]; exact ⟨by omega, by omega⟩
theorem RNn_v {f : Nat → Int} {v : Nat → Bool} (hs : s ≤ 10240) (hv : CSv s σ v) : ∀ k acc r, (∀ j, j < k → lit s (f j)) → lit s acc → RNn s σ f k acc r → lvb v r = (lvb v acc && decide (nV v f k = 0))
  | 0, acc, r, _, _, h => by rw [show r = acc from h]; simp [nV]
  | k + 1, acc, r, hf, ha, ⟨m, h1, h2⟩ => by
    have lx := lit_x hs (hf k (by omega))
    have fk := hf k (by omega)
    rw [RNn_v hs hv k m r (fun j hj => hf j (by omega)) (RA_lit ha lx.1 h1) h2, RA_v h1 hs ha lx.1 hv, lvb_x fk.1 (by have := fk.2; omega)]
    have p := Nat.two_pow_pos k
    have e : (nV v f (k + 1) = 0) ↔ (nV v f k = 0 ∧ lvb v (f k) = false) := by
      rw [nV_s]
      constructor
      · intro q
        refine ⟨by omega, ?_⟩
        cases hb : lvb v (f k) with
        | false => rfl
        | true => rw [hb] at q; simp at q
      · intro ⟨q1, q2⟩; rw [q1, q2]; rfl
    have e2 : decide (nV v f (k + 1) = 0) = (decide (nV v f k = 0) && !lvb v (f k)) := by
      by_cases c1 : nV v f k = 0 <;> by_cases c2 : lvb v (f k) = false
      · rw [decide_eq_true (e.mpr ⟨c1, c2⟩), decide_eq_true c1, c2]; rfl
      · rw [decide_eq_false (fun q => c2 (e.mp q).2), show lvb v (f k) = true by simpa using c2]; simp
      · rw [decide_eq_false (fun q => c1 (e.mp q).1), decide_eq_false c1]; rfl
      · rw [decide_eq_false (fun q => c1 (e.mp q).1), decide_eq_false c1]; rfl
    rw [e2]
    cases lvb v acc <;> cases decide (nV v f k = 0) <;> cases lvb v (f k) <;> rfl
theorem tA_0r (x : Int) (h : 0 ≤ x) : tA x 0 = some x := by
  unfold tA
  by_cases c : x = 1
  · rw [if_pos (Or.inl c), c]
  · rw [if_neg (by omega)]
    by_cases c0 : x = 0
    · rw [if_pos (Or.inl c0), c0]
    · rw [if_neg (by omega), if_pos rfl]
theorem tA_0l (y : Int) (h : 0 ≤ y) : tA 0 y = some y := by
  unfold tA
  by_cases c : y = 1
  · rw [if_pos (Or.inr (Or.inl c)), c]
  · rw [if_neg (by omega), if_pos (Or.inl rfl)]
theorem RA_0 {x y : Int} (h : RA s σ x y 0) : x = 0 ∧ y = 0 := by
  rcases h with h | ⟨-, g, q1, q2⟩
  · unfold tA at h
    split at h
    · cases h
    · split at h
      · have := Option.some.inj h; omega
      · split at h
        · have := Option.some.inj h; omega
        · cases h
  · have := q1.1; omega
/-- none, with room: the row of bits from x1 on; w bits may be other than FALSE -/
theorem k_none {K : Int → q_H → Prop} {x1 : Nat} {k0 w B a : Nat} {π : q_H} {sπ : Nat} (hd : 2 ≤ d) (hn : n ≤ 3200) (h2 : k0 ≤ 8) (h12 : x1 + k0 ≤ n) (h : PO n σ0 s0 B a π sπ σ s) (hw : ∀ j, w ≤ j → j < k0 → z σ 58 (x1 + j) = 1) (hB : s + (min k0 w - 1) < 10240)
    (kk : ∀ r τ s', PO n σ0 s0 (B + (min k0 w - 1)) a π sπ τ s' → CX2 s s' σ τ → s' ≤ s + (min k0 w - 1) → lit s' r → RNn s' τ (fun j => z σ 58 (x1 + j)) k0 0 r → ((∃ r0, RNn s σ (fun j => z σ 58 (x1 + j)) k0 0 r0) → s' = s) → K r τ) : J ω m_Wo_none d 0 0 0 0 0 [(0, .ref 49), (1, .int (zI (x1 : Int))), (2, .int (zI (k0 : Int)))] [] σ (q_ki K) := by
  obtain ⟨d, rfl⟩ : ∃ k, d = k + 1 := ⟨d - 1, by omega⟩
  have l : ∀ (k : Nat) (x3 : Int) (ρ : q_H) (t : Nat), k ≤ k0 → CX2 s t σ ρ → lit t x3 → (x3 = 0 → t = s) → (x3 ≠ 0 → t + min k w ≤ s + (min k0 w - 1)) →
      (∀ τ' t', CE t t' ρ τ' → ∀ r, RNn t' τ' (fun j => z σ 58 (x1 + j)) k x3 r → RNn t' τ' (fun j => z σ 58 (x1 + j)) k0 0 r) →
      ((∃ r0, RNn s σ (fun j => z σ 58 (x1 + j)) k0 0 r0) → t = s ∧ ∃ r0, RNn s σ (fun j => z σ 58 (x1 + j)) k x3 r0) →
      J ω m_Wo_none (d + 1) 0 0 0 0 7 [(0, .ref 49), (1, .int (zI (x1 : Int))), (3, .int (zI x3)), (4, .int (zI ((k : Int) - 1)))] [] ρ (q_ki K) := by
    intro k
    induction k with
    | zero =>
      intro x3 ρ t hk hx hl hz hb hr hf
      have E := fr_E hx.1.1 (PO_E h)
      have hb2 : t ≤ s + (min k0 w - 1) := by
        by_cases c : x3 = 0
        · rw [hz c]; omega
        · have := hb c; omega
      exact b_Wo_none_7 E ⟨⟨by omega, by omega⟩, fun _ => ⟨x3, lit_R hx.1.2.1.2.1.2 hl, rfl, kk x3 ρ t (PO_CX h hx (by have := h.2.2.1; omega)) hx hb2 hl (hr ρ t (CE_refl hx.1.2.1) x3 rfl) (fun q => (hf q).1)⟩, fun c => absurd c (by omega)⟩
    | succ k ih =>
      intro x3 ρ t hk hx hl hz hb hr hf
      have E := fr_E hx.1.1 (PO_E h)
      have e58 : z ρ 58 = z σ 58 := fr_zF hx.1.1 (by decide)
      have t10 := hx.1.2.1.2.1
      have lk : lit t (z σ 58 (x1 + k)) := by
        have := PO_l h (e := ((x1 + k : Nat) : Int)) (by omega) (by omega)
        rw [Int.toNat_natCast] at this
        exact lit_m this hx.1.2.2.1
      have hb2 : t ≤ s + (min k0 w - 1) := by
        by_cases c : x3 = 0
        · rw [hz c]; omega
        · have := hb c; omega
      refine b_Wo_none_7 E ⟨⟨by omega, by omega⟩, fun c => absurd c (by omega), fun _ => ⟨⟨by omega, by omega⟩, ?_⟩⟩
      rw [show ((x1 : Int) + (((k + 1 : Nat) : Int) - 1)).toNat = x1 + k by omega, e58]
      refine k_and (by omega) E hx.1.2.1 hx.2.1 (by omega) hl (lit_x t10.2 lk).1 (fun r τ s' ht hsb hrl hRA hfnd => ?_)
      have E2 := fr_E ht.1.1 E
      refine b_Wo_none_31 E2 ?_
      rw [show (((k + 1 : Nat) : Int) - 1 - 1) = ((k : Nat) : Int) - 1 by omega]
      have triv : ∀ m, tA x3 (zXor (z σ 58 (x1 + k)) 1) = some m → s' = t ∧ r = m := fun m hm => by
        refine ⟨(hfnd ⟨m, Or.inl hm⟩).1, ?_⟩
        rcases hRA with q | ⟨q, -⟩
        · rw [hm] at q; exact (Option.some.inj q).symm
        · rw [hm] at q; cases q
      have nk : w ≤ k → s' = t ∧ r = x3 := fun q => triv x3 (by rw [hw k q (by omega), show zXor (1 : Int) 1 = 0 by decide]; exact tA_0r x3 hl.1)
      have n0 : x3 = 0 → s' = t := fun q => (triv _ (by rw [q]; exact tA_0l _ (lit_x t10.2 lk).1.1)).1
      have lt := ht.1.2.2.1
      refine ih r τ s' (by omega) (CX2_trans hx ht) hrl (fun q => ?_) (fun q => ?_) (fun τ' t' he r' hr' => ?_) (fun q => ?_)
      · have c0 : x3 = 0 := by rw [q] at hRA; exact (RA_0 hRA).1
        rw [n0 c0, hz c0]
      · by_cases c : w ≤ k
        · obtain ⟨q1, q2⟩ := nk c
          rw [q2] at q
          have := hb q
          have m1 : min (k + 1) w = min k w := by omega
          omega
        · by_cases c0 : x3 = 0
          · have := n0 c0
            have := hz c0
            omega
          · have := hb c0
            omega
      · exact hr τ' t' (CE_trans ht.1 he) r' ⟨r, RA_CE hRA he, hr'⟩
      · obtain ⟨e1, r0, m, g1, g2⟩ := hf q
        have ks := (hfnd ⟨m, RA_CE g1 hx.1⟩).1
        have em := RA_uq ht.2.1 hRA (RA_CE g1 (CE_trans hx.1 ht.1))
        exact ⟨by omega, r0, by rw [← em]; exact g2⟩
  exact b_Wo_none_0 (PO_E h) (l k0 0 σ s (Nat.le_refl _) (CX2_refl (PO_C h) (PO_H h)) (PO_l0 h) (fun _ => rfl) (fun q => absurd rfl q) (fun _ _ _ _ q => q) (fun q => ⟨rfl, q⟩))
/-- truth: whether the number isn't 0 -/
def RT8 (s : Nat) (σ : q_H) (f : Nat → Int) (r : Int) : Prop := ∃ m, RNn s σ f 8 0 m ∧ r = zXor m 1
theorem RT8_CE {f : Nat → Int} {τ : q_H} {s' : Nat} {r : Int} (e : CE s s' σ τ) (h : RT8 s σ f r) : RT8 s' τ f r := by
  obtain ⟨m, h1, h2⟩ := h
  exact ⟨m, RNn_CE e _ _ _ h1, h2⟩
theorem RT8_uq {f : Nat → Int} {r r' : Int} (hi : HI s σ) (h : RT8 s σ f r) (h' : RT8 s σ f r') : r' = r := by
  obtain ⟨m, h1, h2⟩ := h
  obtain ⟨m', h1', h2'⟩ := h'
  rw [h2, h2', RNn_uq hi 8 0 m m' h1 h1']
theorem RNn_lit {f : Nat → Int} (hs : s ≤ 10240) : ∀ k acc r, (∀ j, j < k → lit s (f j)) → lit s acc → RNn s σ f k acc r → lit s r
  | 0, _, _, _, ha, h => by rw [show _ = _ from h]; exact ha
  | k + 1, acc, r, hf, ha, ⟨m, h1, h2⟩ => RNn_lit hs k m r (fun j hj => hf j (by omega)) (RA_lit ha (lit_x hs (hf k (by omega))).1 h1) h2
theorem RT8_v {f : Nat → Int} {v : Nat → Bool} {r : Int} (hs : 1 ≤ s ∧ s ≤ 10240) (hf : ∀ j, j < 8 → lit s (f j)) (hv : CSv s σ v) (h : RT8 s σ f r) : lvb v r = decide (nV v f 8 ≠ 0) := by
  obtain ⟨m, h1, h2⟩ := h
  have l0 : lit s 0 := ⟨by decide, by omega⟩
  have lm := RNn_lit hs.2 8 0 m hf l0 h1
  rw [h2, lvb_x lm.1 (by have := lm.2; omega), RNn_v hs.2 hv 8 0 m hf l0 h1, lvb_0 hv.1]
  simp
theorem k_truth {K : Int → q_H → Prop} {x1 w B a : Nat} {π : q_H} {sπ : Nat} (hd : 3 ≤ d) (hn : n ≤ 3200) (h12 : x1 + 8 ≤ n) (h : PO n σ0 s0 B a π sπ σ s) (w8 : w ≤ 8) (hw : wdt (fun j => z σ 58 (x1 + j)) w) (hB : s + (w - 1) < 10240)
    (kk : ∀ r τ s', PO n σ0 s0 (B + (w - 1)) a π sπ τ s' → CX2 s s' σ τ → s' ≤ s + (w - 1) → lit s' r → RT8 s' τ (fun j => z σ 58 (x1 + j)) r → (∀ v, CSv s' τ v → lvb v r = decide (nV v (fun j => z σ 58 (x1 + j)) 8 ≠ 0)) → ((∃ r0, RT8 s σ (fun j => z σ 58 (x1 + j)) r0) → s' = s) → K r τ) : J ω m_Wo_truth d 0 0 0 0 0 [(0, .ref 49), (1, .int (zI (x1 : Int)))] [] σ (q_ki K) := by
  obtain ⟨d, rfl⟩ : ∃ k, d = k + 1 := ⟨d - 1, by omega⟩
  have m8 : min 8 w = w := by omega
  refine b_Wo_truth_0 (PO_E h) (k_none (k0 := 8) (w := w) (by omega) hn (by decide) h12 h (fun j h1 h2 => hw j h1 h2) (by rw [m8]; exact hB) (fun r τ s' hp ht hb hl hR hf => b_Wo_truth_7 (PO_E hp) ?_))
  rw [m8] at hp hb
  have t10 := ht.1.2.1.2.1
  have lx := (lit_x t10.2 hl).1
  have hR2 : RT8 s' τ (fun j => z σ 58 (x1 + j)) (zXor r 1) := ⟨r, hR, rfl⟩
  refine ⟨_, lit_R t10.2 lx, rfl, kk _ τ s' hp ht hb lx hR2 (fun v hv => RT8_v t10 (fun j hj => ?_) hv hR2) (fun ⟨r0, m, q1, q2⟩ => hf ⟨m, q1⟩)⟩
  have := PO_l h (e := ((x1 + j : Nat) : Int)) (by omega) (by omega)
  rw [Int.toNat_natCast] at this
  exact lit_m this ht.1.2.2.1
end WtJ
