/-! Solver.gather: what a clause makes seen -/
/-- how many are seen of a level, below n -/
def ctn (S L : Nat → Int) (v : Int) : Nat → Int
  | 0 => 0
  | n + 1 => ctn S L v n + if S n ≠ 0 ∧ L n = v then 1 else 0
section CnP
variable {S S' L : Nat → Int} {v : Int}
theorem ctn_0 : ∀ n, 0 ≤ ctn S L v n ∧ ctn S L v n ≤ (n : Int)
  | 0 => ⟨Int.le_refl _, Int.le_refl _⟩
  | n + 1 => by
    have := ctn_0 n
    show 0 ≤ ctn S L v n + (if S n ≠ 0 ∧ L n = v then 1 else 0) ∧ ctn S L v n + (if S n ≠ 0 ∧ L n = v then 1 else 0) ≤ _
    split <;> omega
theorem ctn_c : ∀ n, (∀ g, g < n → L g = v → (S' g ≠ 0 ↔ S g ≠ 0)) → ctn S' L v n = ctn S L v n
  | 0, _ => rfl
  | n + 1, h => by
    have e := ctn_c n (fun g hg => h g (by omega))
    have h1 := h n (by omega)
    show ctn S' L v n + (if S' n ≠ 0 ∧ L n = v then 1 else 0) = ctn S L v n + (if S n ≠ 0 ∧ L n = v then 1 else 0)
    rw [e]
    by_cases c : L n = v
    · have h2 := h1 c
      by_cases c2 : S n ≠ 0
      · rw [if_pos ⟨h2.mpr c2, c⟩, if_pos ⟨c2, c⟩]
      · rw [if_neg (fun q => c2 (h2.mp q.1)), if_neg (fun q => c2 q.1)]
    · rw [if_neg (fun q => c q.2), if_neg (fun q => c q.2)]
theorem ctn_1 {g0 : Nat} (h0 : S g0 = 0) (h1 : S' g0 ≠ 0) (hl : L g0 = v) (ho : ∀ g, g ≠ g0 → S' g = S g) : ∀ n, g0 < n → ctn S' L v n = ctn S L v n + 1
  | 0, h => absurd h (Nat.not_lt_zero _)
  | n + 1, h => by
    show ctn S' L v n + (if S' n ≠ 0 ∧ L n = v then 1 else 0) = ctn S L v n + (if S n ≠ 0 ∧ L n = v then 1 else 0) + 1
    by_cases c : g0 = n
    · subst c
      rw [if_pos ⟨h1, hl⟩, if_neg (fun q => q.1 h0), ctn_c (S := S) (S' := S') g0 (fun g hg _ => by rw [ho g (by omega)])]
      omega
    · rw [ctn_1 h0 h1 hl ho n (by omega), ho n (fun e => c e.symm)]
      omega
theorem ctn_p {g0 : Nat} (h0 : S g0 ≠ 0) (hl : L g0 = v) : ∀ n, g0 < n → 1 ≤ ctn S L v n
  | 0, h => absurd h (Nat.not_lt_zero _)
  | n + 1, h => by
    show 1 ≤ ctn S L v n + (if S n ≠ 0 ∧ L n = v then 1 else 0)
    by_cases c : g0 = n
    · subst c
      rw [if_pos ⟨h0, hl⟩]
      have := (ctn_0 (S := S) (L := L) (v := v) g0).1
      omega
    · have := ctn_p h0 hl n (by omega)
      split <;> omega
end CnP
section GaJ
variable {ω : q_W} {d s top : Nat} {cs : List Nat} {Ws : Nat → List Nat} {σ : q_H}
/-- seen from a clause, at the places up to n -/
def snC (M V L S : Nat → Int) (c n : Nat) (g : Nat) : Prop := S g ≠ 0 ∨ ∃ i : Nat, i < n ∧ V (M (c + 3 + i)).toNat = -1 ∧ 0 < L (gt (M (c + 3 + i))) ∧ gt (M (c + 3 + i)) = g
theorem s_gather {K : Int → q_H → Prop} {c hc : Nat} (hE : q_E σ) (hs : s ≤ 10240) (hx : CX s top cs Ws σ) (hm : c ∈ cs) (hh : z σ 70 18 = (hc : Int)) (hh2 : hc < 10240)
    (kk : ∀ (v : Int) (τ : q_H), inR v → 0 ≤ v → fr [70, 84, 86] σ τ → z τ 70 18 = (hc : Int) + 1 → (∀ k, k ≠ 18 → z τ 70 k = z σ 70 k) → z τ 86 = up (z σ 86) hc (c : Int) → (∀ g, z τ 84 g ≠ 0 ↔ snC (z σ 72) (z σ 78) (z σ 79) (z σ 84) c (z σ 72 c).toNat g) →
      v = ctn (z τ 84) (z σ 79) (z σ 70 10) s - ctn (z σ 84) (z σ 79) (z σ 70 10) s → K v τ) :
    J ω m_So_gather d 0 0 0 0 0 [(0, .ref 70), (1, .int (zI (c : Int)))] [] σ (q_ki K) := by
  obtain ⟨ht, ht1, hcl, hwl⟩ := id hx
  obtain ⟨a1, a2, a3, a4, a5, a6⟩ := hcl.1 c hm
  refine b_So_gather_0 hE ?_
  rw [hh, Int.toNat_natCast, Int.toNat_natCast]
  refine ⟨⟨by omega, by omega⟩, ⟨by omega, by omega⟩, ?_⟩
  have F0 : fr [70, 84, 86] σ (zs (zs σ 86 hc (c : Int)) 70 18 ((hc : Int) + 1)) := fr_s (fr_s fr_refl (by simp)) (by simp)
  have l : ∀ (m n : Nat) (x2 : Int) (ρ : q_H), z σ 72 c ≤ (n : Int) + m → (n : Int) ≤ z σ 72 c → fr [70, 84, 86] σ ρ → z ρ 70 18 = (hc : Int) + 1 → (∀ k, k ≠ 18 → z ρ 70 k = z σ 70 k) → z ρ 86 = up (z σ 86) hc (c : Int) → 0 ≤ x2 → x2 ≤ (n : Int) → (∀ g, z ρ 84 g ≠ 0 ↔ snC (z σ 72) (z σ 78) (z σ 79) (z σ 84) c n g) → x2 = ctn (z ρ 84) (z σ 79) (z σ 70 10) s - ctn (z σ 84) (z σ 79) (z σ 70 10) s →
      J ω m_So_gather d 0 0 0 0 41 [(0, .ref 70), (2, .int (zI x2)), (3, .int (zI ((c : Int) + 3 + z σ 72 c))), (4, .int (zI ((c : Int) + 3 + (n : Int))))] [] ρ (q_ki K) := by
    intro m
    induction m with
    | zero =>
      intro n x2 ρ hm2 hn f f18 fk f86 h0 h1 hsn hop
      have e : z σ 72 c = (n : Int) := by omega
      refine b_So_gather_41 (fr_E f hE) ⟨⟨by omega, by omega⟩, ⟨by omega, by omega⟩, fun _ => ⟨x2, ⟨by omega, by omega⟩, rfl, kk x2 ρ ⟨by omega, by omega⟩ h0 f f18 fk f86 (by rw [e, Int.toNat_natCast]; exact hsn) hop⟩, fun c => absurd c (by omega)⟩
    | succ m ih =>
      intro n x2 ρ hm2 hn f f18 fk f86 h0 h1 hsn hop
      have e72 : z ρ 72 = z σ 72 := fr_zF f (by decide)
      have e78 : z ρ 78 = z σ 78 := fr_zF f (by decide)
      have e79 : z ρ 79 = z σ 79 := fr_zF f (by decide)
      have e10 : z ρ 70 10 = z σ 70 10 := fk 10 (by decide)
      refine b_So_gather_41 (fr_E f hE) ?_
      rw [e72, e78, e79, e10, show ((c : Int) + 3 + (n : Int)).toNat = c + 3 + n by omega]
      refine ⟨⟨by omega, by omega⟩, ⟨by omega, by omega⟩, fun cn2 => ⟨x2, ⟨by omega, by omega⟩, rfl, kk x2 ρ ⟨by omega, by omega⟩ h0 f f18 fk f86 (by rw [show (z σ 72 c).toNat = n by omega]; exact hsn) hop⟩, fun cn2 => ?_⟩
      have hl := a4 n (by omega)
      have hl1 := hl.2
      have g := gt_sh hs hl
      rw [g.1]
      -- nothing new
      have stay : (z σ 78 (z σ 72 (c + 3 + n)).toNat = -1 → 0 < z σ 79 (gt (z σ 72 (c + 3 + n))) → z ρ 84 (gt (z σ 72 (c + 3 + n))) ≠ 0) → J ω m_So_gather d 0 0 0 0 41 [(0, .ref 70), (2, .int (zI x2)), (3, .int (zI ((c : Int) + 3 + z σ 72 c))), (4, .int (zI ((c : Int) + 3 + (n : Int) + 1)))] [] ρ (q_ki K) := by
        intro V0
        rw [show (c : Int) + 3 + (n : Int) + 1 = (c : Int) + 3 + ((n + 1 : Nat) : Int) by omega]
        refine ih (n + 1) x2 ρ (by omega) (by omega) f f18 fk f86 h0 (by omega) (fun q => ?_) hop
        rw [hsn q]
        constructor
        · rintro (h | ⟨i, hi, h⟩)
          · exact Or.inl h
          · exact Or.inr ⟨i, by omega, h⟩
        · rintro (h | ⟨i, hi, h⟩)
          · exact Or.inl h
          · by_cases c2 : i = n
            · subst c2
              have := V0 h.1 h.2.1
              rw [h.2.2] at this
              exact (hsn q).mp this
            · exact Or.inr ⟨i, by omega, h⟩
      -- one more
      have more : ∀ x2' : Int, z σ 78 (z σ 72 (c + 3 + n)).toNat = -1 → 0 < z σ 79 (gt (z σ 72 (c + 3 + n))) → z ρ 84 (gt (z σ 72 (c + 3 + n))) = 0 → (z σ 79 (gt (z σ 72 (c + 3 + n))) = z σ 70 10 → x2' = x2 + 1) → (z σ 79 (gt (z σ 72 (c + 3 + n))) ≠ z σ 70 10 → x2' = x2) → J ω m_So_gather d 0 0 0 0 41 [(0, .ref 70), (2, .int (zI x2')), (3, .int (zI ((c : Int) + 3 + z σ 72 c))), (4, .int (zI ((c : Int) + 3 + (n : Int) + 1)))] [] (zs ρ 84 (gt (z σ 72 (c + 3 + n))) 1) (q_ki K) := by
        intro x2' hv hl0 h84 hy hn2
        rw [show (c : Int) + 3 + (n : Int) + 1 = (c : Int) + 3 + ((n + 1 : Nat) : Int) by omega]
        have w84 : ∀ q, z (zs ρ 84 (gt (z σ 72 (c + 3 + n))) 1) 84 q = if q = gt (z σ 72 (c + 3 + n)) then 1 else z ρ 84 q := fun q => by rw [z_if ⟨by decide, by decide⟩]; simp
        have old0 : z σ 84 (gt (z σ 72 (c + 3 + n))) = 0 := by
          by_cases c0 : z σ 84 (gt (z σ 72 (c + 3 + n))) = 0
          · exact c0
          · exact absurd h84 ((hsn _).mpr (Or.inl c0))
        have xb : 0 ≤ x2' ∧ x2' ≤ x2 + 1 ∧ x2 ≤ x2' := by
          by_cases c0 : z σ 79 (gt (z σ 72 (c + 3 + n))) = z σ 70 10
          · have := hy c0; omega
          · have := hn2 c0; omega
        refine ih (n + 1) x2' _ (by omega) (by omega) (fr_s f (by simp)) (by rw [z_o (by decide)]; exact f18) (fun k hk => by rw [z_o (by decide)]; exact fk k hk) (by rw [z_oF (by decide)]; exact f86) xb.1 (by omega) (fun q => ?_) ?_
        · rw [w84]
          constructor
          · intro h
            split at h
            · next e => exact Or.inr ⟨n, by omega, hv, hl0, e.symm⟩
            · rcases (hsn q).mp h with h | ⟨i, hi, h⟩
              · exact Or.inl h
              · exact Or.inr ⟨i, by omega, h⟩
          · rintro (h | ⟨i, hi, h⟩)
            · split
              · decide
              · exact (hsn q).mpr (Or.inl h)
            · split
              · decide
              · next e =>
                by_cases c2 : i = n
                · subst c2; exact absurd h.2.2.symm e
                · exact (hsn q).mpr (Or.inr ⟨i, by omega, h⟩)
        · by_cases c0 : z σ 79 (gt (z σ 72 (c + 3 + n))) = z σ 70 10
          · have hz := hy c0
            rw [ctn_1 (S := z ρ 84) (g0 := gt (z σ 72 (c + 3 + n))) h84 (by rw [w84, if_pos rfl]; decide) c0 (fun q hq => by rw [w84, if_neg hq]) s (gt_lt hl)]
            omega
          · have hz := hn2 c0
            rw [ctn_c (S := z ρ 84) s (fun q _ hq => by
              have : q ≠ gt (z σ 72 (c + 3 + n)) := fun e => c0 (by rw [← e]; exact hq)
              rw [w84, if_neg this])]
            omega
      refine ⟨⟨by omega, by omega⟩, ⟨hl.1, by omega⟩, fun cv => stay (fun h => absurd h cv), fun cv => ⟨⟨g.2.1, g.2.2⟩, fun cl => stay (fun _ h => absurd h (by omega)), fun cl => ⟨fun cs2 => stay (fun _ _ => cs2), fun cs2 => ⟨fun ce => more x2 cv cl cs2 (fun h => absurd h ce) (fun _ => rfl), fun ce => more (x2 + 1) cv cl cs2 (fun _ => rfl) (fun h => absurd ce h)⟩⟩⟩⟩
  refine l (z σ 72 c).toNat 0 0 _ (by omega) (by omega) F0 (by rw [z_s ⟨by omega, by omega⟩]) (fun k hk => by rw [z_k hk, z_o (by decide)]) (by rw [z_oF (by decide), z_up ⟨by omega, by omega⟩]) (Int.le_refl _) (Int.le_refl _) (fun g => ?_) ?_
  · rw [z_o (by decide), z_o (by decide)]
    constructor
    · exact Or.inl
    · rintro (h | ⟨i, hi, -⟩)
      · exact h
      · omega
  · rw [z_oF (by decide), z_oF (by decide)]; omega
end GaJ
