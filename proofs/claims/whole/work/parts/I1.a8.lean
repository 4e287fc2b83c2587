/-! INQUIRY: a VALUE demanded; where two VARIABLES differ -/
theorem zAnd_255 {x : Int} (hx : inR x) : zAnd x 255 = x ↔ 0 ≤ x ∧ x < 256 := by
  have e := zAnd_mod (v := x) (k := 8) (by decide)
  have e1 : ((2 ^ 8 - 1 : Nat) : Int) = 255 := by decide
  have e2 : ((2 ^ 8 : Nat) : Int) = 256 := by decide
  rw [e1, e2] at e
  rw [e]
  omega
theorem lvb_bit {s : Nat} {u : Nat → Bool} {x b : Int} (hs : s ≤ 10240) (lx : lit s x) (hb : b = 0 ∨ b = 1) : lvb u (zXor (zXor x b) 1) = true ↔ lvb u x = decide (b = 1) := by
  rw [zX_ng hs (lit_b hs lx hb), lvb_ng (lit_b hs lx hb).1]
  rcases hb with e | e
  · rw [e, zXor_00 hs lx]
    cases lvb u x <;> simp
  · rw [e, zX_ng hs lx, lvb_ng lx.1]
    cases lvb u x <;> simp
theorem nV_is {u : Nat → Bool} {f : Nat → Int} {x n : Nat} (hx : x < 2 ^ n) : nV u f n = x ↔ ∀ j, j < n → lvb u (f j) = x.testBit j := by
  constructor
  · intro e j hj
    rw [← e, nV_tb n j hj]
  · exact nV_eq hx
theorem nV_ne0 {u : Nat → Bool} {f g : Nat → Int} : (false = true) ↔ nV u f 0 ≠ nV u g 0 := by simp [nV]
theorem nV_nes {u : Nat → Bool} {f g : Nat → Int} (n : Nat) : (nV u f n ≠ nV u g n ∨ (xor (lvb u (f n)) (lvb u (g n))) = true) ↔ nV u f (n + 1) ≠ nV u g (n + 1) := by
  rw [nV_s, nV_s]
  have q1 := nV_lt (v := u) (f := f) n
  have q2 := nV_lt (v := u) (f := g) n
  cases lvb u (f n) <;> cases lvb u (g n) <;> simp <;> omega
section I8J
variable {ω : q_W} {d p s0 s V rc dm : Nat} {WI R : Nat → Int} {S : List q_St} {σ σ0 : q_H}
theorem i_demandWorth2 {K : q_H → Prop} {v : Nat} {x2 : Int} (hd : 2 ≤ d) (hp : p = 16 ∨ p = 29) (h : IA p s0 s V WI S rc rc R σ0 σ) (hrc : rc ≤ 7) (hv : v < 12) (i2 : inR x2) (kk : ∀ τ rc' R', IA p s0 s V WI S rc' rc' R' σ0 τ → (∀ u : Nat → Bool, u 0 = true → ((∀ i, i < rc' → lvb u (R' i) = true) ↔ ((∀ i, i < rc → lvb u (R i) = true) ∧ (0 ≤ x2 ∧ x2 < 256) ∧ nV u (fun j => z σ0 62 (8 * v + j)) 8 = x2.toNat))) → K τ) : J ω m_In_demandWorth d 0 0 0 0 0 [(0, .ref 47), (1, .int (zI (v : Int))), (2, .int (zI x2))] [] σ (q_kv K) := by
  obtain ⟨d, rfl⟩ : ∃ k, d = k + 1 := ⟨d - 1, by omega⟩
  have l : ∀ (ok : Prop) (m n : Nat) (ρ : q_H) (r : Nat) (R' : Nat → Int), (ok ↔ (0 ≤ x2 ∧ x2 < 256)) → 8 ≤ n + m → n ≤ 8 → r ≤ 8 + n → IA p s0 s V WI S r r R' σ0 ρ → (∀ u : Nat → Bool, u 0 = true → ((∀ i, i < r → lvb u (R' i) = true) ↔ ((∀ i, i < rc → lvb u (R i) = true) ∧ ok ∧ ∀ j, j < n → lvb u (z σ0 62 (8 * v + j)) = decide (zAnd (zShr x2 (j : Int)) 1 = 1)))) → J ω m_In_demandWorth (d + 1) 0 0 0 0 18 [(0, .ref 47), (1, .int (zI (v : Int))), (2, .int (zI x2)), (3, .int (zI (n : Int)))] [] ρ (q_kv K) := by
    intro ok m
    have out : ∀ (n : Nat) (ρ : q_H) (r : Nat) (R' : Nat → Int), (ok ↔ (0 ≤ x2 ∧ x2 < 256)) → n = 8 → IA p s0 s V WI S r r R' σ0 ρ → (∀ u : Nat → Bool, u 0 = true → ((∀ i, i < r → lvb u (R' i) = true) ↔ ((∀ i, i < rc → lvb u (R i) = true) ∧ ok ∧ ∀ j, j < n → lvb u (z σ0 62 (8 * v + j)) = decide (zAnd (zShr x2 (j : Int)) 1 = 1)))) → K ρ := fun n ρ r R' hok e hA hR => by
      subst e
      refine kk ρ r R' hA (fun u u0 => (hR u u0).trans (and_congr_right (fun _ => ?_)))
      rw [hok]
      refine and_congr_right (fun hx => ?_)
      rw [nV_is (x := x2.toNat) (by omega)]
      refine forall_congr' (fun j => forall_congr' (fun hj => ?_))
      have := z_tb (m := x2.toNat) (i := j) (by omega) (by omega)
      rw [show ((x2.toNat : Nat) : Int) = x2 by omega] at this
      rw [this]
      cases x2.toNat.testBit j <;> simp
    induction m with
    | zero =>
      intro n ρ r R' hok a1 a2 a3 hA hR
      exact b_In_demandWorth_18 hp hA.1.1.1.2.1 hA.1.1.1.1 ⟨⟨by omega, by omega⟩, fun _ => ⟨rfl, out n ρ r R' hok (by omega) hA hR⟩, fun c => absurd c (by omega)⟩
    | succ m ih =>
      intro n ρ r R' hok a1 a2 a3 hA hR
      have hI := hA.1
      have hs := hI.1.2.2.1.2.1.2
      have e62 : z ρ 62 = z σ0 62 := (IS_z hp hI).2.2.2.1
      refine b_In_demandWorth_18 hp hI.1.1.2.1 hI.1.1.1 ⟨⟨by omega, by omega⟩, fun c => ⟨rfl, out n ρ r R' hok (by omega) hA hR⟩, fun c => ⟨⟨by omega, by omega⟩, ?_⟩⟩
      have lx := lit_m (hI.1.2.2.2.2.2.1 ((v : Int) * 8 + (n : Int)).toNat (by omega)) hI.1.2.2.2.1.2
      refine i_demand2 (by omega) hp hA (by omega) (lit_b hs (lit_b hs lx zBit) (Or.inr rfl)) (fun τ hτ => b_In_demandWorth_50 hp hτ.1.1.1.2.1 hτ.1.1.1.1 ?_)
      rw [show (n : Int) + 1 = ((n + 1 : Nat) : Int) by omega]
      refine ih (n + 1) τ (r + 1) _ hok (by omega) (by omega) (by omega) hτ (fun u u0 => ?_)
      have eb := lvb_bit (u := u) hs lx (zBit (x := x2) (k := (n : Int)))
      rw [show ((v : Int) * 8 + (n : Int)).toNat = 8 * v + n by omega, e62] at eb ⊢
      constructor
      · intro q
        obtain ⟨k1, k2, k3⟩ := (hR u u0).mp (fun i hi => by have := q i (by omega); rw [up_n (by omega)] at this; exact this)
        refine ⟨k1, k2, fun j hj => ?_⟩
        by_cases e : j = n
        · have := q r (by omega)
          rw [up_s] at this
          rw [e]; exact eb.mp this
        · exact k3 j (by omega)
      · rintro ⟨k1, k2, k3⟩ i hi
        by_cases e : i = r
        · rw [e, up_s]; exact eb.mpr (k3 n (by omega))
        · rw [up_n e]; exact (hR u u0).mpr ⟨k1, k2, fun j hj => k3 j (by omega)⟩ i (by omega)
  refine b_In_demandWorth_0 hp h.1.1.1.2.1 h.1.1.1.1 ?_
  have e255 : zShl 1 8 - 1 = 255 := by decide
  rw [e255, zAnd_255 i2]
  refine ⟨i2, fun q => l True 8 0 σ rc R (iff_of_true trivial q) (by decide) (by decide) (by omega) h (fun u _ => ⟨fun k => ⟨k, trivial, fun j hj => absurd hj (by omega)⟩, fun k => k.1⟩), fun q => i_demand2 (by omega) hp h (by omega) ⟨by decide, by have := h.1.1.2.2.1.2.1; omega⟩ (fun τ hτ => b_In_demandWorth_16 hp hτ.1.1.1.2.1 hτ.1.1.1.1 (l False 8 0 τ (rc + 1) _ (iff_of_false id (fun q' => q ((zAnd_255 i2).mpr q'))) (by decide) (by decide) (by omega) hτ (fun u u0 => ⟨fun k => ?_, fun k => absurd k.2.1 id⟩)))⟩
  have := k rc (by omega)
  rw [up_s, lvb_1 u0] at this
  cases this
theorem IA_CX {s' : Nat} {τ : q_H} (hp : p = 16 ∨ p = 29) (h : IA p s0 s V WI S rc dm R σ0 σ) (g : CX2 s s' σ τ) : IA p s0 s' V WI S rc dm R σ0 τ := by
  obtain ⟨hI, ⟨x1, x2, x3, x4, x5, x6⟩, hm, ⟨e1, e2, e3, e4⟩, eR, e91⟩ := h
  have e : ∀ a, a ∉ [50, 51, 52, 53, 54, 55, 56, 57] → z τ a = z σ a := fun a ha => fr_zF g.1.1 ha
  have s0s := hI.1.2.2.2.1.2
  refine ⟨IS_CE hp hI g.1, ⟨g.2.1, ?_, PS2_cong x3 (fun o a b => e o (by simp; omega)), by rw [e (p + 3) (by simp; omega)]; exact x4, by rw [e p (by simp; omega), e (p + 1) (by simp; omega)]; exact x5, by rw [e 91 (by decide)]; exact x6⟩, MKq_tr hm ⟨g.2.2.1, by rw [e 47 (by decide)], by rw [e 75 (by decide)], by rw [e 71 (by decide)]⟩, by rw [e 47 (by decide)]; exact ⟨e1, e2, e3, e4⟩, by rw [e 92 (by decide)]; exact eR, by rw [e 91 (by decide)]; exact e91⟩
  rw [e (p + 3) (by simp; omega)]
  exact ENs_gm x2 hI.1.2.2.2.2.2.2.2.2.2.1 (e 48 (by decide)) (e 61 (by decide)) (e 62 (by decide)) (e 63 (by decide)) (fun k hk => g.1.2.2.2 k (by omega))
theorem i_difference2 {K : Int → q_H → Prop} {v w : Nat} (hd : 4 ≤ d) (hp : p = 16 ∨ p = 29) (h : IA p s0 s0 V WI S rc dm R σ0 σ) (hv : v < 12) (hw : w < 12) (kk : ∀ x τ s', IA p s0 s' V WI S rc dm R σ0 τ → lit s' x → (∀ u, CSv s' τ u → (lvb u x = true ↔ nV u (fun j => z σ0 62 (8 * v + j)) 8 ≠ nV u (fun j => z σ0 62 (8 * w + j)) 8)) → K x τ) : J ω m_En_difference d 0 0 0 0 0 [(0, .ref 48), (1, .int (zI (v : Int))), (2, .int (zI (w : Int)))] [] σ (q_ki K) := by
  obtain ⟨d, rfl⟩ : ∃ k, d = k + 1 := ⟨d - 1, by omega⟩
  have b0 : s0 ≤ 10210 := h.2.1.2.1.1.1
  have l : ∀ (m n : Nat) (x3 : Int) (ρ : q_H) (s : Nat), 8 ≤ n + m → n ≤ 8 → s ≤ s0 + 2 * n → IA p s0 s V WI S rc dm R σ0 ρ → lit s x3 → (∀ u, CSv s ρ u → (lvb u x3 = true ↔ nV u (fun j => z σ0 62 (8 * v + j)) n ≠ nV u (fun j => z σ0 62 (8 * w + j)) n)) → J ω m_En_difference (d + 1) 0 0 0 0 5 [(0, .ref 48), (1, .int (zI (v : Int))), (2, .int (zI (w : Int))), (3, .int (zI x3)), (4, .int (zI (n : Int)))] [] ρ (q_ki K) := by
    intro m
    have out : ∀ (n : Nat) (x3 : Int) (ρ : q_H) (s : Nat), n = 8 → IA p s0 s V WI S rc dm R σ0 ρ → lit s x3 → (∀ u, CSv s ρ u → (lvb u x3 = true ↔ nV u (fun j => z σ0 62 (8 * v + j)) n ≠ nV u (fun j => z σ0 62 (8 * w + j)) n)) → K x3 ρ := fun n x3 ρ s e a b c => by
      subst e; exact kk x3 ρ s a b c
    induction m with
    | zero =>
      intro n x3 ρ s a1 a2 a4 hA a3 hu
      exact b_En_difference_5 hp hA.1.1.1.2.2 hA.1.1.1.1 ⟨⟨by omega, by omega⟩, fun _ => ⟨x3, lit_R hA.1.1.2.2.1.2.1.2 a3, rfl, out n x3 ρ s (by omega) hA a3 hu⟩, fun c => absurd c (by omega)⟩
    | succ m ih =>
      intro n x3 ρ s a1 a2 a4 hA a3 hu
      have hI := hA.1
      have e62 : z ρ 62 = z σ0 62 := (IS_z hp hI).2.2.2.1
      refine b_En_difference_5 hp hI.1.1.2.2 hI.1.1.1 ⟨⟨by omega, by omega⟩, fun c => ⟨x3, lit_R hI.1.2.2.1.2.1.2 a3, rfl, out n x3 ρ s (by omega) hA a3 hu⟩, fun c => ⟨⟨by omega, by omega⟩, ⟨by omega, by omega⟩, ?_⟩⟩
      have l1 := lit_m (hI.1.2.2.2.2.2.1 ((v : Int) * 8 + (n : Int)).toNat (by omega)) hI.1.2.2.2.1.2
      have l2 := lit_m (hI.1.2.2.2.2.2.1 ((w : Int) * 8 + (n : Int)).toNat (by omega)) hI.1.2.2.2.1.2
      refine k_xor (by omega) hI.1.1.1 hI.1.2.2.1 hA.2.1.1 (by omega) l1 l2 (fun y τ s1 g1 b1 ly hy _ _ => ?_)
      have hA1 := IA_CX hp hA g1
      have hI1 := hA1.1
      refine b_En_difference_54 hp hI1.1.1.2.2 hI1.1.1.1 (k_or (by omega) hI1.1.1.1 hI1.1.2.2.1 hA1.2.1.1 (by omega) (lit_m a3 g1.1.2.2.1) ly (fun y2 τ2 s2 g2 b2 ly2 hy2 _ _ => ?_))
      have hA2 := IA_CX hp hA1 g2
      have hI2 := hA2.1
      refine b_En_difference_57 hp hI2.1.1.2.2 hI2.1.1.1 ?_
      rw [show (n : Int) + 1 = ((n + 1 : Nat) : Int) by omega]
      refine ih (n + 1) y2 τ2 s2 (by omega) (by omega) (by omega) hA2 ly2 (fun u cu => ?_)
      have c1 := CSv_2 cu g2
      have c0 := CSv_2 c1 g1
      rw [hy2 u cu, Bool.or_eq_true, hu u c0, hy u c1, show ((v : Int) * 8 + (n : Int)).toNat = 8 * v + n by omega, show ((w : Int) * 8 + (n : Int)).toNat = 8 * w + n by omega, e62]
      exact nV_nes n
  refine b_En_difference_0 hp h.1.1.1.2.2 h.1.1.1.1 (l 8 0 1 σ s0 (by decide) (by decide) (by omega) h ⟨by decide, by have := h.1.1.2.2.1.2.1; omega⟩ (fun u cu => ?_))
  rw [lvb_1 cu.1]
  exact nV_ne0
end I8J
