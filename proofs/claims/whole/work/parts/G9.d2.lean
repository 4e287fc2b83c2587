/-! THE ENCODER's steps: what they do to the guard, the failures, the words of the VARIABLES -/
def GM (s s' : Nat) (σ τ : q_H) : Prop := s ≤ s' ∧ ∀ g : Nat, g < s → z τ 51 g = z σ 51 g ∧ z τ 52 g = z σ 52 g ∧ z τ 53 g = z σ 53 g ∧ z τ 54 g = z σ 54 g
def ME (s s' : Nat) (σ τ : q_H) : Prop := HI s' τ ∧ z τ 50 8 = z σ 50 8 ∧ GM s s' σ τ
section MeP
variable {s s' s'' : Nat} {σ τ ρ : q_H}
theorem GM_refl : GM s s σ σ := ⟨Nat.le_refl _, fun _ _ => ⟨rfl, rfl, rfl, rfl⟩⟩
theorem GM_tr (h : GM s s' σ τ) (g : GM s' s'' τ ρ) : GM s s'' σ ρ := ⟨Nat.le_trans h.1 g.1, fun i hi => by
  obtain ⟨a1, a2, a3, a4⟩ := h.2 i hi
  obtain ⟨b1, b2, b3, b4⟩ := g.2 i (Nat.lt_of_lt_of_le hi h.1)
  exact ⟨b1.trans a1, b2.trans a2, b3.trans a3, b4.trans a4⟩⟩
theorem CSv_GM {v : Nat → Bool} (h : CSv s' τ v) (e : GM s s' σ τ) : CSv s σ v := by
  refine ⟨h.1, fun g l1 l2 l3 => ?_⟩
  obtain ⟨a1, a2, a3, a4⟩ := e.2 g l2
  have := e.1
  rw [← a1, ← a2, ← a3, ← a4]
  exact h.2 g l1 (by omega) (by rw [a1]; exact l3)
theorem GQ_GM {k a b c : Int} {g : Nat} (h : GQ s σ k a b c g) (e : GM s s' σ τ) : GQ s' τ k a b c g := by
  obtain ⟨l, a1, a2, a3, a4⟩ := h
  obtain ⟨b1, b2, b3, b4⟩ := e.2 g l.2
  exact ⟨⟨l.1, Nat.lt_of_lt_of_le l.2 e.1⟩, b1.trans a1, b2.trans a2, b3.trans a3, b4.trans a4⟩
theorem RA_GM {x y r : Int} (h : RA s σ x y r) (e : GM s s' σ τ) : RA s' τ x y r := by
  rcases h with h | ⟨h, g, h1, h2⟩
  · exact Or.inl h
  · exact Or.inr ⟨h, g, GQ_GM h1 e, h2⟩
theorem RNn_GM {f : Nat → Int} (e : GM s s' σ τ) : ∀ k acc r, RNn s σ f k acc r → RNn s' τ f k acc r
  | 0, _, _, h => h
  | k + 1, _, _, ⟨m, h1, h2⟩ => ⟨m, RA_GM h1 e, RNn_GM e k _ _ h2⟩
theorem RNn_cg {f g : Nat → Int} : ∀ k acc r, (∀ j, j < k → f j = g j) → RNn s σ f k acc r → RNn s σ g k acc r
  | 0, _, _, _, h => h
  | k + 1, acc, r, e, ⟨m, h1, h2⟩ => ⟨m, by rw [← e k (by omega)]; exact h1, RNn_cg k m r (fun j hj => e j (by omega)) h2⟩
theorem RT8_GM {f : Nat → Int} {r : Int} (h : RT8 s σ f r) (e : GM s s' σ τ) : RT8 s' τ f r := by
  obtain ⟨m, h1, h2⟩ := h
  exact ⟨m, RNn_GM e _ _ _ h1, h2⟩
theorem RT8_cg {f g : Nat → Int} {r : Int} (e : ∀ j, j < 8 → f j = g j) (h : RT8 s σ f r) : RT8 s σ g r := by
  obtain ⟨m, h1, h2⟩ := h
  exact ⟨m, RNn_cg 8 0 m e h1, h2⟩
/-- of numbers the truth is known -/
theorem RNn_num {f : Nat → Int} : ∀ k acc, (∀ j, j < k → 0 ≤ f j ∧ f j ≤ 1) → 0 ≤ acc ∧ acc ≤ 1 → ∃ r, (0 ≤ r ∧ r ≤ 1) ∧ RNn s σ f k acc r
  | 0, acc, _, h => ⟨acc, h, rfl⟩
  | k + 1, acc, hf, h => by
    have fk := hf k (by omega)
    have c : zXor (f k) 1 = 0 ∨ zXor (f k) 1 = 1 := by
      rcases (show f k = 0 ∨ f k = 1 by omega) with q | q
      · rw [q]; exact Or.inr (by decide)
      · rw [q]; exact Or.inl (by decide)
    have : ∃ m, (0 ≤ m ∧ m ≤ 1) ∧ tA acc (zXor (f k) 1) = some m := by
      rcases (show acc = 0 ∨ acc = 1 by omega) with q | q
      · rcases c with e | e <;> rw [q, e]
        · exact ⟨0, by decide, by decide⟩
        · exact ⟨1, by decide, by decide⟩
      · rcases c with e | e <;> rw [q, e]
        · exact ⟨1, by decide, by decide⟩
        · exact ⟨1, by decide, by decide⟩
    obtain ⟨m, hm, ht⟩ := this
    obtain ⟨r, hr, hR⟩ := RNn_num (f := f) k m (fun j hj => hf j (by omega)) hm
    exact ⟨r, hr, m, Or.inl ht, hR⟩
theorem RT8_num {f : Nat → Int} (h : ∀ j, j < 8 → 0 ≤ f j ∧ f j ≤ 1) : ∃ r, (0 ≤ r ∧ r ≤ 1) ∧ RT8 s σ f r := by
  obtain ⟨m, hm, hR⟩ := RNn_num (s := s) (σ := σ) 8 0 h (by decide)
  refine ⟨zXor m 1, ?_, m, hR, rfl⟩
  rcases (show m = 0 ∨ m = 1 by omega) with q | q <;> rw [q] <;> decide
theorem ME_refl (h : HI s σ) : ME s s σ σ := ⟨h, rfl, GM_refl⟩
theorem ME_tr (h : ME s s' σ τ) (g : ME s' s'' τ ρ) : ME s s'' σ ρ := ⟨g.1, g.2.1.trans h.2.1, GM_tr h.2.2 g.2.2⟩
theorem ME_CX (g : CX2 s s' σ τ) : ME s s' σ τ := ⟨g.2.1, g.2.2.1, g.1.2.2.1, g.1.2.2.2⟩
theorem HI_z (e : ∀ o, 50 ≤ o → o ≤ 57 ∨ o = 61 → z τ o = z σ o) (h : HI s σ) : HI s τ := by
  unfold HI at h ⊢
  rw [e 51 (by decide) (by decide), e 52 (by decide) (by decide), e 53 (by decide) (by decide), e 54 (by decide) (by decide), e 55 (by decide) (by decide), e 56 (by decide) (by decide), e 57 (by decide) (by decide), e 61 (by decide) (by decide)]
  exact h
theorem ME_z (e : ∀ o, 50 ≤ o → o ≤ 57 ∨ o = 61 → z τ o = z σ o) (h : HI s σ) : ME s s σ τ :=
  ⟨HI_z e h, by rw [e 50 (by decide) (by decide)], Nat.le_refl _, fun _ _ => by rw [e 51 (by decide) (by decide), e 52 (by decide) (by decide), e 53 (by decide) (by decide), e 54 (by decide) (by decide)]; exact ⟨rfl, rfl, rfl, rfl⟩⟩
theorem ME_WT {n : Nat} (h : WT n σ s τ s') : ME s s' σ τ := ⟨h.2.1, h.2.2.1, h.1.2.2.2.2, h.2.2.2⟩
end MeP
/-- what was denied: the guard says so -/
def DI (s : Nat) (σ : q_H) : Prop := ∀ v, CSv s σ v → lvb v (z σ 48 4) = true → ∀ i : Nat, (i : Int) < z σ 48 15 → lvb v (z σ 69 i) = false
section YyP
variable {ω : q_W} {d p fm s : Nat} {R : Prop} {σ σ0 : q_H}
theorem y_claim {K : q_H → Prop} {x1 : Nat} {x2 : Int} (hd : 3 ≤ d) (hp : p = 16 ∨ p = 29) (h : NX p fm R σ0 σ s) (hH : HI s σ) (h1 : x1 < 512) (h2 : lit s x2) (hs : s + 2 < 10240)
    (kk : ∀ τ s', NX p fm R σ0 τ s' → ME s s' σ τ → s' ≤ s + 3 → (∀ o, 58 ≤ o → o ≠ 63 → z τ o = z σ o) → (∀ j, j ≠ 4 → z τ 48 j = z σ 48 j) → (∀ j, j ≠ x1 → z τ 63 j = z σ 63 j) → (∀ v, CSv s' τ v → lvb v (z τ 48 4) = (lvb v (z σ 48 4) && lvb v x2) ∧ lvb v (z τ 63 x1) = (lvb v (z σ 63 x1) || (lvb v (z σ 48 4) && !lvb v x2))) → K τ) : J ω m_En_claim d 0 0 0 0 0 [(0, .ref 48), (1, .int (zI (x1 : Int))), (2, .int (zI x2))] [] σ (q_kv K) := by
  obtain ⟨d, rfl⟩ : ∃ k, d = k + 1 := ⟨d - 1, by omega⟩
  have s10 := NX_s h
  have a3 := h.2.2.2.2.2.1
  have lx := lit_x s10.2 h2
  refine b_En_claim_0 hp h.1.2 h.1.1 (k_and (by omega) h.1.1 h.2.2.1 hH (by omega) a3 lx.1 (fun r1 τ1 t1 g1 b1 l1 R1 _ => b_En_claim_17 hp (by rw [fr_r g1.1.1]; exact h.1.2) (fr_E g1.1.1 h.1.1) ⟨⟨by omega, by omega⟩, ?_⟩))
  rw [Int.toNat_natCast]
  have n1 := NX_CE hp h g1.1
  have le1 := g1.1.2.2.1
  have o1 : ∀ a, a = 48 ∨ 58 ≤ a → z τ1 a = z σ a := fun a ha => fr_zF g1.1.1 (by simp; omega)
  refine k_or (by omega) n1.1.1 n1.2.2.1 g1.2.1 (by omega) (n1.2.2.2.2.1 x1 h1) l1 (fun r2 τ2 t2 g2 b2 l2 V2 _ _ => b_En_claim_40 hp (by rw [fr_r g2.1.1]; exact n1.1.2) (fr_E g2.1.1 n1.1.1) ⟨⟨by omega, by omega⟩, ?_⟩)
  rw [Int.toNat_natCast]
  have n2 := NX_CE hp n1 g2.1
  have le2 := g2.1.2.2.1
  have o2 : ∀ a, a = 48 ∨ 58 ≤ a → z τ2 a = z σ a := fun a ha => (fr_zF g2.1.1 (by simp; omega)).trans (o1 a ha)
  have hw := NX_w (o := 63) (k := x1) (e := r2) hp n2 (Or.inr (by decide)) (fun c => absurd c (by decide)) (fun _ => l2) (fun c => absurd c (by decide))
  have H2 : HI t2 (zs τ2 63 x1 r2) := HI_z (fun o q1 q2 => z_oF (by omega)) g2.2.1
  refine k_and (by omega) hw.1.1 hw.2.2.1 H2 (by omega) n2.2.2.2.2.2.1 (lit_m h2 (by omega)) (fun r3 τ3 t3 g3 b3 l3 R3 _ => b_En_claim_57 hp (by rw [fr_r g3.1.1]; exact hw.1.2) (fr_E g3.1.1 hw.1.1) ⟨rfl, ?_⟩)
  have n3 := NX_CE hp hw g3.1
  have le3 := g3.1.2.2.1
  have o3 : ∀ a, a = 48 ∨ 58 ≤ a → z τ3 a = z (zs τ2 63 x1 r2) a := fun a ha => fr_zF g3.1.1 (by simp; omega)
  have m3 : ME t2 t3 τ2 τ3 := ME_tr (ME_z (fun o q1 q2 => z_oF (by omega)) g2.2.1) (ME_CX g3)
  have m4 : ME t3 t3 τ3 (zs τ3 48 4 r3) := ME_z (fun o q1 q2 => z_oF (by omega)) g3.2.1
  have mm : ME s t3 σ (zs τ3 48 4 r3) := ME_tr (ME_tr (ME_tr (ME_CX g1) (ME_CX g2)) m3) m4
  have r3R := lit_R (NX_s n3).2 l3
  have r2R := lit_R (NX_s n2).2 l2
  refine kk _ t3 (NX_w hp n3 (Or.inl rfl) (fun _ => by decide) (fun _ => l3) (fun _ c => absurd c (by decide))) mm (by omega) (fun o q1 q2 => ?_) (fun j hj => ?_) (fun j hj => ?_) (fun v cv => ?_)
  · rw [z_oF (by omega), o3 o (Or.inr q1), z_oF q2, o2 o (Or.inr q1)]
  · rw [z_k hj, o3 48 (Or.inl rfl), z_o (by decide), o2 48 (Or.inl rfl)]
  · rw [z_o (by decide), o3 63 (by decide), z_k hj, o2 63 (by decide)]
  · have c3 : CSv t3 τ3 v := CSv_GM cv m4.2.2
    have c2 : CSv t2 τ2 v := CSv_GM c3 m3.2.2
    have c1 : CSv t1 τ1 v := CSv_2 c2 g2
    have q1 := RA_v R1 (NX_s n1).2 (lit_m a3 le1) (lit_m lx.1 le1) c1
    have q3 := RA_v R3 (NX_s n3).2 (lit_m n2.2.2.2.2.2.1 le3) (lit_m h2 (by omega)) c3
    rw [o2 48 (Or.inl rfl)] at q3
    refine ⟨by rw [z_s r3R]; exact q3, ?_⟩
    rw [z_o (by decide), o3 63 (by decide), z_s r2R, V2 v c2, o1 63 (by decide), q1, lvb_x h2.1 (by have := h2.2; omega)]
theorem y_assume {K0 : Int → q_H → Prop} {x2 : Int} (hd : 1 ≤ d) (hp : p = 16 ∨ p = 29) (h : NX p fm R σ0 σ s) (hH : HI s σ) (h2 : lit s x2) (hs : s < 10240)
    (kk : ∀ r τ s', NX p fm R σ0 (zs τ 48 4 r) s' → q_E τ → q_r τ 48 1 = p → ME s s' σ (zs τ 48 4 r) → s' ≤ s + 1 → (x2 ≤ 1 → s' = s) → (∀ o, 58 ≤ o → z (zs τ 48 4 r) o = z σ o) → (∀ j, j ≠ 4 → z (zs τ 48 4 r) 48 j = z σ 48 j) → (∀ v, CSv s' (zs τ 48 4 r) v → lvb v (z (zs τ 48 4 r) 48 4) = (lvb v (z σ 48 4) && lvb v x2)) → K0 r τ) : J ω m_Ci_and d 0 0 0 0 0 [(0, .ref 50), (1, .int (zI (z σ 48 4))), (2, .int (zI x2))] [] σ (q_ki K0) := by
  have s10 := NX_s h
  have a3 := h.2.2.2.2.2.1
  refine k_and hd h.1.1 h.2.2.1 hH hs a3 h2 (fun r1 τ1 t1 g1 b1 l1 R1 f1 => ?_)
  have n1 := NX_CE hp h g1.1
  have le1 := g1.1.2.2.1
  have o1 : ∀ a, a = 48 ∨ 58 ≤ a → z τ1 a = z σ a := fun a ha => fr_zF g1.1.1 (by simp; omega)
  have m4 : ME t1 t1 τ1 (zs τ1 48 4 r1) := ME_z (fun o q1 q2 => z_oF (by omega)) g1.2.1
  refine kk r1 τ1 t1 (NX_w hp n1 (Or.inl rfl) (fun _ => by decide) (fun _ => l1) (fun _ c => absurd c (by decide))) n1.1.1 n1.1.2 (ME_tr (ME_CX g1) m4) b1 (fun c => ?_) (fun o q => by rw [z_oF (by omega), o1 o (Or.inr q)]) (fun j hj => by rw [z_k hj, o1 48 (Or.inl rfl)]) (fun v cv => ?_)
  · have : ∃ m, tA (z σ 48 4) x2 = some m := by
      rcases (show x2 = 0 ∨ x2 = 1 by have := h2.1; omega) with q | q
      · exact ⟨_, by rw [q]; exact tA_0r _ a3.1⟩
      · exact ⟨1, by unfold tA; rw [if_pos (Or.inr (Or.inl q))]⟩
    obtain ⟨m, hm⟩ := this
    exact (f1 ⟨m, Or.inl hm⟩).1
  · rw [z_s (lit_R (NX_s n1).2 l1)]
    exact RA_v R1 (NX_s n1).2 (lit_m a3 le1) (lit_m h2 le1) (CSv_GM cv m4.2.2)
/-- how much was denied, once there is room -/
def dcn (x : Int) : Int := if x = 32 then 0 else x
theorem y_deny {K : q_H → Prop} {x1 : Int} (hd : 2 ≤ d) (hp : p = 16 ∨ p = 29) (h : NX p fm R σ0 σ s) (hH : HI s σ) (h1 : lit s x1) (hs : s < 10240)
    (k1 : (∃ i : Nat, (i : Int) < z σ 48 15 ∧ z σ 69 i = x1) → K σ)
    (k2 : ∀ τ s', NX p fm R σ0 τ s' → ME s s' σ τ → s' ≤ s + 1 → (x1 ≤ 1 → s' = s) → (∀ o, 58 ≤ o → o ≠ 69 → z τ o = z σ o) → (∀ j, j ≠ 4 → j ≠ 15 → z τ 48 j = z σ 48 j) → (∀ i : Nat, (i : Int) < z σ 48 15 → z σ 69 i ≠ x1) → z τ 48 15 = dcn (z σ 48 15) + 1 → (∀ j, j ≠ (dcn (z σ 48 15)).toNat → z τ 69 j = z σ 69 j) → z τ 69 (dcn (z σ 48 15)).toNat = x1 → (∀ v, CSv s' τ v → lvb v (z τ 48 4) = (lvb v (z σ 48 4) && !lvb v x1)) → K τ) : J ω m_En_deny d 0 0 0 0 0 [(0, .ref 48), (1, .int (zI x1))] [] σ (q_kv K) := by
  obtain ⟨d, rfl⟩ : ∃ k, d = k + 1 := ⟨d - 1, by omega⟩
  have s10 := NX_s h
  have lx := lit_x s10.2 h1
  have xR := lit_R s10.2 h1
  have c32 := h.2.2.2.2.2.2.2.2.2.1
  have g41 : ∀ τ, NX p fm R σ0 τ s → ME s s σ τ → (∀ o, o = 48 ∨ 58 ≤ o → o ≠ 48 → z τ o = z σ o) → (∀ j, j ≠ 15 → z τ 48 j = z σ 48 j) → z τ 48 15 = dcn (z σ 48 15) → (∀ i : Nat, (i : Int) < z σ 48 15 → z σ 69 i ≠ x1) → J ω m_En_deny (d + 1) 0 0 0 0 41 [(0, .ref 48), (1, .int (zI x1))] [] τ (q_kv K) := by
    intro τ ht hm ho h48 h15 hno
    have r32 : 0 ≤ z τ 48 15 ∧ z τ 48 15 < 32 := by rw [h15]; unfold dcn; split <;> omega
    have w1 := NX_w (o := 69) (k := (z τ 48 15).toNat) (e := x1) hp ht (Or.inr (by decide)) (fun c => absurd c (by omega)) (fun c => absurd c (by omega)) (fun c => absurd c (by omega))
    have w2 := NX_w (o := 48) (k := 15) (e := z τ 48 15 + 1) hp w1 (Or.inl rfl) (fun _ => by decide) (fun c => absurd c (by decide)) (fun _ _ => ⟨by omega, by omega⟩)
    have m2 : ME s s τ (zs (zs τ 69 (z τ 48 15).toNat x1) 48 15 (z τ 48 15 + 1)) := ME_z (fun o q1 q2 => by rw [z_oF (by omega), z_oF (by omega)]) hm.1
    have e4 : z (zs (zs τ 69 (z τ 48 15).toNat x1) 48 15 (z τ 48 15 + 1)) 48 4 = z τ 48 4 := by rw [z_k (by decide), z_o (by decide)]
    refine b_En_deny_41 hp ht.1.2 ht.1.1 ⟨r32, ?_⟩
    rw [← e4]
    refine y_assume (by omega) hp w2 m2.1 lx.1 hs (fun r τ3 t3 n3 E3 r3 me3 b3 cst o3 f3 v3 => b_En_deny_79 hp r3 E3 ⟨rfl, ?_⟩)
    refine k2 _ t3 n3 (ME_tr (ME_tr hm m2) me3) b3 (fun c => cst ?_) (fun o q1 q2 => ?_) (fun j q1 q2 => ?_) hno ?_ (fun j hj => ?_) ?_ (fun v cv => ?_)
    · rw [lx.2]
      have := h1.1
      rcases (show x1 = 0 ∨ x1 = 1 by omega) with q | q <;> rw [q] <;> decide
    · rw [o3 o q1, z_oF (by omega), z_oF q2, ho o (Or.inr q1) (by omega)]
    · rw [f3 j q1, z_k q2, z_o (by decide), h48 j q2]
    · rw [f3 15 (by decide), z_s ⟨by omega, by omega⟩, h15]
    · rw [← h15] at hj
      rw [o3 69 (by decide), z_o (by decide), z_k hj, ho 69 (by decide) (by decide)]
    · rw [← h15, o3 69 (by decide), z_o (by decide), z_s xR]
    · rw [v3 v cv, e4, h48 4 (by decide), lvb_x h1.1 (by have := h1.2; omega)]
  have l : ∀ (k i : Nat), 32 ≤ i + k → i ≤ 32 → (∀ j : Nat, j < i → z σ 69 j ≠ x1) → J ω m_En_deny (d + 1) 0 0 0 0 2 [(0, .ref 48), (1, .int (zI x1)), (2, .int (zI (i : Int)))] [] σ (q_kv K) := by
    intro k
    have out : ∀ i : Nat, (∀ j : Nat, j < i → z σ 69 j ≠ x1) → z σ 48 15 ≤ (i : Int) → q_imp (z σ 48 15 ≠ 32) (J ω m_En_deny (d + 1) 0 0 0 0 41 [(0, .ref 48), (1, .int (zI x1))] [] σ (q_kv K)) ∧ q_imp (z σ 48 15 = 32) (J ω m_En_deny (d + 1) 0 0 0 0 41 [(0, .ref 48), (1, .int (zI x1))] [] (zs σ 48 15 0) (q_kv K)) := fun i hno hi => by
      have no : ∀ j : Nat, (j : Int) < z σ 48 15 → z σ 69 j ≠ x1 := fun j hj => hno j (by omega)
      refine ⟨fun c => g41 σ h (ME_refl hH) (fun _ _ _ => rfl) (fun _ _ => rfl) (by unfold dcn; rw [if_neg c]) no, fun c => g41 _ (NX_w hp h (Or.inl rfl) (fun _ => by decide) (fun c => absurd c (by decide)) (fun _ _ => by decide)) (ME_z (fun o q1 q2 => z_oF (by omega)) hH) (fun o _ q => z_oF q) (fun j hj => z_k hj) (by rw [z_s ⟨by decide, by decide⟩]; unfold dcn; rw [if_pos c]) no⟩
    induction k with
    | zero =>
      intro i hi h32 hno
      exact b_En_deny_2 hp h.1.2 h.1.1 ⟨⟨by omega, by omega⟩, fun c => out i hno (by omega), fun c => absurd c (by omega)⟩
    | succ k ih =>
      intro i hi h32 hno
      refine b_En_deny_2 hp h.1.2 h.1.1 ⟨⟨by omega, by omega⟩, fun c => out i hno (by omega), fun c => ⟨⟨by omega, by omega⟩, xR, fun c2 => ih (i + 1) (by omega) (by omega) (fun j hj => ?_), fun c2 => ⟨rfl, k1 ⟨i, c, by rw [Int.toNat_natCast] at c2; exact c2⟩⟩⟩⟩
      rw [Int.toNat_natCast] at c2
      by_cases e : j = i
      · rw [e]; exact c2
      · exact hno j (by omega)
  exact b_En_deny_0 hp h.1.2 h.1.1 (l 32 0 (by decide) (by decide) (fun j hj => absurd hj (Nat.not_lt_zero _)))
end YyP
