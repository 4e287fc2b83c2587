/-! THE ENCODER's steps: where ways meet -/
def dfc (f g : Nat → Int) : Nat → Nat
  | 0 => 0
  | n + 1 => dfc f g n + (if f n = g n then 0 else 1)
theorem dfc_mono {f g : Nat → Int} : ∀ {n m : Nat}, n ≤ m → dfc f g n ≤ dfc f g m
  | n, 0, h => by rw [show n = 0 by omega]; exact Nat.le_refl _
  | n, m + 1, h => by
    by_cases c : n = m + 1
    · rw [c]; exact Nat.le_refl _
    · exact Nat.le_trans (dfc_mono (n := n) (m := m) (by omega)) (Nat.le_add_right _ _)
section YwP
variable {ω : q_W} {d p fm s : Nat} {R : Prop} {σ σ0 : q_H}
theorem y_joined {K : Int → q_H → Prop} {x1 x2 : Int} (hd : 3 ≤ d) (hp : p = 16 ∨ p = 29) (h : NX p fm R σ0 σ s) (hff : fm < 32) (hH : HI s σ) (l65 : lit s (z σ 65 fm)) (h1 : lit s x1) (h2 : lit s x2) (hs : s < 10240) (k1 : ∃ r, RA s σ x1 x2 r) (k2 : ∃ r, RA s σ x1 (zXor x2 1) r)
    (kk : ∀ r τ s', NX p fm R σ0 τ s' → ME s s' σ τ → s' ≤ s + 1 → lit s' r → (∀ o, o = 48 ∨ 58 ≤ o → z τ o = z σ o) → (∀ v, CSv s' τ v → lvb v r = (lvb v (z σ 48 4) || lvb v (z σ 65 fm))) → K r τ) : J ω m_En_joined d 0 0 0 0 0 [(0, .ref 48), (1, .int (zI x1)), (2, .int (zI x2))] [] σ (q_ki K) := by
  obtain ⟨d, rfl⟩ : ∃ k, d = k + 1 := ⟨d - 1, by omega⟩
  have s10 := NX_s h
  have lx := lit_x s10.2 h2
  have q12 := h.2.2.2.2.2.2.1.1
  have a3 := h.2.2.2.2.2.1
  have g71 : J ω m_En_joined (d + 1) 0 0 0 0 71 [(0, .ref 48)] [] σ (q_ki K) := by
    refine b_En_joined_71 hp h.1.2 h.1.1 ?_
    rw [q12, Int.toNat_natCast]
    refine ⟨⟨by omega, by omega⟩, k_or (by omega) h.1.1 h.2.2.1 hH hs a3 l65 (fun r τ t g b l V _ _ => b_En_joined_94 hp (by rw [fr_r g.1.1]; exact h.1.2) (fr_E g.1.1 h.1.1) ⟨r, ?_, rfl, kk r τ t (NX_CE hp h g.1) (ME_CX g) b l (fun o ho => fr_zF g.1.1 (by simp; omega)) V⟩)⟩
    exact lit_R g.1.2.1.2.1.2 l
  have g56 : ∀ (x3 y0 : Int), (x3 = 0 ∨ x3 = 1) → (y0 = 0 ∨ y0 = 1) → (x3 ≠ 0 → RA s σ x1 x2 (z σ 48 4)) → (y0 ≠ 0 → RA s σ x1 (zXor x2 1) (z σ 65 fm)) → J ω m_En_joined (d + 1) 0 0 0 0 56 [(0, .ref 48), (1, .int (zI x1)), (3, .int (zI x3))] [.int (zI y0)] σ (q_ki K) := by
    intro x3 y0 h3 h0 f3 f0
    refine b_En_joined_56 hp h.1.2 h.1.1 ⟨⟨by omega, by omega⟩, fun _ => g71, fun c3 => ⟨⟨by omega, by omega⟩, fun _ => g71, fun c0 => ⟨x1, lit_R s10.2 h1, rfl, kk x1 σ s h (ME_refl hH) (by omega) h1 (fun _ _ => rfl) (fun v cv => ?_)⟩⟩⟩
    rw [RA_v (f3 c3) s10.2 h1 h2 cv, RA_v (f0 c0) s10.2 h1 lx.1 cv, lvb_x h2.1 (by have := h2.2; omega)]
    cases lvb v x1 <;> cases lvb v x2 <;> rfl
  have g24 : ∀ (y0 : Int), (y0 = 0 ∨ y0 = 1) → (y0 ≠ 0 → RA s σ x1 x2 (z σ 48 4)) → J ω m_En_joined (d + 1) 0 0 0 0 24 [(0, .ref 48), (1, .int (zI x1)), (2, .int (zI x2))] [.int (zI y0)] σ (q_ki K) := by
    intro y0 h0 f0
    refine b_En_joined_24 hp h.1.2 h.1.1 ?_
    rw [q12, Int.toNat_natCast]
    refine ⟨⟨by omega, by omega⟩, k_and (by omega) h.1.1 h.2.2.1 hH hs h1 lx.1 (fun r τ t g b l RA1 hf => ?_)⟩
    obtain ⟨et, eτ⟩ := hf k2
    rw [et] at l RA1
    rw [eτ] at RA1 ⊢
    exact b_En_joined_48 hp h.1.2 h.1.1 ⟨z_R _ _ _, lit_R s10.2 l, fun c => g56 y0 0 h0 (Or.inl rfl) f0 (fun q => absurd rfl q), fun c => g56 y0 1 h0 (Or.inr rfl) f0 (fun _ => by rw [c]; exact RA1)⟩
  refine b_En_joined_0 hp h.1.2 h.1.1 (k_and (by omega) h.1.1 h.2.2.1 hH hs h1 h2 (fun r τ t g b l RA1 hf => ?_))
  obtain ⟨et, eτ⟩ := hf k1
  rw [et] at l RA1
  rw [eτ] at RA1 ⊢
  exact b_En_joined_16 hp h.1.2 h.1.1 ⟨z_R _ _ _, lit_R s10.2 l, fun c => g24 0 (Or.inl rfl) (fun q => absurd rfl q), fun c => g24 1 (Or.inr rfl) (fun _ => by rw [c]; exact RA1)⟩
theorem y_join {K : q_H → Prop} (hd : 4 ≤ d) (hp : p = 16 ∨ p = 29) (h : NX p (fm + 1) R σ0 σ s) (hH : HI s σ) (k1 : ∃ r, RA s σ (z σ 66 fm) (z σ 67 fm) r) (k2 : ∃ r, RA s σ (z σ 66 fm) (zXor (z σ 67 fm) 1) r) (hs : s + dfc (z σ 62) (fun j => z σ 64 (96 * fm + j)) 96 < 10240)
    (kk : ∀ τ s', NX p fm R σ0 τ s' → ME s s' σ τ → s' ≤ s + dfc (z σ 62) (fun j => z σ 64 (96 * fm + j)) 96 + 1 → (∀ o, 58 ≤ o → o ≠ 62 → z τ o = z σ o) → (∀ j, j ≠ 4 → j ≠ 12 → j ≠ 15 → z τ 48 j = z σ 48 j) → z τ 48 15 = 0 → (∀ j, j < 96 → z σ 62 j = z σ 64 (96 * fm + j) → z τ 62 j = z σ 62 j) → (∀ v, CSv s' τ v → (∀ j, j < 96 → lvb v (z τ 62 j) = if lvb v (z σ 67 fm) then lvb v (z σ 62 j) else lvb v (z σ 64 (96 * fm + j))) ∧ lvb v (z τ 48 4) = (lvb v (z σ 48 4) || lvb v (z σ 65 fm))) → K τ) : J ω m_En_join d 0 0 0 0 0 [(0, .ref 48)] [] σ (q_kv K) := by
  obtain ⟨d, rfl⟩ : ∃ k, d = k + 1 := ⟨d - 1, by omega⟩
  have h32 := h.2.2.2.2.2.2.1.2
  have f6 := h.2.2.2.2.2.2.2.2.1 fm (by omega)
  have l64 := h.2.2.2.2.2.2.2.1
  have fin : ∀ (ρ : q_H) (t : Nat), NX p fm R σ0 ρ t → ME s t σ ρ → t ≤ s + dfc (z σ 62) (fun j => z σ 64 (96 * fm + j)) 96 → (∀ o, 58 ≤ o → o ≠ 62 → z ρ o = z σ o) → (∀ j, j ≠ 12 → z ρ 48 j = z σ 48 j) → (∀ j, j < 96 → z σ 62 j = z σ 64 (96 * fm + j) → z ρ 62 j = z σ 62 j) → (∀ v, CSv t ρ v → ∀ j, j < 96 → lvb v (z ρ 62 j) = if lvb v (z σ 67 fm) then lvb v (z σ 62 j) else lvb v (z σ 64 (96 * fm + j))) → (0 ≤ (fm : Int) ∧ (fm : Int) < 32) ∧ J ω m_En_joined d 0 0 0 0 0 [(0, .ref 48), (1, .int (zI (z ρ 66 fm))), (2, .int (zI (z ρ 67 fm)))] [] ρ (q_ki (fun v τ => J ω m_En_join (d + 1) 0 0 0 0 92 [(0, .ref 48)] [.int (zI v), .ref 48] τ (q_kv K))) := by
    intro ρ t hw hm hb ho h48 hsame hval
    have st := hm.2.2.1
    have e66 : z ρ 66 fm = z σ 66 fm := by rw [ho 66 (by decide) (by decide)]
    have e67 : z ρ 67 fm = z σ 67 fm := by rw [ho 67 (by decide) (by decide)]
    have e65 : z ρ 65 fm = z σ 65 fm := by rw [ho 65 (by decide) (by decide)]
    have e4 : z ρ 48 4 = z σ 48 4 := h48 4 (by decide)
    rw [e66, e67]
    refine ⟨⟨by omega, by omega⟩, y_joined (by omega) hp hw (by omega) hm.1 (by rw [e65]; exact lit_m f6.1 st) (lit_m f6.2.1 st) (lit_m f6.2.2 st) (by omega) (by obtain ⟨r, q⟩ := k1; exact ⟨r, RA_GM q hm.2.2⟩) (by obtain ⟨r, q⟩ := k2; exact ⟨r, RA_GM q hm.2.2⟩) (fun r τ t2 n2 m2 b2 l2 o2 V2 => b_En_join_92 hp n2.1.2 n2.1.1 ⟨rfl, ?_⟩)⟩
    have w1 := NX_w (o := 48) (k := 4) (e := r) hp n2 (Or.inl rfl) (fun _ => by decide) (fun _ => l2) (fun _ c => absurd c (by decide))
    have w2 := NX_w (o := 48) (k := 15) (e := 0) hp w1 (Or.inl rfl) (fun _ => by decide) (fun c => absurd c (by decide)) (fun _ _ => by decide)
    have m4 : ME t2 t2 τ (zs (zs τ 48 4 r) 48 15 0) := ME_z (fun o q1 q2 => by rw [z_oF (by omega), z_oF (by omega)]) m2.1
    refine kk _ t2 w2 (ME_tr (ME_tr hm m2) m4) (by omega) (fun o q1 q2 => by rw [z_oF (by omega), z_oF (by omega), o2 o (Or.inr q1), ho o q1 q2]) (fun j q1 q2 q3 => by rw [z_k q3, z_k q1, o2 48 (Or.inl rfl), h48 j q2]) (z_s ⟨by decide, by decide⟩) (fun j hj q => by rw [z_o (by decide), z_o (by decide), o2 62 (by decide), hsame j hj q]) (fun v cv => ⟨fun j hj => ?_, ?_⟩)
    · rw [z_o (by decide), z_o (by decide), o2 62 (by decide)]
      exact hval v (CSv_GM (CSv_GM cv m4.2.2) m2.2.2) j hj
    · rw [z_k (by decide), z_s (lit_R (NX_s n2).2 l2), V2 v (CSv_GM cv m4.2.2), e4, e65]
  have l : ∀ (k i : Nat) (ρ : q_H) (t : Nat), 96 ≤ i + k → i ≤ 96 → NX p fm R σ0 ρ t → ME s t σ ρ → t ≤ s + dfc (z σ 62) (fun j => z σ 64 (96 * fm + j)) i → (∀ o, 58 ≤ o → o ≠ 62 → z ρ o = z σ o) → (∀ j, j ≠ 12 → z ρ 48 j = z σ 48 j) → (∀ j, i ≤ j → j < 96 → z ρ 62 j = z σ 62 j) → (∀ j, j < i → z σ 62 j = z σ 64 (96 * fm + j) → z ρ 62 j = z σ 62 j) → (∀ v, CSv t ρ v → ∀ j, j < i → lvb v (z ρ 62 j) = if lvb v (z σ 67 fm) then lvb v (z σ 62 j) else lvb v (z σ 64 (96 * fm + j))) → J ω m_En_join (d + 1) 0 0 0 0 12 [(0, .ref 48), (1, .int (zI (i : Int)))] [] ρ (q_kv K) := by
    intro k
    induction k with
    | zero =>
      intro i ρ t hi h96 hw hm hb ho h48 hr hsame hval
      have ie : i = 96 := by omega
      subst ie
      refine b_En_join_12 hp hw.1.2 hw.1.1 ?_
      rw [hw.2.2.2.2.2.2.1.1, Int.toNat_natCast]
      exact ⟨⟨by omega, by omega⟩, fun _ => fin ρ t hw hm hb ho h48 hsame hval, fun c => absurd c (by omega)⟩
    | succ k ih =>
      intro i ρ t hi h96 hw hm hb ho h48 hr hsame hval
      have st := hm.2.2.1
      refine b_En_join_12 hp hw.1.2 hw.1.1 ?_
      rw [hw.2.2.2.2.2.2.1.1, Int.toNat_natCast]
      refine ⟨⟨by omega, by omega⟩, fun c => ?_, fun c => ⟨⟨by omega, by omega⟩, ⟨by omega, by omega⟩, ⟨by omega, by omega⟩, ?_⟩⟩
      · have ie : i = 96 := by omega
        subst ie
        exact fin ρ t hw hm hb ho h48 hsame hval
      · have i96 : i < 96 := by omega
        rw [show ((fm : Int) * 96 + (i : Int)).toNat = 96 * fm + i by omega, Int.toNat_natCast, ho 67 (by decide) (by decide), ho 64 (by decide) (by decide), hr i (Nat.le_refl _) i96]
        have dm := dfc_mono (f := z σ 62) (g := fun j => z σ 64 (96 * fm + j)) (show i ≤ 96 by omega)
        have ds : dfc (z σ 62) (fun j => z σ 64 (96 * fm + j)) (i + 1) = dfc (z σ 62) (fun j => z σ 64 (96 * fm + j)) i + (if z σ 62 i = z σ 64 (96 * fm + i) then 0 else 1) := rfl
        have ls : lit t (z σ 62 i) := by rw [← hr i (Nat.le_refl _) i96]; exact (hw.2.2.2.1 i i96).2
        have lo : lit t (z σ 64 (96 * fm + i)) := lit_m (l64 _ (by omega)) st
        have lt : lit t (z σ 67 fm) := lit_m f6.2.2 st
        refine k_pick (by omega) hw.1.1 hw.2.2.1 hm.1 (by omega) lt ls lo (fun r τ t2 g b l V c0 c1 c2 => b_En_join_62 hp (by rw [fr_r g.1.1]; exact hw.1.2) (fr_E g.1.1 hw.1.1) ⟨⟨by omega, by omega⟩, ?_⟩)
        rw [Int.toNat_natCast, show (i : Int) + 1 = ((i + 1 : Nat) : Int) by omega]
        have n2 := NX_CE hp hw g.1
        have o2 : ∀ a, a = 48 ∨ 58 ≤ a → z τ a = z ρ a := fun a ha => fr_zF g.1.1 (by simp; omega)
        have w2 := NX_w (o := 62) (k := i) (e := r) hp n2 (Or.inr (by decide)) (fun c => absurd c (by decide)) (fun _ => l) (fun c => absurd c (by decide))
        have m4 : ME t2 t2 τ (zs τ 62 i r) := ME_z (fun o q1 q2 => z_oF (by omega)) g.2.1
        have rR := lit_R (NX_s n2).2 l
        refine ih (i + 1) _ t2 (by omega) (by omega) w2 (ME_tr (ME_tr hm (ME_CX g)) m4) ?_ (fun o q1 q2 => by rw [z_oF q2, o2 o (Or.inr q1), ho o q1 q2]) (fun j hj => by rw [z_o (by decide), o2 48 (Or.inl rfl), h48 j hj]) (fun j q1 q2 => by rw [z_k (by omega), o2 62 (by decide), hr j (by omega) q2]) (fun j hj q => ?_) (fun v cv j hj => ?_)
        · rw [ds]
          by_cases ce : z σ 62 i = z σ 64 (96 * fm + i)
          · rw [if_pos ce]
            have := (c2 ce).2
            omega
          · rw [if_neg ce]; omega
        · by_cases ce : j = i
          · subst ce
            rw [z_s rR]; exact (c2 q).1
          · rw [z_k ce, o2 62 (by decide)]; exact hsame j (by omega) q
        · have cv2 : CSv t2 τ v := CSv_GM cv m4.2.2
          by_cases ce : j = i
          · subst ce
            rw [z_s rR]; exact V v cv2
          · rw [z_k ce, o2 62 (by decide)]; exact hval v (CSv_2 cv2 g) j (by omega)
  refine b_En_join_0 hp h.1.2 h.1.1 ?_
  rw [h.2.2.2.2.2.2.1.1, show ((fm + 1 : Nat) : Int) - 1 = (fm : Int) by omega]
  exact l 96 0 _ s (by decide) (by decide) (NX_fm hp h) (ME_z (fun o q1 q2 => z_oF (by omega)) hH) (by show s ≤ s + 0; omega) (fun o q1 q2 => z_oF (by omega)) (fun j hj => z_k hj) (fun j _ _ => z_o (by decide)) (fun j hj => absurd hj (Nat.not_lt_zero _)) (fun v cv j hj => absurd hj (Nat.not_lt_zero _))
end YwP
