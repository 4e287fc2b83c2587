/-! The reference runs the PROGRAM -/
def RWs (s : Nat) (σ0 τ : q_H) (f : Int) : Prop := fr [94, 128, 130] σ0 τ ∧ (∀ k, k ≠ 61 → z τ 94 k = z σ0 94 k) ∧ z τ 94 61 = f ∧ ∀ i, i < 16 → 0 ≤ z τ 128 i
theorem bnd_E {V k L w E : Nat} (h : tBd V k L w E) (hk : k ≤ 32) (hL : L ≤ 1638) (hw : w ≤ 1500) : E ≤ 999990 := by
  by_cases q : V = 0
  · have a := h.1 q
    have b : L * k ≤ 1638 * 32 := Nat.mul_le_mul hL hk
    omega
  · have a := h.2 q
    have b : L * (8 + w) ≤ 1638 * 1508 := Nat.mul_le_mul hL (by omega)
    omega
section RwP
variable {ω : q_W} {Nt : Nat → q_It} {V s lo : Nat} {σ0 : q_H} {WI WU : Nat → Int} {S : List q_St}
theorem KM_eq {σ τ : q_H} (h : ∀ o, (o = s ∨ o = s + 1 ∨ o = s + 2 ∨ o = s + 3 ∨ o = s + 4 ∨ o = s + 5) → z τ o = z σ o) (n : Nat) : KM s lo n σ τ := by
  have e0 := h s (by omega); have e1 := h (s + 1) (by omega); have e2 := h (s + 2) (by omega)
  have e3 := h (s + 3) (by omega); have e4 := h (s + 4) (by omega); have e5 := h (s + 5) (by omega)
  unfold KM KL
  rw [e0, e1, e2, e3, e4, e5]
  exact ⟨fun i hi => ⟨rfl, rfl, rfl, rfl, rfl, fun _ => rfl⟩, rfl, rfl, rfl, rfl⟩
theorem k_runWhole {ns : List Nat} {w k d : Nat} {R : Nat → Int} {Kk : Int → q_H → Prop} (hq : RQ s σ0) (hu : RU Nt V WI WU σ0) (hns : ∀ y, y ∈ ns → y ≤ 4096) (hl : lnk (z σ0 (s + 4)) ns (z σ0 94 45)) (hN : NSs (fun m i l w => NS Nt V s σ0 lo k m i 0 l w) ns 0 S w) (hk : 1 ≤ k ∧ k ≤ 32) (hP : sP WI WU V S) (hL : S.length ≤ 1638) (hw : w ≤ 1500) (hWU : ∀ i, 0 < 2 ^ (WU i).toNat) (hd : 860 ≤ d)
    (kk : ∀ (τ : q_H) (v f : Int) (E : Nat), RWs s σ0 τ f → mIt S WU (nw (z σ0 125)) E (0, fun _ => 0, R) = .inr (v, f, nw (z τ 128)) → (0 ≤ v ∧ v ≤ 2) → E ≤ 999999 → Kk v τ) : J ω m_M_runWhole d 0 0 0 0 0 [(0, .ref 94)] [] σ0 (q_ki Kk) := by
  obtain ⟨d, rfl⟩ : ∃ k, d = k + 1 := ⟨d - 1, by omega⟩
  obtain ⟨d, rfl⟩ : ∃ k, d = k + 1 := ⟨d - 1, by omega⟩
  have lp : ∀ (m y : Nat) (σ : q_H), y + m = 16 → RQ s σ → fr [128] σ0 σ → (∀ i, i < y → z σ 128 i = 0) → J ω m_M_runWhole (d + 1 + 1) 0 0 0 0 2 [(0, .ref 94), (1, .int (zI (y : Int)))] [] σ (q_ki Kk) := by
    intro m
    induction m with
    | zero =>
      intro y σ hy hq hf hz
      obtain ⟨⟨hs, r0, r1, r2, r3, r4, r5⟩, hE⟩ := id hq
      refine b_M_runWhole_2 hs r0 r1 r2 r3 r4 r5 hE ⟨⟨by omega, by omega⟩, fun _ => ?_, fun q => absurd q (by omega)⟩
      have f1 : fr [94, 128] σ0 (zs σ 94 61 (-1)) := fr_s (fr_mono hf (by simp)) (by simp)
      have x1 : ∀ k, k ≠ 61 → z (zs σ 94 61 (-1)) 94 k = z σ0 94 k := fun k hk => by rw [z_k hk, fr_z hf (by decide)]
      have x2 : z (zs σ 94 61 (-1)) 94 61 = -1 := z_s ⟨by decide, by decide⟩
      have x3 : ∀ i, i < 16 → z (zs σ 94 61 (-1)) 128 i = 0 := fun i hi => by rw [z_o (by decide)]; exact hz i (by omega)
      have E1 : q_E (zs σ 94 61 (-1)) := zs_E hE
      have er : z σ 94 45 = z σ0 94 45 := fr_z hf (by decide) 45
      rw [er]
      generalize zs σ 94 61 (-1) = σ1 at f1 x1 x2 x3 E1
      have nn : ∀ o, (o = s ∨ o = s + 1 ∨ o = s + 2 ∨ o = s + 3 ∨ o = s + 4 ∨ o = s + 5) → z σ1 o = z σ0 o := fun o ho => fr_zF f1 (by simp; omega)
      have n5 : z σ1 125 = z σ0 125 := fr_zF f1 (by decide)
      have rq : RQ s σ1 := by
        refine ⟨⟨hs, ?_⟩, E1⟩
        rw [fr_r f1, fr_r f1, fr_r f1, fr_r f1, fr_r f1, fr_r f1, ← fr_r hf, ← fr_r hf, ← fr_r hf, ← fr_r hf, ← fr_r hf, ← fr_r hf]
        exact ⟨r0, r1, r2, r3, r4, r5⟩
      have hR1 : RR s σ1 σ1 (-1) := ⟨rq, fr_refl, fun _ _ => rfl, x2, fun i hi => by rw [x3 i hi]; decide⟩
      have z0 : nw (z σ1 128) = fun _ => 0 := funext fun i => by
        unfold nw
        split
        · rw [x3 i (by omega)]; rfl
        · rfl
      have hu1 : RU Nt V WI WU σ1 := by
        obtain ⟨u1, u2, u3, u4⟩ := hu
        refine ⟨by rw [x1 65 (by decide)]; exact u1, by rw [n5]; exact u2, by rw [n5]; exact u3, u4⟩
      have fin : ∀ τ f, RR s σ1 τ f → RWs s σ0 τ f := fun τ f h => ⟨fr_trans (fr_mono f1 (by simp)) h.2.1, fun k hk => (h.2.2.1 k hk).trans (x1 k hk), h.2.2.2.1, h.2.2.2.2⟩
      obtain ⟨⟨-, r0, r1, r2, r3, r4, r5⟩, hE⟩ := id rq
      have hl1 : lnk (z σ1 (s + 4)) ns (z σ0 94 45) := by rw [nn (s + 4) (by omega)]; exact hl
      have hN1 : NSs (fun m i l w => NS Nt V s σ1 lo k m i 0 l w) ns 0 S w := NSs_mono ns _ _ _ hN (fun m _ i l w q => NS_mono k m i 0 l w q (KM_eq nn m))
      refine b_M_go_0 hs r0 r1 r2 r3 r4 r5 hE (l_go (k_one hu1 k) (by omega) ns 0 S w _ σ1 R hns hl1 hN1 hP (fun j hj => by rw [Nat.zero_add]) hR1 ?_ (fun τ R' E hR2 hU2 _ hm _ hb => ?_) (fun τ v f E hR2 hm hv hb => ?_))
      · rw [z0]; exact fun i _ => hWU i
      · obtain ⟨⟨-, r0, r1, r2, r3, r4, r5⟩, hE⟩ := RR_r hR2
        refine b_M_runWhole_34 hs r0 r1 r2 r3 r4 r5 hE ⟨0, ⟨by decide, by decide⟩, rfl, kk τ 0 (-1) (E + 1) (fin _ _ hR2) ?_ ⟨by decide, by decide⟩ ?_⟩
        · rw [n5, z0] at hm
          refine mIt_tr E 1 _ _ _ hm (mIt_1 (x_end ?_))
          rw [Nat.zero_add]
          exact List.getElem?_eq_none (Nat.le_refl _)
        · have : tBd V k S.length w E := ⟨fun q => by
            have a := hb.1 q
            have : S.length * 1 ≤ S.length * k := Nat.mul_le_mul_left _ hk.1
            omega, hb.2⟩
          have := bnd_E this hk.2 hL hw
          omega
      · obtain ⟨⟨-, r0, r1, r2, r3, r4, r5⟩, hE⟩ := RR_r hR2
        rw [n5, z0] at hm
        have := bnd_E hb hk.2 hL hw
        exact b_M_runWhole_34 hs r0 r1 r2 r3 r4 r5 hE ⟨v, ⟨by omega, by omega⟩, rfl, kk τ v f E (fin _ _ hR2) hm (by omega) (by omega)⟩
    | succ m ih =>
      intro y σ hy hq hf hz
      obtain ⟨⟨hs, r0, r1, r2, r3, r4, r5⟩, hE⟩ := id hq
      refine b_M_runWhole_2 hs r0 r1 r2 r3 r4 r5 hE ⟨⟨by omega, by omega⟩, fun q => absurd q (by omega), fun _ => ⟨⟨by omega, by omega⟩, ?_⟩⟩
      rw [show (y : Int) + 1 = ((y + 1 : Nat) : Int) by omega, Int.toNat_natCast]
      refine ih (y + 1) _ (by omega) ⟨⟨hs, r0, r1, r2, r3, r4, r5⟩, zs_E hE⟩ (fr_s hf (by simp)) (fun i hi => ?_)
      rw [z_if ⟨by decide, by decide⟩]
      split
      · rfl
      · exact hz i (by omega)
  obtain ⟨⟨hs, r0, r1, r2, r3, r4, r5⟩, hE⟩ := id hq
  exact b_M_runWhole_0 hs r0 r1 r2 r3 r4 r5 hE (lp 16 0 σ0 (by omega) hq fr_refl (fun i hi => absurd hi (by omega)))
end RwP
