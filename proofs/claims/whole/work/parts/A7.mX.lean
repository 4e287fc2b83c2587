/-! The reference reads an EXPR as recursive descent does: the theorem -/
def NEt (s : Nat) (σ : q_H) (N k v : Nat) (e : q_Ex) : Prop := NE N (z σ s) (z σ (s + 1)) (z σ (s + 2)) (z σ (s + 3)) (z σ (s + 5)) k v e
def kB (l dp : Nat) : Nat := 12 * (31 - dp) + (12 - l)
def dB (l dp : Nat) : Nat := 40 * (32 - dp) + 2 * (16 - l)
/-- node v holds e, but for unknown NAMES -/
def XA (s : Nat) (σ : q_H) (Nn k v : Nat) (e : q_Ex) : Prop := v < Nn ∧ z σ (s + 5) v = e.2.1 ∧ (1 ≤ e.2.1 ∧ e.2.1 ≤ 8) ∧ (e.2.2.2 = none → NEt s σ Nn k v e)
section MxP
variable {s Nn N' k k' v : Nat} {σ τ : q_H} {e : q_Ex}
theorem NEt_KN (h : NEt s σ Nn k v e) (g : KN s Nn σ τ) (hN : Nn ≤ N') : NEt s τ N' k v e := NE_mono hN (fun i hi => by
  obtain ⟨a, b, c, d, -, f⟩ := g i hi
  exact ⟨a, b, c, d, f⟩) k v e h
theorem XA_KN (h : XA s σ Nn k v e) (g : KN s Nn σ τ) (hN : Nn ≤ N') : XA s τ N' k v e := by
  obtain ⟨a, b, c, d⟩ := h
  exact ⟨by omega, by rw [(g v a).2.2.2.2.2]; exact b, c, fun q => NEt_KN (d q) g hN⟩
theorem XA_le (h : XA s σ Nn k v e) (hk : k ≤ k') : XA s σ Nn k' v e := by
  obtain ⟨a, b, c, d⟩ := h
  exact ⟨a, b, c, fun q => NE_le k k' v e hk (d q)⟩
theorem orF_none {a b : Option Nat} (h : orF a b = none) : a = none ∧ b = none := by
  cases a with
  | none => exact ⟨rfl, h⟩
  | some x => cases h
theorem ne94 (hs : s = 110 ∨ s = 116) : (94 : Nat) ≠ s + 5 := by rcases hs with q | q <;> (subst q; decide)
theorem KN_w {N2 : Nat} {w : Int} (hs : s = 110 ∨ s = 116) : KN s N2 σ (zs σ (s + 5) N2 w) := fun i hi => by
  rw [z_o (show s ≠ s + 5 by omega), z_o (show s + 1 ≠ s + 5 by omega), z_o (show s + 2 ≠ s + 5 by omega), z_o (show s + 3 ≠ s + 5 by omega), z_o (show s + 4 ≠ s + 5 by omega), z_k (show i ≠ N2 by omega)]
  exact ⟨rfl, rfl, rfl, rfl, rfl, rfl⟩
/-- a node with its WIDTH: of a sign between two -/
theorem XA_bin {N2 v0 v2 : Nat} {e0 e2 : q_Ex} {u w : Int} (hs : s = 110 ∨ s = 116) (hu : 1 ≤ u ∧ u ≤ 18) (ew : w = oW u e0.2.1 e2.2.1) (A1 : XA s σ N2 (k + 1) v0 e0) (A2 : XA s σ N2 k v2 e2) (w0 : z σ s N2 = kmp u) (w1 : z σ (s + 1) N2 = (v0 : Int)) (w2 : z σ (s + 2) N2 = (v2 : Int)) : XA s (zs σ (s + 5) N2 w) (N2 + 1) (k + 1) N2 (eB u e0 e2) := by
  have hw : 1 ≤ w ∧ w ≤ 8 := by
    have a := A1.2.2.1
    have b := A2.2.2.1
    rw [ew]; unfold oW
    split
    · omega
    · split <;> omega
  have vw : z (zs σ (s + 5) N2 w) (s + 5) N2 = (eB u e0 e2).2.1 := by rw [z_s ⟨by omega, by omega⟩, ew]; rfl
  refine ⟨by omega, vw, by have e : (eB u e0 e2).2.1 = w := ew.symm
                           rw [e]; exact hw, fun q => ?_⟩
  obtain ⟨q1, q2⟩ := orF_none q
  have C1 := NEt_KN (N' := N2 + 1) (A1.2.2.2 q1) (KN_w (w := w) hs) (by omega)
  have C2 := NEt_KN (N' := N2 + 1) (A2.2.2.2 q2) (KN_w (w := w) hs) (by omega)
  obtain ⟨m, C1⟩ := C1
  exact ⟨m + 1, by omega, vw, u, v0, v2, e0, e2, hu, by rw [z_o (show s ≠ s + 5 by omega)]; exact w0, by rw [z_o (show s + 1 ≠ s + 5 by omega)]; exact w1, by rw [z_o (show s + 2 ≠ s + 5 by omega)]; exact w2, C1, C2, rfl⟩
/-- of a sign before one -/
theorem XA_un {N2 v0 : Nat} {e0 : q_Ex} {u w : Int} (hs : s = 110 ∨ s = 116) (hu : 19 ≤ u ∧ u ≤ 21) (ew : w = uW u e0.2.1) (A1 : XA s σ N2 k v0 e0) (w0 : z σ s N2 = kmp u) (w1 : z σ (s + 1) N2 = (v0 : Int)) : XA s (zs σ (s + 5) N2 w) (N2 + 1) (k + 1) N2 (eU u e0) := by
  have hw : 1 ≤ w ∧ w ≤ 8 := by
    have a := A1.2.2.1
    rw [ew]; unfold uW
    split <;> omega
  have vw : z (zs σ (s + 5) N2 w) (s + 5) N2 = (eU u e0).2.1 := by rw [z_s ⟨by omega, by omega⟩, ew]; rfl
  refine ⟨by omega, vw, by have e : (eU u e0).2.1 = w := ew.symm
                           rw [e]; exact hw, fun q => ?_⟩
  have C1 := NEt_KN (N' := N2 + 1) (A1.2.2.2 q) (KN_w (w := w) hs) (by omega)
  exact ⟨0, by omega, vw, Or.inr (Or.inr (Or.inl ⟨u, v0, e0, hu, by rw [z_o (show s ≠ s + 5 by omega)]; exact w0, by rw [z_o (show s + 1 ≠ s + 5 by omega)]; exact w1, C1, rfl⟩))⟩
/-- of a choice -/
theorem XA_ch {N2 v0 v1 v2 : Nat} {e0 e1 e2 : q_Ex} (hs : s = 110 ∨ s = 116) (A0 : XA s σ N2 k v0 e0) (A1 : XA s σ N2 k v1 e1) (A2 : XA s σ N2 k v2 e2) (w0 : z σ s N2 = 277) (w1 : z σ (s + 1) N2 = (v0 : Int)) (w2 : z σ (s + 2) N2 = (v1 : Int)) (w3 : z σ (s + 3) N2 = (v2 : Int)) : XA s (zs σ (s + 5) N2 (max e1.2.1 e2.2.1)) (N2 + 1) (k + 1) N2 (eC e0 e1 e2) := by
  have a := A1.2.2.1
  have b := A2.2.2.1
  have vw : z (zs σ (s + 5) N2 (max e1.2.1 e2.2.1)) (s + 5) N2 = (eC e0 e1 e2).2.1 := by rw [z_s ⟨by omega, by omega⟩]; rfl
  refine ⟨by omega, vw, by show 1 ≤ max e1.2.1 e2.2.1 ∧ max e1.2.1 e2.2.1 ≤ 8; omega, fun q => ?_⟩
  obtain ⟨q1, q2⟩ := orF_none q
  obtain ⟨q2, q3⟩ := orF_none q2
  have C0 := NEt_KN (N' := N2 + 1) (A0.2.2.2 q1) (KN_w (w := max e1.2.1 e2.2.1) hs) (by omega)
  have C1 := NEt_KN (N' := N2 + 1) (A1.2.2.2 q2) (KN_w (w := max e1.2.1 e2.2.1) hs) (by omega)
  have C2 := NEt_KN (N' := N2 + 1) (A2.2.2.2 q3) (KN_w (w := max e1.2.1 e2.2.1) hs) (by omega)
  exact ⟨0, by omega, vw, Or.inr (Or.inr (Or.inr ⟨v0, v1, v2, e0, e1, e2, by rw [z_o (show s ≠ s + 5 by omega)]; exact w0, by rw [z_o (show s + 1 ≠ s + 5 by omega)]; exact w1, by rw [z_o (show s + 2 ≠ s + 5 by omega)]; exact w2, by rw [z_o (show s + 3 ≠ s + 5 by omega)]; exact w3, C0, C1, C2, rfl⟩))⟩
end MxP
section MxJ
variable {ω : q_W} {s L : Nat} {K P : Nat → Int} {N : Nat → q_It} {B : Nat → Bool} {σ0 : q_H} {fb wb : Int}
/-- behind an EXPR -/
def XP (s L : Nat) (K P : Nat → Int) (N : Nat → q_It) (B : Nat → Bool) (σ0 : q_H) (fb wb : Int) (f0 : Option Nat) (σ : q_H) (t dp Nn k t' : Nat) (e : q_Ex) (τ : q_H) (N' v : Nat) : Prop :=
  MS s L K P N B σ0 τ t' dp N' fb wb (orF f0 e.2.2.2) ∧ KN s Nn σ τ ∧ Nn ≤ N' ∧ N' + t ≤ Nn + t' ∧ z τ 94 21 = z σ 94 21 ∧ XA s τ N' k v e
/-- what is to be shown, for all that costs n -/
def XE (ω : q_W) (s L : Nat) (K P : Nat → Int) (N : Nat → q_It) (B : Nat → Bool) (σ0 : q_H) (fb wb : Int) (n : Nat) : Prop := ∀ (dp t : Nat) (r : q_PR), dp ≤ 31 → pX K N B n 0 none dp t = some r → ∀ (d : Nat) (σ : q_H) (Nn : Nat) (f0 : Option Nat) (Kk : Int → q_H → Prop) (Kx : Nat → q_H → Prop), dB 0 dp ≤ d → MS s L K P N B σ0 σ t dp Nn fb wb f0 →
    (∀ x, r = .error x → ∀ τ, MQx s L K P N B σ0 τ x → Kx 100 τ) → (∀ t' e, r = .ok (t', e) → ∀ (τ : q_H) (N' v : Nat), XP s L K P N B σ0 fb wb f0 σ t dp Nn (kB 0 dp) t' e τ N' v → Kk (v : Int) τ) → J ω m_M_expr d 0 0 0 0 0 [(0, .ref 94)] [] σ (q_ox (q_ki Kk) Kx)
def XL (ω : q_W) (s L : Nat) (K P : Nat → Int) (N : Nat → q_It) (B : Nat → Bool) (σ0 : q_H) (fb wb : Int) (n : Nat) : Prop := ∀ (l dp t : Nat) (r : q_PR), 1 ≤ l → l ≤ 11 → dp ≤ 31 → pX K N B n l none dp t = some r → ∀ (d : Nat) (σ : q_H) (Nn : Nat) (f0 : Option Nat) (Kk : Int → q_H → Prop) (Kx : Nat → q_H → Prop), dB l dp + 1 ≤ d → MS s L K P N B σ0 σ t dp Nn fb wb f0 →
    (∀ x, r = .error x → ∀ τ, MQx s L K P N B σ0 τ x → Kx 100 τ) → (∀ t' e, r = .ok (t', e) → ∀ (τ : q_H) (N' v : Nat), XP s L K P N B σ0 fb wb f0 σ t dp Nn (kB l dp) t' e τ N' v → Kk (v : Int) τ) → J ω m_M_level d 0 0 0 0 0 [(0, .ref 94), (1, .int (zI (l : Int)))] [] σ (q_ox (q_ki Kk) Kx)
def XU (ω : q_W) (s L : Nat) (K P : Nat → Int) (N : Nat → q_It) (B : Nat → Bool) (σ0 : q_H) (fb wb : Int) (n : Nat) : Prop := ∀ (dp t : Nat) (r : q_PR), dp ≤ 31 → pX K N B n 11 none dp t = some r → ∀ (d : Nat) (σ : q_H) (Nn : Nat) (f0 : Option Nat) (Kk : Int → q_H → Prop) (Kx : Nat → q_H → Prop), dB 11 dp ≤ d → MS s L K P N B σ0 σ t dp Nn fb wb f0 →
    (∀ x, r = .error x → ∀ τ, MQx s L K P N B σ0 τ x → Kx 100 τ) → (∀ t' e, r = .ok (t', e) → ∀ (τ : q_H) (N' v : Nat), XP s L K P N B σ0 fb wb f0 σ t dp Nn (kB 11 dp) t' e τ N' v → Kk (v : Int) τ) → J ω m_M_unary d 0 0 0 0 0 [(0, .ref 94)] [] σ (q_ox (q_ki Kk) Kx)
def XC (ω : q_W) (s L : Nat) (K P : Nat → Int) (N : Nat → q_It) (B : Nat → Bool) (σ0 : q_H) (fb wb : Int) (n : Nat) : Prop := ∀ (l dp t : Nat) (e0 : q_Ex) (r : q_PR), 1 ≤ l → l ≤ 10 → dp ≤ 30 → pX K N B n l (some e0) dp t = some r → ∀ (d : Nat) (σ : q_H) (Nn : Nat) (f0 : Option Nat) (Kk : Int → q_H → Prop) (Kx : Nat → q_H → Prop) (v0 : Nat), dB l dp ≤ d → MS s L K P N B σ0 σ t dp Nn fb wb (orF f0 e0.2.2.2) → XA s σ Nn (kB l dp) v0 e0 →
    (∀ x, r = .error x → ∀ τ, MQx s L K P N B σ0 τ x → Kx 100 τ) → (∀ t' e, r = .ok (t', e) → ∀ (τ : q_H) (N' v : Nat), XP s L K P N B σ0 fb wb f0 σ t dp Nn (kB l dp) t' e τ N' v → Kk (v : Int) τ) → J ω m_M_level d 0 0 0 0 19 [(0, .ref 94), (1, .int (zI (l : Int))), (2, .int (zI (v0 : Int)))] [] σ (q_ox (q_ki Kk) Kx)
theorem X_acc {n : Nat} (lev : XL ω s L K P N B σ0 fb wb n) (cn : XC ω s L K P N B σ0 fb wb n) : XC ω s L K P N B σ0 fb wb (n + 1) := by
  intro l dp t e0 r l1 l10 dp30 h d σ Nn f0 Kk Kx v0 hd hM hA kx kk
  have hd1 : 1 ≤ d := by unfold dB at hd; omega
  obtain ⟨d, rfl⟩ : ∃ k, d = k + 1 := ⟨d - 1, by omega⟩
  obtain ⟨hs, r0, r1, r2, r3, r4, r5⟩ := MB_r hM.1
  have E := hM.1.2.1
  have h8 := hM.2.1.1
  have tL := hM.2.1.2
  have L4 := hM.1.1.2.1
  have N9 : Nn ≤ 4096 := by have := hM.2.2.2.1.2; omega
  have hdp : dp ≤ 31 := by omega
  obtain ⟨e1, e2, e3, e4, e5, e6⟩ := MS_k hM
  clear e5
  unfold pX at h
  refine b_M_level_19 hs r0 r1 r2 r3 r4 r5 E ?_
  rw [h8, Int.toNat_natCast, e1]
  refine ⟨e6, m_levelOf E ⟨by omega, e3.2⟩ (b_M_level_26 hs r0 r1 r2 r3 r4 r5 E ?_)⟩
  have sl := sgL_le (K t)
  refine ⟨⟨by omega, by omega⟩, ⟨by omega, by omega⟩, fun c => ?_, fun c => ?_⟩
  · rw [if_neg (by omega)] at h
    cases h
    have v9 := hA.1
    exact Or.inl ⟨_, ⟨by omega, by omega⟩, rfl, kk t e0 rfl σ Nn v0 ⟨hM, KN_refl, Nat.le_refl _, Nat.le_refl _, rfl, hA⟩⟩
  · have cl : sgL (K t) = l := by omega
    rw [if_pos cl] at h
    have hb : 1 ≤ K t ∧ K t ≤ 18 := Classical.byContradiction fun q => by have := sgL_0.mpr q; omega
    rw [h8, Int.toNat_natCast, e1]
    refine ⟨e6, m_taken (by unfold dB at hd; omega) hM (fun q => absurd q (by omega)) (fun _ _ _ τ hτ hk h21 => ?_)⟩
    obtain ⟨-, q0, q1, q2, q3, q4, q5⟩ := MB_r hτ.1
    refine b_M_level_39 hs q0 q1 q2 q3 q4 q5 hτ.1.2.1 ?_
    rw [show (l : Int) + 1 = ((l + 1 : Nat) : Int) by omega]
    rcases bnd_some h with ⟨x, p1, p2⟩ | ⟨t2, e2', p1, p2⟩
    · refine lev (l + 1) dp (t + 1) (.error x) (by omega) (by omega) hdp p1 d τ Nn _ _ _ (by unfold dB at hd ⊢; omega) hτ (fun y q μ hμ => ?_) (fun t' e q => by cases q)
      cases q
      exact Or.inr ⟨100, rfl, kx x p2 μ hμ⟩
    · refine lev (l + 1) dp (t + 1) (.ok (t2, e2')) (by omega) (by omega) hdp p1 d τ Nn _ _ _ (by unfold dB at hd ⊢; omega) hτ (fun y q => by cases q) (fun t' e q μ N2 v2 hμ => ?_)
      cases q
      obtain ⟨m1, m2, m3, m4, m5, m6⟩ := hμ
      obtain ⟨-, g0, g1, g2, g3, g4, g5⟩ := MB_r m1.1
      have tm := m1.2.1.2
      have Nt := hM.2.2.2.1.2
      have nb := m1.2.2.2.1.2
      have kmR := kmp_R (K t).toNat (by omega)
      rw [show (((K t).toNat : Nat) : Int) = K t by omega] at kmR
      have v9 := hA.1
      have v29 := m6.1
      refine b_M_level_48 hs g0 g1 g2 g3 g4 g5 m1.1.2.1 (m_node m1 (by omega) ⟨by omega, by omega⟩ ⟨by omega, by omega⟩ ⟨by omega, by omega⟩ ⟨by decide, by decide⟩ (fun ν hν nk n21 w0 w1 w2 w3 w4 w5 => ?_))
      obtain ⟨-, u0, u1, u2, u3, u4, u5⟩ := MB_r hν.1
      -- the operands where the node stands
      have A1 : XA s ν N2 (kB l dp) v0 e0 := XA_KN (XA_KN hA (KN_trans hk (Nat.le_refl _) m2) m3) nk (Nat.le_refl _)
      have A2 : XA s ν N2 (kB (l + 1) dp) v2 e2' := XA_KN m6 nk (Nat.le_refl _)
      have KA : KN s Nn σ ν := KN_trans (KN_trans hk (Nat.le_refl _) m2) m3 nk
      have ek : kB l dp = kB (l + 1) dp + 1 := by unfold kB; omega
      have c21 : z ν 94 21 = z σ 94 21 := n21.trans (m5.trans h21)
      -- behind its WIDTH
      have fin : ∀ w : Int, w = oW (K t) e0.2.1 e2'.2.1 → J ω m_M_level (d + 1) 0 0 0 0 19 [(0, .ref 94), (1, .int (zI (l : Int))), (2, .int (zI (N2 : Int)))] [] (zs ν (s + 5) N2 w) (q_ox (q_ki Kk) Kx) := fun w ew => by
        have mw := MS_w (v := N2) (w := w) hν
        have ef : orF (orF f0 e0.2.2.2) e2'.2.2.2 = orF f0 (eB (K t) e0 e2').2.2.2 := orF_a _ _ _
        rw [ef] at mw
        have XN : XA s (zs ν (s + 5) N2 w) (N2 + 1) (kB l dp) N2 (eB (K t) e0 e2') := by
          rw [ek] at A1 ⊢
          exact XA_bin hs hb ew A1 A2 w0 w1 w2
        refine cn l dp t2 (eB (K t) e0 e2') r l1 l10 dp30 p2 (d + 1) _ (N2 + 1) f0 Kk Kx N2 hd mw XN kx (fun t' e q ρ N3 v3 hρ => ?_)
        obtain ⟨a1, a2, a3, a4, a5, a6⟩ := hρ
        have z21 : z (zs ν (s + 5) N2 w) 94 21 = z ν 94 21 := z_o (ne94 hs)
        exact kk t' e q ρ N3 v3 ⟨a1, KN_trans KA m3 (KN_trans (KN_w hs) (by omega) a2), by omega, by omega, a5.trans (z21.trans c21), a6⟩
      have wide0 : z ν (s + 5) v0 = e0.2.1 := A1.2.1
      have wide2 : z ν (s + 5) v2 = e2'.2.1 := A2.2.1
      have g83 : ∀ y : Int, (y = 0 ∨ y = 1) → (y = 1 ↔ (l ≤ 2 ∨ l = 6 ∨ l = 7)) → J ω m_M_level (d + 1) 0 0 0 0 83 [(0, .ref 94), (1, .int (zI (l : Int))), (2, .int (zI (v0 : Int))), (5, .int (zI (v2 : Int))), (6, .int (zI (N2 : Int)))] [.int (zI y)] ν (q_ox (q_ki Kk) Kx) := fun y hy hy1 => by
        refine b_M_level_83 hs u0 u1 u2 u3 u4 u5 hν.1.2.1 ?_
        rw [Int.toNat_natCast, Int.toNat_natCast, Int.toNat_natCast, wide0, wide2]
        refine ⟨by rcases hy with q | q <;> rw [q] <;> exact ⟨by decide, by decide⟩, fun c0 => ⟨⟨by omega, by omega⟩, fun c8 => ⟨⟨by omega, by omega⟩, ⟨by omega, by omega⟩, ⟨by omega, by omega⟩, fin _ ?_⟩, fun c8 => ⟨⟨by omega, by omega⟩, ⟨by omega, by omega⟩, fin _ ?_⟩⟩, fun c0 => ⟨⟨by omega, by omega⟩, fin _ ?_⟩⟩
        · have : ¬ (l ≤ 2 ∨ l = 6 ∨ l = 7) := fun q => by have := hy1.mpr q; omega
          unfold oW; rw [cl, if_neg this, if_neg (by omega)]
        · have : ¬ (l ≤ 2 ∨ l = 6 ∨ l = 7) := fun q => by have := hy1.mpr q; omega
          unfold oW; rw [cl, if_neg this, if_pos (by omega)]
        · have : (l ≤ 2 ∨ l = 6 ∨ l = 7) := hy1.mp (by omega)
          unfold oW; rw [cl, if_pos this]
      refine b_M_level_59 hs u0 u1 u2 u3 u4 u5 hν.1.2.1 ⟨⟨by omega, by omega⟩, fun c1 => g83 1 (Or.inr rfl) (by omega), fun c1 => ⟨fun c6 => g83 1 (Or.inr rfl) (by omega), fun c6 => ⟨fun c7 => g83 0 (Or.inl rfl) (by omega), fun c7 => g83 1 (Or.inr rfl) (by omega)⟩⟩⟩
theorem X_level {n : Nat} (lev : XL ω s L K P N B σ0 fb wb n) (cn : XC ω s L K P N B σ0 fb wb n) (un : XU ω s L K P N B σ0 fb wb (n + 1)) : XL ω s L K P N B σ0 fb wb (n + 1) := by
  intro l dp t r l1 l11 hdp h d σ Nn f0 Kk Kx hd hM kx kk
  obtain ⟨d, rfl⟩ : ∃ k, d = k + 1 := ⟨d - 1, by omega⟩
  obtain ⟨hs, r0, r1, r2, r3, r4, r5⟩ := MB_r hM.1
  have E := hM.1.2.1
  have h8 := hM.2.1.1
  have tL := hM.2.1.2
  have L4 := hM.1.1.2.1
  have N9 : Nn ≤ 4096 := by have := hM.2.2.2.1.2; omega
  by_cases l10 : l ≤ 10
  · unfold pX at h
    rw [if_neg (by omega), if_pos l10] at h
    refine b_M_level_0 hs r0 r1 r2 r3 r4 r5 E ⟨⟨by omega, by omega⟩, fun _ => ?_, fun q => absurd q (by omega)⟩
    rw [show (l : Int) + 1 = ((l + 1 : Nat) : Int) by omega]
    rcases bnd_some h with ⟨x, p1, p2⟩ | ⟨t1, e1', p1, p2⟩
    · refine lev (l + 1) dp t (.error x) (by omega) (by omega) hdp p1 d σ Nn _ _ _ (by unfold dB at hd ⊢; omega) hM (fun y q μ hμ => ?_) (fun t' e q => by cases q)
      cases q
      exact Or.inr ⟨100, rfl, kx x p2 μ hμ⟩
    · refine lev (l + 1) dp t (.ok (t1, e1')) (by omega) (by omega) hdp p1 d σ Nn _ _ _ (by unfold dB at hd ⊢; omega) hM (fun y q => by cases q) (fun t' e q μ N1 v1 hμ => ?_)
      cases q
      obtain ⟨m1, m2, m3, m4, m5, m6⟩ := hμ
      obtain ⟨-, g0, g1, g2, g3, g4, g5⟩ := MB_r m1.1
      have dp30 : dp ≤ 30 := ((pX_next n (l + 1) none dp t t1 e1' (by omega) (fun q => absurd rfl q) p1).2.2.1 rfl).2
      refine b_M_level_18 hs g0 g1 g2 g3 g4 g5 m1.1.2.1 ?_
      refine cn l dp t1 e1' r l1 l10 dp30 p2 (d + 1) μ N1 f0 Kk Kx v1 (by omega) m1 (XA_le m6 (by unfold kB; omega)) kx (fun t' e q ρ N3 v3 hρ => ?_)
      obtain ⟨a1, a2, a3, a4, a5, a6⟩ := hρ
      exact kk t' e q ρ N3 v3 ⟨a1, KN_trans m2 m3 a2, by omega, by omega, a5.trans m5, a6⟩
  · have e11 : l = 11 := by omega
    subst e11
    refine b_M_level_0 hs r0 r1 r2 r3 r4 r5 E ⟨⟨by decide, by decide⟩, fun q => absurd rfl q, fun _ => ?_⟩
    refine un dp t r hdp h d σ Nn f0 (fun v τ => J ω m_M_level (d + 1) 0 0 0 0 10 [] [.int (zI v)] τ (q_ox (q_ki Kk) Kx)) (fun x τ => (q_ox (q_ki Kk) Kx) (.inr x) τ) (by omega) hM (fun x q τ hτ => Or.inr ⟨100, rfl, kx x q τ hτ⟩) (fun t' e q τ N' v hτ => ?_)
    obtain ⟨-, p0, p1, p2, p3, p4, p5⟩ := MB_r hτ.1.1
    have vb : v < N' := hτ.2.2.2.2.2.1
    have : N' ≤ 4096 := by have := hτ.1.2.2.2.1.2; have := hτ.1.2.1.2; omega
    exact b_M_level_10 hs p0 p1 p2 p3 p4 p5 hτ.1.1.2.1 (Or.inl ⟨_, ⟨by omega, by omega⟩, rfl, kk t' e q τ N' v hτ⟩)
end MxJ
