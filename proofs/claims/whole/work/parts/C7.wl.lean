/-! The reference's WORK of an EXPR -/
def RQ (s : Nat) (σ : q_H) : Prop := ((s = 110 ∨ s = 116) ∧ q_r σ 94 32 = s ∧ q_r σ 94 33 = s + 1 ∧ q_r σ 94 34 = s + 2 ∧ q_r σ 94 35 = s + 3 ∧ q_r σ 94 36 = s + 4 ∧ q_r σ 94 37 = s + 5) ∧ q_E σ
theorem kmp_pr : ∀ j : Nat, j < 19 → 1 ≤ j → (sgL (j : Int) = 10 ↔ (kmp (j : Int) = 42 ∨ kmp (j : Int) = 47 ∨ kmp (j : Int) = 37)) ∧ (sgL (j : Int) = 8 ↔ (kmp (j : Int) = 269 ∨ kmp (j : Int) = 270)) ∧ 1 ≤ sgL (j : Int) := by decide +kernel
theorem cap2 {a b S : Nat} (h : b = min a 1000000) : min (S + b) 1000000 = min (S + a) 1000000 := by omega
section WlP
variable {ω : q_W} {d s N : Nat} {σ : q_H}
theorem k_most {Kk : Int64 → q_H → Prop} {a : Int64} {m : Nat} (hd : 1 ≤ d) (hE : q_E σ) (ha : a.toInt = (m : Int)) (kk : ∀ v : Int64, v.toInt = ((min m 1000000 : Nat) : Int) → Kk v σ) : J ω m_M_most d 0 0 0 0 0 [(0, .long a)] [] σ (q_kl Kk) := by
  obtain ⟨d, rfl⟩ : ∃ k, d = k + 1 := ⟨d - 1, by omega⟩
  exact b_M_most_0 hE ⟨_, rfl, kk _ (l_most ha)⟩
theorem k_isTwo {Kk : Int → q_H → Prop} {n : Nat} {k : Int} (hd : 1 ≤ d) (hq : RQ s σ) (hn : n < 9000) (hk : 0 ≤ k ∧ k ≤ 47) (hs : z σ s n = kmp k) (k0 : sgL k = 0 → Kk 0 σ) (k1 : sgL k ≠ 0 → Kk 1 σ) : J ω m_M_isTwo d 0 0 0 0 0 [(0, .ref 94), (1, .int (zI (n : Int)))] [] σ (q_ki Kk) := by
  obtain ⟨d, rfl⟩ : ∃ k, d = k + 1 := ⟨d - 1, by omega⟩
  obtain ⟨⟨h, r0, r1, r2, r3, r4, r5⟩, hE⟩ := hq
  refine b_M_isTwo_0 h r0 r1 r2 r3 r4 r5 hE ⟨⟨by omega, by omega⟩, ?_⟩
  rw [Int.toNat_natCast, hs]
  have l := sgL_le k
  refine m_levelOf hE hk (b_M_isTwo_9 h r0 r1 r2 r3 r4 r5 hE ⟨⟨by omega, by omega⟩, fun c => ⟨0, ⟨by decide, by decide⟩, rfl, k0 (by omega)⟩, fun c => ⟨1, ⟨by decide, by decide⟩, rfl, k1 (by omega)⟩⟩)
/-- what is to be shown, for EXPRS of depth k -/
def WX (ω : q_W) (s N : Nat) (σ : q_H) (k : Nat) : Prop := ∀ (n : Nat) (e : q_Ex) (d : Nat) (Kk : Int64 → q_H → Prop), NEt s σ N k n e → wI e.1 → 2 * k + 4 ≤ d → (∀ v : Int64, v.toInt = ((min e.2.2.1 1000000 : Nat) : Int) → Kk v σ) → J ω m_M_workOf d 0 0 0 0 0 [(0, .ref 94), (1, .int (zI (n : Int)))] [] σ (q_kl Kk)
theorem k_other {k n : Nat} {e : q_Ex} {Kk : Int64 → q_H → Prop} (wx : WX ω s N σ k) (hq : RQ s σ) (hN : N ≤ 4097) (h : NEb N (z σ s) (z σ (s + 1)) (z σ (s + 2)) (z σ (s + 3)) (z σ (s + 5)) (NE N (z σ s) (z σ (s + 1)) (z σ (s + 2)) (z σ (s + 3)) (z σ (s + 5)) k) n e) (hw : wI e.1) (hd : 2 * k + 5 ≤ d) (kk : ∀ v : Int64, v.toInt = ((min e.2.2.1 1000000 : Nat) : Int) → Kk v σ) : J ω m_M_workOfOther d 0 0 0 0 0 [(0, .ref 94), (1, .int (zI (n : Int)))] [] σ (q_kl Kk) := by
  obtain ⟨d, rfl⟩ : ∃ k, d = k + 1 := ⟨d - 1, by omega⟩
  have ew := NEb_w h hw
  obtain ⟨⟨hs, r0, r1, r2, r3, r4, r5⟩, hE⟩ := id hq
  obtain ⟨hn, hwd, h⟩ := h
  refine b_M_workOfOther_0 hs r0 r1 r2 r3 r4 r5 hE ?_
  rw [Int.toNat_natCast]
  have zr : ∀ e : q_Ex, e.2.2.1 = 0 → (0 : Int64).toInt = ((min e.2.2.1 1000000 : Nat) : Int) := fun e h => by rw [h]; decide
  have lt : ∀ (m : Nat) (x : q_Ex), NE N (z σ s) (z σ (s + 1)) (z σ (s + 2)) (z σ (s + 3)) (z σ (s + 5)) k m x → m < N ∧ z σ (s + 5) m = x.2.1 := fun m x q => by
    cases k with
    | zero => exact False.elim q
    | succ k =>
      obtain ⟨j, q⟩ := q
      cases j with
      | zero => exact ⟨q.1, q.2.1⟩
      | succ j => exact ⟨q.1, q.2.1⟩
  refine ⟨⟨by omega, by omega⟩, ?_⟩
  rcases h with h | h | ⟨u, n1, e1, a, b, c, f, g⟩ | ⟨n1, n2, n3, e1, e2, e3, a, b, c, f, g1, g2, g3, g⟩
  · exact ⟨fun _ => ⟨_, rfl, kk _ (zr e (by rw [h.2.2]))⟩, fun c => absurd h.1 c⟩
  · refine ⟨fun c => absurd (h.1.symm.trans c) (by decide), fun _ => ⟨fun c => absurd h.1 c, fun _ => ⟨_, rfl, kk _ (zr e ?_)⟩⟩⟩
    rcases h.2.2 with q | q
    · rw [q.2]
    · rw [q.2]
  · obtain ⟨t1, w1⟩ := lt n1 e1 f
    have un : z σ s n = 33 ∨ z σ s n = 126 ∨ z σ s n = 278 := by
      rw [b]
      have : u = 19 ∨ u = 20 ∨ u = 21 := by omega
      rcases this with q | q | q <;> subst q <;> decide
    subst g
    have hw1 : wI e1.1 := by unfold eU at hw; exact (wI_app.mp hw).1
    have ew1 := NE_w k n1 e1 f hw1
    refine ⟨fun c => absurd c (by omega), fun _ => ⟨fun _ => ⟨by rw [c]; exact ⟨by omega, by omega⟩, fun c => absurd c (by omega), fun _ => ?_⟩, fun c => absurd c (by omega)⟩⟩
    rw [c, Int.toNat_natCast, hwd, w1]
    refine wx n1 e1 d _ f hw1 (by omega) (fun v hv => ?_)
    have pw : max (eU u e1).2.1 e1.2.1 = e1.2.1 := by
      show max (uW u e1.2.1) e1.2.1 = e1.2.1
      unfold uW
      split <;> omega
    rw [pw]
    refine b_M_workOfOther_61 hs r0 r1 r2 r3 r4 r5 hE (k_most (m := min e1.2.2.1 1000000 + e1.2.1.toNat) (by omega) hE (l_add hv (l_of ⟨by omega, by omega⟩) (by omega)) (fun v2 hv2 => b_M_workOfOther_67 hs r0 r1 r2 r3 r4 r5 hE ⟨_, rfl, kk v2 ?_⟩))
    rw [hv2]
    unfold eU
    dsimp only
    omega
  · obtain ⟨t1, w1⟩ := lt n1 e1 g1
    obtain ⟨t2, w2⟩ := lt n2 e2 g2
    obtain ⟨t3, w3⟩ := lt n3 e3 g3
    subst g
    have hw0 : wI (e1.1 ++ e2.1 ++ e3.1) := by unfold eC at hw; exact (wI_app.mp hw).1
    have hw3 := (wI_app.mp hw0).2
    have hw12 := wI_app.mp (wI_app.mp hw0).1
    have ew1 := NE_w k n1 e1 g1 hw12.1
    have ew2 := NE_w k n2 e2 g2 hw12.2
    have ew3 := NE_w k n3 e3 g3 hw3
    refine ⟨fun q => absurd (a.symm.trans q) (by decide), fun _ => ⟨fun _ => ⟨by rw [b]; exact ⟨by omega, by omega⟩, fun _ => ?_, fun q => absurd a q⟩, fun q => absurd (a.symm.trans q) (by decide)⟩⟩
    rw [b, Int.toNat_natCast, hwd, w1]
    refine wx n1 e1 d _ g1 hw12.1 (by omega) (fun v1 hv1 => ?_)
    refine b_M_workOfOther_78 hs r0 r1 r2 r3 r4 r5 hE ⟨⟨by omega, by omega⟩, ?_⟩
    rw [Int.toNat_natCast, c]
    refine wx n2 e2 d _ g2 hw12.2 (by omega) (fun v2 hv2 => ?_)
    refine b_M_workOfOther_88 hs r0 r1 r2 r3 r4 r5 hE ⟨⟨by omega, by omega⟩, ?_⟩
    rw [Int.toNat_natCast, f]
    refine wx n3 e3 d _ g3 hw3 (by omega) (fun v3 hv3 => ?_)
    have me : (eC e1 e2 e3).2.1 = max e2.2.1 e3.2.1 := rfl
    refine b_M_workOfOther_99 hs r0 r1 r2 r3 r4 r5 hE ?_
    rw [Int.toNat_natCast, c, f, Int.toNat_natCast, Int.toNat_natCast, w2, w3, me]
    have a12 := l_add hv1 hv2 (by omega)
    have a123 := l_add a12 hv3 (by omega)
    refine ⟨⟨by omega, by omega⟩, ⟨by omega, by omega⟩, ⟨by omega, by omega⟩, ⟨by omega, by omega⟩, ⟨by omega, by omega⟩, ?_⟩
    have mx : max (max (max e2.2.1 e3.2.1) e1.2.1) (max e2.2.1 e3.2.1) = max e1.2.1 (max e2.2.1 e3.2.1) := by omega
    rw [mx]
    refine k_most (by omega) hE (l_add a123 (l_of ⟨by omega, by omega⟩) (by omega)) (fun v4 hv4 => b_M_workOfOther_134 hs r0 r1 r2 r3 r4 r5 hE ⟨_, rfl, kk v4 ?_⟩)
    rw [hv4]
    unfold eC
    dsimp only
    omega
end WlP
