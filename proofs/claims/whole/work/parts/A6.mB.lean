/-! The reference reads an EXPR as recursive descent does -/
theorem lvO : ∀ j : Nat, j < 48 → ((kmp (j : Int) = 37 ∨ kmp (j : Int) = 42 ∨ kmp (j : Int) = 47) → sgL (j : Int) = 10) ∧ (kmp (j : Int) = 38 → sgL (j : Int) = 5) ∧ ((kmp (j : Int) = 43 ∨ kmp (j : Int) = 45) → sgL (j : Int) = 9) ∧ ((kmp (j : Int) = 60 ∨ kmp (j : Int) = 62 ∨ kmp (j : Int) = 267 ∨ kmp (j : Int) = 268) → sgL (j : Int) = 7) ∧ (kmp (j : Int) = 94 → sgL (j : Int) = 4) ∧ (kmp (j : Int) = 124 → sgL (j : Int) = 3) := by decide +kernel
theorem lvP : ∀ j : Nat, j < 48 → ((kmp (j : Int) = 265 ∨ kmp (j : Int) = 266) → sgL (j : Int) = 6) ∧ ((kmp (j : Int) = 269 ∨ kmp (j : Int) = 270) → sgL (j : Int) = 8) ∧ (kmp (j : Int) = 271 → sgL (j : Int) = 2) ∧ (kmp (j : Int) = 272 → sgL (j : Int) = 1) := by decide +kernel
theorem lvN : ∀ j : Nat, j < 48 → sgL (j : Int) = 0 ∨ kmp (j : Int) ∈ [37, 38, 42, 43, 45, 47, 60, 62, 94, 124, 265, 266, 267, 268, 269, 270, 271, 272] := by decide +kernel
section MbJ
variable {ω : q_W} {d s L : Nat} {K P : Nat → Int} {N : Nat → q_It} {B : Nat → Bool} {σ0 σ : q_H} {t dp Nn : Nat} {fb wb : Int} {f : Option Nat}
theorem m_levelOf {Kk : Int → q_H → Prop} {k : Int} (hE : q_E σ) (hk : 0 ≤ k ∧ k ≤ 47) (kk : Kk ((sgL k : Nat) : Int) σ) : J ω m_M_levelOf d 0 0 0 0 0 [(0, .int (zI (kmp k)))] [] σ (q_ki Kk) := by
  obtain ⟨j, rfl⟩ : ∃ j : Nat, k = (j : Int) := ⟨k.toNat, by omega⟩
  obtain ⟨a1, a2, a3, a4, a5, a6⟩ := lvO j (by omega)
  obtain ⟨a7, a8, a9, a10⟩ := lvP j (by omega)
  have a11 := lvN j (by omega)
  have r := kmp_R j (by omega)
  have H : ∀ v : Nat, v ≤ 10 → sgL (j : Int) = v → q_ki Kk (.inl (some (.int (zI (v : Int))))) σ := fun v hv e => ⟨_, ⟨by omega, by omega⟩, rfl, by rw [← e]; exact kk⟩
  exact b_M_levelOf_0 hE ⟨⟨by omega, by omega⟩, fun c => H 10 (by decide) (a1 c), fun c => H 5 (by decide) (a2 c), fun c => H 9 (by decide) (a3 c), fun c => H 7 (by decide) (a4 c), fun c => H 4 (by decide) (a5 c), fun c => H 3 (by decide) (a6 c), fun c => H 6 (by decide) (a7 c), fun c => H 8 (by decide) (a8 c), fun c => H 2 (by decide) (a9 c), fun c => H 1 (by decide) (a10 c), fun c => H 0 (by decide) (a11.resolve_right (fun q => by simp at q; omega))⟩
theorem m_lookUp {Kk : Int → q_H → Prop} {x : Int64} (hb : MB s L K P N B σ0 σ) (kk : Kk (lkM σ0 x) σ) : J ω m_M_lookUp d 0 0 0 0 0 [(0, .ref 94), (1, .long x)] [] σ (q_ki Kk) := by
  obtain ⟨hs, r0, r1, r2, r3, r4, r5⟩ := MB_r hb
  have e17 : z σ 94 17 = z σ0 94 17 := hb.2.2.2 17 (by decide)
  have el := (MB_z (o := 102) hb ⟨by decide, by decide⟩).2
  have h17 := hb.1.2.2.2.2.2.2.1
  have l : ∀ (k i : Nat), k + i = 400 → fnV x (q_l σ0 102) (z σ0 94 17).toNat k i = lkM σ0 x → J ω m_M_lookUp d 0 0 0 0 2 [(0, .ref 94), (1, .long x), (3, .int (zI (i : Int)))] [] σ (q_ki Kk) := by
    intro k
    have out : lkM σ0 x = -1 → q_ki Kk (.inl (some (.int (zI (-1))))) σ := fun e => ⟨-1, ⟨by decide, by decide⟩, rfl, by rw [← e]; exact kk⟩
    induction k with
    | zero =>
      intro i hi he
      refine b_M_lookUp_2 hs r0 r1 r2 r3 r4 r5 hb.2.1 ?_
      rw [e17]
      exact ⟨⟨by omega, by omega⟩, fun _ => out (by rw [← he]; rfl), fun c => absurd c (by omega)⟩
    | succ k ih =>
      intro i hi he
      rw [fnV_s (k := k) (i := i)] at he
      refine b_M_lookUp_2 hs r0 r1 r2 r3 r4 r5 hb.2.1 ?_
      rw [e17, el, Int.toNat_natCast]
      refine ⟨⟨by omega, by omega⟩, fun c => out (by rw [← he, if_neg (by omega)]), fun c => ⟨⟨by omega, by omega⟩, fun c2 => ?_, fun c2 => ⟨_, ⟨by omega, by omega⟩, rfl, ?_⟩⟩⟩
      · rw [if_pos (by omega), if_neg c2] at he
        rw [show (i : Int) + 1 = ((i + 1 : Nat) : Int) by omega]
        exact ih (i + 1) (by omega) he
      · rw [if_pos (by omega), if_pos c2] at he
        rw [he]; exact kk
  exact b_M_lookUp_0 hs r0 r1 r2 r3 r4 r5 hb.2.1 (l 400 0 rfl rfl)
/-- a node more -/
theorem m_node {Kk : Int → q_H → Prop} {x1 x2 x3 x4 : Int} (h : MS s L K P N B σ0 σ t dp Nn fb wb f) (hN : Nn + 1 ≤ t) (i1 : inR x1) (i2 : inR x2) (i3 : inR x3) (i4 : inR x4)
    (kk : ∀ τ, MS s L K P N B σ0 τ t dp (Nn + 1) fb wb f → KN s Nn σ τ → z τ 94 21 = z σ 94 21 → z τ s Nn = x1 → z τ (s + 1) Nn = x2 → z τ (s + 2) Nn = x3 → z τ (s + 3) Nn = x4 → z τ (s + 4) Nn = -1 → z τ (s + 5) Nn = 0 → Kk (Nn : Int) τ) : J ω m_M_node d 0 0 0 0 0 [(0, .ref 94), (1, .int (zI x1)), (2, .int (zI x2)), (3, .int (zI x3)), (4, .int (zI x4))] [] σ (q_ki Kk) := by
  obtain ⟨hs, r0, r1, r2, r3, r4, r5⟩ := MB_r h.1
  obtain ⟨hb, ⟨h8, hL⟩, h9, ⟨h44, hN0⟩, hF, hw, hf⟩ := id h
  have L4 := hb.1.2.1
  refine b_M_node_0 hs r0 r1 r2 r3 r4 r5 hb.2.1 ?_
  rw [h44, Int.toNat_natCast]
  refine ⟨⟨by omega, by omega⟩, _, ⟨by omega, by omega⟩, rfl, ?_⟩
  have M1 : MB s L K P N B σ0 (zs (zs (zs (zs (zs (zs (zs σ s Nn x1) (s + 1) Nn x2) (s + 2) Nn x3) (s + 3) Nn x4) (s + 4) Nn (-1)) (s + 5) Nn 0) 94 44 ((Nn : Int) + 1)) :=
    MB_s (MB_s (MB_s (MB_s (MB_s (MB_s (MB_s hb (by unfold SM; simp) (by omega) hs) (by unfold SM; simp) (by omega) hs) (by unfold SM; simp) (by omega) hs) (by unfold SM; simp) (by omega) hs) (by unfold SM; simp) (by omega) hs) (by unfold SM; simp) (by omega) hs) (by unfold SM; simp) (fun _ => by simp) hs
  have o94 : ∀ k, k ≠ 44 → z (zs (zs (zs (zs (zs (zs (zs σ s Nn x1) (s + 1) Nn x2) (s + 2) Nn x3) (s + 3) Nn x4) (s + 4) Nn (-1)) (s + 5) Nn 0) 94 44 ((Nn : Int) + 1)) 94 k = z σ 94 k := fun k q => by
    rw [z_k q, z_o (by omega), z_o (by omega), z_o (by omega), z_o (by omega), z_o (by omega), z_o (by omega)]
  have v44 : z (zs (zs (zs (zs (zs (zs (zs σ s Nn x1) (s + 1) Nn x2) (s + 2) Nn x3) (s + 3) Nn x4) (s + 4) Nn (-1)) (s + 5) Nn 0) 94 44 ((Nn : Int) + 1)) 94 44 = ((Nn + 1 : Nat) : Int) := by rw [z_s ⟨by omega, by omega⟩]; rfl
  have v0 : z (zs (zs (zs (zs (zs (zs (zs σ s Nn x1) (s + 1) Nn x2) (s + 2) Nn x3) (s + 3) Nn x4) (s + 4) Nn (-1)) (s + 5) Nn 0) 94 44 ((Nn : Int) + 1)) s = up (z σ s) Nn x1 := by
    rw [z_oF (by omega), z_oF (by omega), z_oF (by omega), z_oF (by omega), z_oF (by omega), z_oF (by omega), z_up i1]
  have v1 : z (zs (zs (zs (zs (zs (zs (zs σ s Nn x1) (s + 1) Nn x2) (s + 2) Nn x3) (s + 3) Nn x4) (s + 4) Nn (-1)) (s + 5) Nn 0) 94 44 ((Nn : Int) + 1)) (s + 1) = up (z σ (s + 1)) Nn x2 := by
    rw [z_oF (by omega), z_oF (by omega), z_oF (by omega), z_oF (by omega), z_oF (by omega), z_up i2, z_oF (by omega)]
  have v2 : z (zs (zs (zs (zs (zs (zs (zs σ s Nn x1) (s + 1) Nn x2) (s + 2) Nn x3) (s + 3) Nn x4) (s + 4) Nn (-1)) (s + 5) Nn 0) 94 44 ((Nn : Int) + 1)) (s + 2) = up (z σ (s + 2)) Nn x3 := by
    rw [z_oF (by omega), z_oF (by omega), z_oF (by omega), z_oF (by omega), z_up i3, z_oF (by omega), z_oF (by omega)]
  have v3 : z (zs (zs (zs (zs (zs (zs (zs σ s Nn x1) (s + 1) Nn x2) (s + 2) Nn x3) (s + 3) Nn x4) (s + 4) Nn (-1)) (s + 5) Nn 0) 94 44 ((Nn : Int) + 1)) (s + 3) = up (z σ (s + 3)) Nn x4 := by
    rw [z_oF (by omega), z_oF (by omega), z_oF (by omega), z_up i4, z_oF (by omega), z_oF (by omega), z_oF (by omega)]
  have v4 : z (zs (zs (zs (zs (zs (zs (zs σ s Nn x1) (s + 1) Nn x2) (s + 2) Nn x3) (s + 3) Nn x4) (s + 4) Nn (-1)) (s + 5) Nn 0) 94 44 ((Nn : Int) + 1)) (s + 4) = up (z σ (s + 4)) Nn (-1) := by
    rw [z_oF (by omega), z_oF (by omega), z_up ⟨by decide, by decide⟩, z_oF (by omega), z_oF (by omega), z_oF (by omega), z_oF (by omega)]
  have v5 : z (zs (zs (zs (zs (zs (zs (zs σ s Nn x1) (s + 1) Nn x2) (s + 2) Nn x3) (s + 3) Nn x4) (s + 4) Nn (-1)) (s + 5) Nn 0) 94 44 ((Nn : Int) + 1)) (s + 5) = up (z σ (s + 5)) Nn 0 := by
    rw [z_oF (by omega), z_up ⟨by decide, by decide⟩, z_oF (by omega), z_oF (by omega), z_oF (by omega), z_oF (by omega), z_oF (by omega)]
  generalize zs (zs (zs (zs (zs (zs (zs σ s Nn x1) (s + 1) Nn x2) (s + 2) Nn x3) (s + 3) Nn x4) (s + 4) Nn (-1)) (s + 5) Nn 0) 94 44 ((Nn : Int) + 1) = τ at M1 o94 v44 v0 v1 v2 v3 v4 v5 ⊢
  refine kk τ ⟨M1, ⟨by rw [o94 8 (by decide)]; exact h8, hL⟩, by rw [o94 9 (by decide)]; exact h9, ⟨v44, hN⟩, by rw [o94 48 (by decide), o94 49 (by decide)]; exact hF, hw, hf⟩ (fun i hi => ?_) (o94 21 (by decide)) (by rw [v0, up_s]) (by rw [v1, up_s]) (by rw [v2, up_s]) (by rw [v3, up_s]) (by rw [v4, up_s]) (by rw [v5, up_s])
  rw [v0, v1, v2, v3, v4, v5, up_n (by omega), up_n (by omega), up_n (by omega), up_n (by omega), up_n (by omega), up_n (by omega)]
  exact ⟨rfl, rfl, rfl, rfl, rfl, rfl⟩
/-- a node's WIDTH is told -/
theorem MS_w {v : Nat} {w : Int} (h : MS s L K P N B σ0 σ t dp Nn fb wb f) : MS s L K P N B σ0 (zs σ (s + 5) v w) t dp Nn fb wb f := by
  obtain ⟨hs, -⟩ := MB_r h.1
  obtain ⟨hb, h8, h9, h44, hF, hw⟩ := h
  refine ⟨MB_s hb (by unfold SM; simp) (by omega) hs, ?_, ?_, ?_, ?_, hw⟩
  · rw [z_o (by omega)]; exact h8
  · rw [z_o (by omega)]; exact h9
  · rw [z_o (by omega)]; exact h44
  · rw [z_o (by omega), z_o (by omega)]; exact hF
/-- a DEPTH -/
theorem MS_d {e : Nat} (h : MS s L K P N B σ0 σ t dp Nn fb wb f) (he : e ≤ 1000) : MS s L K P N B σ0 (zs σ 94 9 (e : Int)) t e Nn fb wb f := by
  obtain ⟨hs, -⟩ := MB_r h.1
  obtain ⟨hb, h8, h9, h44, hF, hw⟩ := h
  refine ⟨MB_s hb (by unfold SM; simp) (fun _ => by simp) hs, ?_, z_s ⟨by omega, by omega⟩, ?_, ?_, hw⟩
  · rw [z_k (by decide)]; exact h8
  · rw [z_k (by decide)]; exact h44
  · rw [z_k (by decide), z_k (by decide)]; exact hF
theorem KN_d {k : Nat} {e : Int} (hs : s = 110 ∨ s = 116) : KN s Nn σ (zs σ 94 k e) := fun i _ => by
  rw [z_o (by omega), z_o (by omega), z_o (by omega), z_o (by omega), z_o (by omega), z_o (by omega)]
  exact ⟨rfl, rfl, rfl, rfl, rfl, rfl⟩
theorem m_found {Kk : q_H → Prop} {y : Nat} (h : MS s L K P N B σ0 σ t dp Nn fb wb f) (hy : y < t) (h1 : fb ≠ 0 → wb ≤ P y) (h2 : ∀ x, f = some x → x ≤ y)
    (kk : ∀ τ, MS s L K P N B σ0 τ t dp Nn fb wb (orF f (some y)) → KN s Nn σ τ → z τ 94 21 = z σ 94 21 → Kk τ) : J ω m_M_found d 0 0 0 0 0 [(0, .ref 94), (1, .int (zI 2)), (2, .int (zI (y : Int)))] [] σ (q_kv Kk) := by
  obtain ⟨hs, r0, r1, r2, r3, r4, r5⟩ := MB_r h.1
  obtain ⟨hb, ⟨h8, hL⟩, h9, ⟨h44, hN0⟩, hF, hw, hf⟩ := id h
  have L4 := hb.1.2.1
  have e97 : z σ 97 y = P y := by rw [(MB_z (o := 97) hb ⟨by decide, by decide⟩).1]; exact (hb.1.2.2.1 y (by omega)).2.1
  have mono := hb.1.2.2.2.2.2.1
  have iP : inR (P y) := by rw [← e97]; exact z_R _ _ _
  refine b_M_found_0 hs r0 r1 r2 r3 r4 r5 hb.2.1 ?_
  rw [Int.toNat_natCast, e97]
  have new : z σ 94 48 = 0 → q_kv Kk (.inl none) (zs (zs σ 94 48 2) 94 49 (P y)) := fun q => by
    have o94 : ∀ k, k ≠ 48 → k ≠ 49 → z (zs (zs σ 94 48 2) 94 49 (P y)) 94 k = z σ 94 k := fun k a b => by rw [z_k b, z_k a]
    have f0 : fb = 0 ∧ f = none := by
      unfold FA at hF
      by_cases c : fb ≠ 0
      · rw [if_pos c] at hF; exact absurd (hF.1.symm.trans q) c
      · rw [if_neg c] at hF
        refine ⟨Classical.not_not.mp c, ?_⟩
        cases f with
        | none => rfl
        | some x => have := hF.1; rw [q] at this; exact absurd this (by decide)
    refine ⟨rfl, kk _ ⟨MB_s (MB_s hb (by unfold SM; simp) (fun _ => by simp) hs) (by unfold SM; simp) (fun _ => by simp) hs, ⟨by rw [o94 8 (by decide) (by decide)]; exact h8, hL⟩, by rw [o94 9 (by decide) (by decide)]; exact h9, ⟨by rw [o94 44 (by decide) (by decide)]; exact h44, hN0⟩, ?_, hw, fun x q2 => ?_⟩ (fun i _ => ?_) (o94 21 (by decide) (by decide))⟩
    · rw [z_k (show (48 : Nat) ≠ 49 by decide), z_s ⟨by decide, by decide⟩, z_s iP, f0.2]
      unfold FA
      rw [if_neg (fun c => c f0.1)]
      exact ⟨rfl, rfl⟩
    · rw [f0.2] at q2; cases q2; exact hy
    · rw [z_o (by omega), z_o (by omega), z_o (by omega), z_o (by omega), z_o (by omega), z_o (by omega), z_o (by omega), z_o (by omega), z_o (by omega), z_o (by omega), z_o (by omega), z_o (by omega)]
      exact ⟨rfl, rfl, rfl, rfl, rfl, rfl⟩
  refine ⟨⟨by omega, by omega⟩, new, fun q => ?_⟩
  have le : z σ 94 49 ≤ P y := by
    unfold FA at hF
    by_cases c : fb ≠ 0
    · rw [if_pos c] at hF; rw [hF.2]; exact h1 c
    · rw [if_neg c] at hF
      cases f with
      | none => exact absurd hF.1 q
      | some x =>
        rw [hF.2]
        have := h2 x rfl
        rcases Nat.lt_or_ge x y with g | g
        · have := mono x y g (by omega); omega
        · rw [show x = y by omega]; exact Int.le_refl _
  refine ⟨fun c => absurd c (by omega), fun _ => ⟨rfl, kk σ ⟨hb, ⟨h8, hL⟩, h9, ⟨h44, hN0⟩, ?_, hw, fun x q2 => ?_⟩ KN_refl rfl⟩⟩
  · unfold FA at hF ⊢
    by_cases c : fb ≠ 0
    · rw [if_pos c] at hF ⊢; exact hF
    · rw [if_neg c] at hF ⊢
      cases f with
      | none => exact absurd hF.1 q
      | some x => exact hF
  · cases f with
    | none => cases q2; exact hy
    | some z0 => cases q2; exact hf x rfl
end MbJ
