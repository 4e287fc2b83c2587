/-! The reference reads the STATEMENTS of a TEXT -/
section YmJ
variable {ω : q_W} {s L : Nat} {K P : Nat → Int} {N : Nat → q_It} {B : Nat → Bool} {σ0 : q_H} {X : Nat → Nat → q_PR} {V : Nat}
theorem l_top {N0 : Nat} {F : Option (Int × Nat)} {Kk : Int → q_H → Prop} {Kx : Nat → q_H → Prop} (hX : XO X K N B L) {r : q_SR} {lp i as d : Nat} (hd : dS 0 ≤ d)
    (kx : ∀ x, r = .error x → ∀ τ, MQx s L K P N B σ0 τ x → Kx 100 τ) (kk : ∀ t' sm, r = .ok (t', sm) → K t' = 46 → ∀ (τ : q_H) (N' : Nat) (ns' : List Nat) (y2 y3 : Int), RT s L K P N B σ0 τ t' 0 N' (F.or sm.2.2.1) sm.2.2.2 → CHN N V s τ N0 N' 0 lp i sm ns' y2 y3 → Kk y2 τ) : ∀ (n : Nat) (a : q_Sm) (t Nn : Nat) (σ : q_H) (x2 x3 : Int) (ns : List Nat), pS X K N B V n (some a) 0 lp i as t = some r → N0 ≤ Nn → RT s L K P N B σ0 σ t 0 Nn (F.or a.2.2.1) a.2.2.2 → CHN N V s σ N0 Nn 0 lp i a ns x2 x3 → J ω m_M_wholeProgram (d + 1) 0 0 0 0 76 [(0, .ref 94), (1, .int (zI x2)), (2, .int (zI x3))] [] σ (q_ox (q_ki Kk) Kx) := by
  intro n
  induction n with
  | zero => intro a t Nn σ x2 x3 ns h; unfold pS at h; cases h
  | succ n ih =>
    intro a t Nn σ x2 x3 ns h hN0 hM hC
    rw [pS_s] at h
    have tm : tmn 0 = 46 := rfl
    rw [tm] at h
    obtain ⟨⟨hs, r0, r1, r2, r3, r4, r5⟩, hE, h8, h9, n1, n2, n3⟩ := RT_r hM
    obtain ⟨a1, a2, a3, a4, a5, a6⟩ := MS_k hM.1
    have i46 := kmp_iff a3 a4 (c := 46) (by decide)
    rw [show kmp 46 = 273 by decide] at i46
    obtain ⟨hx2, hx3⟩ := CHN_x2 hC
    refine b_M_wholeProgram_76 hs r0 r1 r2 r3 r4 r5 hE ?_
    rw [h8, Int.toNat_natCast, a1]
    refine ⟨a6, fun q => ?_, fun q => ?_⟩
    · have c := i46.mp q
      rw [if_pos c] at h
      exact Or.inl ⟨_, ⟨by omega, by omega⟩, rfl, kk t a (Option.some.inj h).symm c σ Nn ns x2 x3 hM hC⟩
    have c : K t ≠ 46 := fun w => q (i46.mpr w)
    clear i46 q
    rw [if_neg c] at h
    rcases bnS_some h with ⟨x, p1, p2⟩ | ⟨t1, s1, p1, p2⟩
    · refine (m_S hX n).1 0 lp _ _ t (.error x) (by decide) p1 d σ Nn _ _ _ hd hM (fun y q μ hμ => ?_) (fun t' e q => by cases q)
      cases q
      exact Or.inr ⟨100, rfl, kx x p2 μ hμ⟩
    refine (m_S hX n).1 0 lp _ _ t (.ok (t1, s1)) (by decide) p1 d σ Nn _ _ _ hd hM (fun y q => by cases q) (fun t' e' q μ N1 v hμ => ?_)
    cases q
    obtain ⟨b1, b2, b3, b4, b5, b6, b7⟩ := hμ
    rw [Option.or_assoc] at b1
    obtain ⟨⟨-, r0, r1, r2, r3, r4, r5⟩, hE, -, -, y1, y2, y3⟩ := RT_r b1
    obtain ⟨g1, g2⟩ := CHN_add hs hC hN0 b2 ⟨b3, b4⟩ (by omega) b6 b7
    refine b_M_wholeProgram_90 hs r0 r1 r2 r3 r4 r5 hE ⟨⟨by omega, by omega⟩, fun c3 => ⟨⟨c3, by omega⟩, ?_⟩, fun c3 => ?_⟩
    · obtain ⟨g3, g4⟩ := g1 c3
      exact ih (sApp a s1) t1 N1 _ x2 (v : Int) (ns ++ [v]) p2 (by omega) (RT_nx b1) g3
    · exact ih (sApp a s1) t1 N1 μ (v : Int) (v : Int) (ns ++ [v]) p2 (by omega) b1 (g2 c3)
/-- from behind the DECLARATIONS -/
theorem m_top {t d n : Nat} {σ : q_H} {F : Option (Int × Nat)} {Kk : Int → q_H → Prop} {Kx : Nat → q_H → Prop} (hX : XO X K N B L) {r : q_SR} (hd : dS 0 ≤ d) (h : pS X K N B V n (some ([], 0, none, 0)) 0 0 0 0 t = some r) (hM : RT s L K P N B σ0 σ t 0 0 F 0)
    (kx : ∀ x, r = .error x → ∀ τ, MQx s L K P N B σ0 τ x → Kx 100 τ) (kk : ∀ t' sm, r = .ok (t', sm) → K t' = 46 → ∀ (τ : q_H) (N' : Nat) (ns : List Nat) (y2 y3 : Int), RT s L K P N B σ0 τ t' 0 N' (F.or sm.2.2.1) sm.2.2.2 → CHN N V s τ 0 N' 0 0 0 sm ns y2 y3 → Kk y2 τ) : J ω m_M_wholeProgram (d + 1) 0 0 0 0 76 [(0, .ref 94), (1, .int (zI (-1))), (2, .int (zI (-1)))] [] σ (q_ox (q_ki Kk) Kx) :=
  l_top hX hd kx kk n ([], 0, none, 0) t 0 σ (-1) (-1) [] h (Nat.le_refl _) (by rw [Option.or_none]; exact hM) ⟨Or.inl ⟨rfl, rfl⟩, fun y hy => (by cases hy), rfl, fun _ => ⟨rfl, rfl⟩⟩
end YmJ
