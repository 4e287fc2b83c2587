/-! The reference reads a whole TEXT -/
section RgP
variable {p : Nat} {P K v : Nat → Int} {C : Nat → Int64} {σ σ' : q_H} {D : q_Ds} {t L : Nat}
/-- who is found in the class's tables -/
theorem fnd_D (h : DQ p P C t D σ) (g : DP K C t D) (y : Nat) : (fnd p σ (C y) = -1 ∧ ∀ e, e ∈ D.1 ∨ e ∈ D.2.1 → C e.1 ≠ C y) ∨ (∃ (j : Nat) (e : Nat × Nat), D.1[j]? = some e ∧ C e.1 = C y ∧ fnd p σ (C y) = (j : Int)) ∨ (∃ (j : Nat) (e : Nat × Nat), D.2.1[j]? = some e ∧ C e.1 = C y ∧ fnd p σ (C y) = 12 + (j : Int)) := by
  obtain ⟨-, h0, h4, -, h1, h2, -⟩ := h
  obtain ⟨⟨a1, a2⟩, b, -⟩ := g
  unfold fnd
  rw [h0, h4, Int.toNat_natCast, Int.toNat_natCast]
  rcases fnV_spec (x := C y) (g := q_l σ (p + 2)) (n := D.1.length) 12 0 with ⟨q1, q2⟩ | ⟨j, q1, q2, q3, q4, q5, q6⟩
  · rw [if_neg (fun w => w q1)]
    have n1 : ∀ e, e ∈ D.1 → C e.1 ≠ C y := fun e he w => by
      obtain ⟨j, hj⟩ := List.mem_iff_getElem?.mp he
      obtain ⟨lt, -⟩ := List.getElem?_eq_some_iff.mp hj
      exact q2 j (by omega) lt (by omega) ((h1 j e hj).2.trans w)
    rcases fnV_spec (x := C y) (g := q_l σ (p + 4)) (n := D.2.1.length) 12 0 with ⟨r1, r2⟩ | ⟨j, r1, r2, r3, r4, r5, r6⟩
    · rw [if_neg (fun w => w r1)]
      refine Or.inl ⟨rfl, fun e he w => ?_⟩
      rcases he with he | he
      · exact n1 e he w
      · obtain ⟨j, hj⟩ := List.mem_iff_getElem?.mp he
        obtain ⟨lt, -⟩ := List.getElem?_eq_some_iff.mp hj
        exact r2 j (by omega) lt (by omega) ((h2 j e hj).2.trans w)
    · rw [r1, if_pos (by omega)]
      have gj := List.getElem?_eq_getElem r3
      exact Or.inr (Or.inr ⟨j, _, gj, (h2 j _ gj).2.symm.trans r5, rfl⟩)
  · rw [q1, if_pos (by omega)]
    have gj := List.getElem?_eq_getElem q3
    exact Or.inr (Or.inl ⟨j, _, gj, (h1 j _ gj).2.symm.trans q5, rfl⟩)
/-- NAMES and NUMBERS are the same to both -/
theorem NR_eq (h : DQ p P C t D σ) (g : DP K C t D) (r : DR D σ') (eK : K = z σ 4) (eC : C = q_l σ 6) (ev : ∀ i, i ≤ L → K i = 23 → v i = zL (C i)) (ht : t ≤ L) (hC : ∀ i j, K i = 30 → K j = 30 → i ≤ L → j ≤ L → (C i = C j ↔ q_l σ' 99 i = q_l σ' 99 j)) : ∀ i, i ≤ L → K i = 23 ∨ K i = 30 → NR K v σ' i = nmI p σ i ∧ BR K σ' i = nmB p σ i := fun i hi hk => by
  unfold NR BR nmI nmB
  rw [← eK, ← eC]
  rcases hk with hk | hk
  · rw [if_pos hk, if_pos hk, ev i hi hk]
    exact ⟨rfl, (decide_eq_true (Or.inl hk)).trans (decide_eq_true (Or.inl hk)).symm⟩
  · have n23 : ¬ K i = 23 := by omega
    rw [if_neg n23, if_neg n23]
    have iff : ∀ e, e ∈ D.1 ∨ e ∈ D.2.1 → (C e.1 = C i ↔ q_l σ' 99 e.1 = q_l σ' 99 i) := fun e he => by
      obtain ⟨-, q2, q3⟩ := g.2.2.1 e he
      exact hC _ _ q2 hk (by omega) hi
    have h1 := h.2.2.2.2.1
    have h2 := h.2.2.2.2.2.1
    have i1 := g.2.2.2.1
    have i2 := g.2.2.2.2.1
    have i3 := g.2.2.2.2.2.1
    rcases DR_lk r g (q_l σ' 99 i) with ⟨q1, q2⟩ | ⟨k, q1, q2, q3⟩
    · have f0 : fnd p σ (C i) = -1 := by
        rcases fnd_D h g i with ⟨w, -⟩ | ⟨j, e, w1, w2, -⟩ | ⟨j, e, w1, w2, -⟩
        · exact w
        · have m : e ∈ D.1 ∨ e ∈ D.2.1 := Or.inl (List.mem_of_getElem? w1)
          exact absurd ((iff e m).mp w2) (q2 e m)
        · have m : e ∈ D.1 ∨ e ∈ D.2.1 := Or.inr (List.mem_of_getElem? w1)
          exact absurd ((iff e m).mp w2) (q2 e m)
      rw [if_pos q1, if_pos f0]
      refine ⟨rfl, ?_⟩
      rw [decide_eq_false (fun w => w.elim n23 (fun w => w q1)), decide_eq_false (fun w => w.elim n23 (fun w => w f0))]
    · rw [q2, if_neg (by omega), Int.toNat_natCast]
      rcases r.2.1 k q1 with ⟨s1, j, e, s2, s3, s4, s5⟩ | ⟨s1, j, e, s2, s3, s4, s5⟩
      · have m : e ∈ D.1 ∨ e ∈ D.2.1 := Or.inl (List.mem_of_getElem? s2)
        have ce : C e.1 = C i := (iff e m).mpr (s5.symm.trans q3)
        obtain ⟨lt, -⟩ := List.getElem?_eq_some_iff.mp s2
        have l12 := g.1
        have f0 : fnd p σ (C i) = (j : Int) := by
          rcases fnd_D h g i with ⟨-, w⟩ | ⟨j', e', w1, w2, w3⟩ | ⟨j', e', w1, w2, -⟩
          · exact absurd ce (w e m)
          · rw [w3, i1 j' j e' e w1 s2 (w2.trans ce.symm)]
          · exact absurd (ce.trans w2.symm) (i3 e e' (List.mem_of_getElem? s2) (List.mem_of_getElem? w1))
        rw [f0, if_pos s1, if_neg (show ¬ ((j : Int) = -1) by omega), if_pos (show (j : Int) < 12 by omega), s3, s4, Int.toNat_natCast, (h1 j e s2).1]
        exact ⟨rfl, (decide_eq_true (Or.inr (by omega))).trans (decide_eq_true (Or.inr (by omega))).symm⟩
      · have m : e ∈ D.1 ∨ e ∈ D.2.1 := Or.inr (List.mem_of_getElem? s2)
        have ce : C e.1 = C i := (iff e m).mpr (s5.symm.trans q3)
        obtain ⟨lt, -⟩ := List.getElem?_eq_some_iff.mp s2
        have f0 : fnd p σ (C i) = 12 + (j : Int) := by
          rcases fnd_D h g i with ⟨-, w⟩ | ⟨j', e', w1, w2, -⟩ | ⟨j', e', w1, w2, w3⟩
          · exact absurd ce (w e m)
          · exact absurd (w2.trans ce.symm) (i3 e' e (List.mem_of_getElem? w1) (List.mem_of_getElem? s2))
          · rw [w3, i2 j' j e' e w1 s2 (w2.trans ce.symm)]
        rw [f0, if_neg (show ¬ z σ' 103 k = 1 by omega), if_neg (show ¬ (12 + (j : Int) = -1) by omega), if_neg (show ¬ (12 + (j : Int) < 12) by omega), s3, s4, show (12 + (j : Int) - 12) = (j : Int) by omega, Int.toNat_natCast, (h2 j e s2).1]
        exact ⟨rfl, (decide_eq_true (Or.inr (by omega))).trans (decide_eq_true (Or.inr (by omega))).symm⟩
end RgP
theorem MC_cong {s L : Nat} {K P : Nat → Int} {N N' : Nat → q_It} {B B' : Nat → Bool} {σ : q_H} (h : MC s L K P N B σ) (g : ∀ i, i ≤ L → K i = 23 ∨ K i = 30 → N i = N' i ∧ B i = B' i) : MC s L K P N' B' σ := by
  obtain ⟨a, b, c, d, e, f, i, j, k⟩ := h
  refine ⟨a, b, c, d, e, f, i, fun x hx hk => ?_, fun x hx hk => ?_⟩
  · rw [← (g x hx (Or.inl hk)).1, ← (g x hx (Or.inl hk)).2]; exact j x hx hk
  · rw [← (g x hx (Or.inr hk)).1, ← (g x hx (Or.inr hk)).2]; exact k x hx hk
section RhP
variable {ω : q_W} {d s L : Nat} {K P v : Nat → Int} {C : Nat → Int64} {σ00 : q_H} {X : Nat → Nat → q_PR} {Nc : Nat → q_It} {Bc : Nat → Bool}
theorem l_decl {Q : q_R → q_H → Prop} {r : Except Nat (Nat × q_Ds)} (hd : 4 ≤ d)
    (kx : ∀ y, r = .error y → ∀ τ, WE s σ00 τ → z τ 94 10 = P y → Q (.inr 100) τ)
    (k1 : ∀ t' D', r = .ok (t', D') → ∀ τ, RD s L K P v C σ00 τ t' D' → J ω m_M_wholeProgram (d + 1) 0 0 0 0 76 [(0, .ref 94), (1, .int (zI (-1))), (2, .int (zI (-1)))] [] τ Q) :
    ∀ (n t : Nat) (D : q_Ds) (σ : q_H), pD K v C n t D = some r → RD s L K P v C σ00 σ t D → J ω m_M_wholeProgram (d + 1) 0 0 0 0 45 [(0, .ref 94)] [] σ Q := by
  intro n
  induction n with
  | zero => intro t D σ h; cases h
  | succ n ih =>
    intro t D σ h hR
    rw [pD_s] at h
    have hRT := hR.2.2.2.2.2
    obtain ⟨⟨hs, r0, r1, r2, r3, r4, r5⟩, hE, h8, -, n1, n2, n3⟩ := RT_r hRT
    obtain ⟨a1, a2, a3, a4, a5, a6⟩ := MS_k hRT.1
    have i39 := kmp_iff a3 a4 (c := 39) (by decide)
    have i40 := kmp_iff a3 a4 (c := 40) (by decide)
    rw [show kmp 39 = 256 by decide] at i39
    rw [show kmp 40 = 257 by decide] at i40
    have nx : (K t = 39 ∨ K t = 40) → J ω m_M_declaration d 0 0 0 0 0 [(0, .ref 94)] [] σ (q_ox (q_kv (fun τ => J ω m_M_wholeProgram (d + 1) 0 0 0 0 69 [(0, .ref 94)] [] τ Q)) (fun x τ => Q (.inr x) τ)) := fun hk => by
      rw [if_pos hk] at h
      refine m_declaration hd hR hk (fun y τ hy hw h10 => kx y ?_ τ hw h10) (fun t1 t2 t3 t4 τ hτ => ?_)
      · rcases hy with ⟨a, b⟩ | ⟨a, ⟨b, c⟩ | ⟨b, ⟨c, e⟩ | ⟨c, e, f⟩⟩⟩
        · rw [if_neg a] at h; rw [b]; exact (Option.some.inj h).symm
        · rw [if_pos a, if_neg b] at h; rw [c]; exact (Option.some.inj h).symm
        · rw [if_pos a, if_pos b, if_neg c] at h; rw [e]; exact (Option.some.inj h).symm
        · rw [if_pos a, if_pos b, if_pos c, if_neg e] at h; rw [f]; exact (Option.some.inj h).symm
      · rw [if_pos t1, if_pos t2, if_pos t3, if_pos t4] at h
        obtain ⟨⟨-, r0, r1, r2, r3, r4, r5⟩, hE, -⟩ := RT_r hτ.2.2.2.2.2
        exact b_M_wholeProgram_69 hs r0 r1 r2 r3 r4 r5 hE (ih (t + 5) _ τ h hτ)
    refine b_M_wholeProgram_45 hs r0 r1 r2 r3 r4 r5 hE ?_
    rw [h8, Int.toNat_natCast, a1]
    refine ⟨a6, fun q => nx (Or.inl (i39.mp q)), fun q1 => ⟨fun q2 => ?_, fun q => nx (Or.inr (i40.mp q))⟩⟩
    rw [if_neg (fun q => q.elim (fun q => q1 (i39.mpr q)) (fun q => q2 (i40.mpr q)))] at h
    exact k1 t D (Option.some.inj h).symm σ hR
theorem m_whole {Kk : Int → q_H → Prop} {Kx : Nat → q_H → Prop} {n : Nat} {rD : Except Nat (Nat × q_Ds)} {rS : q_SR} (hd : dS 0 + 1 ≤ d) (hm : MT s L K P v σ00) (hE : q_E σ00) (hC : ∀ i j, K i = 30 → K j = 30 → i ≤ L → j ≤ L → (C i = C j ↔ q_l σ00 99 i = q_l σ00 99 j)) (hX : XO X K Nc Bc L) (hD : pD K v C n 0 ([], [], none) = some rD)
    (hN : ∀ t' D' σ', rD = .ok (t', D') → t' ≤ L → DP K C t' D' → DR D' σ' → q_l σ' 99 = q_l σ00 99 → ∀ i, i ≤ L → K i = 23 ∨ K i = 30 → NR K v σ' i = Nc i ∧ BR K σ' i = Bc i)
    (hS : ∀ t' D', rD = .ok (t', D') → ∃ n, pS X K Nc Bc D'.2.1.length n (some ([], 0, none, 0)) 0 0 0 0 t' = some rS)
    (kx1 : ∀ y, rD = .error y → ∀ τ, WE s σ00 τ → z τ 94 10 = P y → Kx 100 τ)
    (kx2 : ∀ t' D' y, rD = .ok (t', D') → rS = .error y → ∀ τ, WE s σ00 τ → z τ 94 10 = P y → Kx 100 τ)
    (kk : ∀ t' D' t'' sm, rD = .ok (t', D') → rS = .ok (t'', sm) → K t'' = 46 → ∀ (σb τ : q_H) (N' : Nat) (ns : List Nat) (y2 y3 : Int), WE s σ00 τ → RT s L K P Nc Bc σb τ t'' 0 N' (D'.2.2.or sm.2.2.1) sm.2.2.2 → CHN Nc D'.2.1.length s τ 0 N' 0 0 0 sm ns y2 y3 → DR D' τ → DP K C t' D' → Kk y2 τ) : J ω m_M_wholeProgram d 0 0 0 0 0 [(0, .ref 94)] [] σ00 (q_ox (q_ki Kk) Kx) := by
  obtain ⟨d, rfl⟩ : ∃ k, d = k + 1 := ⟨d - 1, by unfold dS at hd; omega⟩
  obtain ⟨⟨hs, r0, r1, r2, r3, r4, r5⟩, L4, m1, -⟩ := id hm
  refine b_M_wholeProgram_0 hs r0 r1 r2 r3 r4 r5 hE ?_
  have f1 : fr [94] σ00 (zs (zs (zs (zs (zs (zs (zs (zs (zs σ00 94 8 0) 94 9 0) 94 17 0) 94 18 0) 94 19 0) 94 20 0) 94 21 0) 94 44 0) 94 48 0) := fr_s (fr_s (fr_s (fr_s (fr_s (fr_s (fr_s (fr_s (fr_s fr_refl (by simp)) (by simp)) (by simp)) (by simp)) (by simp)) (by simp)) (by simp)) (by simp)) (by simp)
  have x1 : ∀ k, z (zs (zs (zs (zs (zs (zs (zs (zs (zs σ00 94 8 0) 94 9 0) 94 17 0) 94 18 0) 94 19 0) 94 20 0) 94 21 0) 94 44 0) 94 48 0) 94 k = if k ∈ [8, 9, 17, 18, 19, 20, 21, 44, 48] then 0 else z σ00 94 k := fun k => by
    have R0 : inR 0 := ⟨by decide, by decide⟩
    rw [z_if R0, z_if R0, z_if R0, z_if R0, z_if R0, z_if R0, z_if R0, z_if R0, z_if R0]
    by_cases c : k ∈ [8, 9, 17, 18, 19, 20, 21, 44, 48]
    · rw [if_pos c]
      simp at c
      rcases c with c | c | c | c | c | c | c | c | c <;> subst c <;> simp
    · rw [if_neg c]
      simp at c
      obtain ⟨c1, c2, c3, c4, c5, c6, c7, c8, c9⟩ := c
      simp [c1, c2, c3, c4, c5, c6, c7, c8, c9]
  generalize zs (zs (zs (zs (zs (zs (zs (zs (zs σ00 94 8 0) 94 9 0) 94 17 0) 94 18 0) 94 19 0) 94 20 0) 94 21 0) 94 44 0) 94 48 0 = σ1 at f1 x1
  have hm1 : MT s L K P v σ1 := MT_cong hm f1.2.2.1 (fr_zF f1 (by decide)) (fr_zF f1 (by decide)) (fr_zF f1 (by decide))
  have w0 : WE s σ00 σ1 := by
    refine ⟨fr_E f1 hE, fr_mono f1 (by unfold SD; simp), fun k hk => ?_⟩
    rw [x1 k, if_neg (fun q => hk ?_)]
    simp at q ⊢
    omega
  have l99 : q_l σ1 99 = q_l σ00 99 := (f1.2.2.2 99 (by decide)).2
  have dr : DR ([], [], none) σ1 := by
    refine ⟨⟨?_, ?_, ?_, ?_⟩, fun k hk => absurd hk (by simp), (fun e he => by rcases he with he | he <;> cases he), (fun j e q => by simp at q), (fun j e q => by simp at q)⟩
    · rw [x1, if_pos (by simp)]; rfl
    · rw [x1, if_pos (by simp)]; rfl
    · rw [x1, if_pos (by simp)]; rfl
    · rw [x1, if_pos (by simp)]; rfl
  have rd : RD s L K P v C σ00 σ1 0 ([], [], none) := by
    refine ⟨w0, hm1, DP_0, dr, by rw [l99]; exact hC, RT_base (MC_R hm1 (DR_TB dr (DP_0 (K := K) (C := C) (t := 0)))) w0.1 ?_ (by omega) ?_ ?_ ?_ (fun y q => by cases q) ?_⟩
    · rw [x1, if_pos (by simp)]; rfl
    · rw [x1, if_pos (by simp)]
    · rw [x1, if_pos (by simp)]
    · show z σ1 94 48 = 0; rw [x1, if_pos (by simp)]
    · rw [x1, if_pos (by simp)]
  refine l_decl (by unfold dS at hd; omega) (fun y hy τ hw h10 => Or.inr ⟨100, rfl, kx1 y hy τ hw h10⟩) (fun t' D' hr τ hτ => ?_) n 0 _ σ1 hD rd
  obtain ⟨n2, hn2⟩ := hS t' D' hr
  obtain ⟨hw, hmτ, hp, hrτ, -, hRT⟩ := hτ
  obtain ⟨⟨hb, ⟨g8, gL⟩, g9, ⟨g44, -⟩, -, -, -⟩, gF, gx, g21, -⟩ := id hRT
  have l99' : q_l τ 99 = q_l σ00 99 := (hw.2.1.2.2.2 99 (by unfold SD; simp; omega)).2
  have mc : MC s L K P Nc Bc τ := MC_cong (MC_R hmτ (DR_TB hrτ hp)) (hN t' D' τ hr gL hp hrτ l99')
  have rt : RT s L K P Nc Bc τ τ t' 0 0 D'.2.2 0 := RT_base mc hw.1 g8 gL g9 g44 gF gx g21
  refine m_top hX (by omega) hn2 rt (fun x hx ρ hρ => kx2 t' D' x hr hx ρ (WE_MB hw hρ.1) hρ.2) (fun t'' sm hsm h46 ρ N' ns y2 y3 h1 h2 => ?_)
  have hbρ := h1.1.1
  have o := fun a (ha : 95 ≤ a ∧ a ≤ 109) => MB_z (o := a) hbρ ha
  have k94 := hbρ.2.2.2
  refine kk t' D' t'' sm hr hsm h46 τ ρ N' ns y2 y3 (WE_MB hw hbρ) h1 h2 ?_ hp
  unfold DR at hrτ ⊢
  rw [(o 102 ⟨by decide, by decide⟩).2, (o 99 ⟨by decide, by decide⟩).2, (o 103 ⟨by decide, by decide⟩).1, (o 104 ⟨by decide, by decide⟩).1, (o 105 ⟨by decide, by decide⟩).1, (o 108 ⟨by decide, by decide⟩).1, (o 109 ⟨by decide, by decide⟩).1, k94 17 (by decide), k94 18 (by decide), k94 19 (by decide), k94 20 (by decide)]
  exact hrτ
end RhP
