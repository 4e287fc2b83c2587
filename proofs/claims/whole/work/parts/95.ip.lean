/-! INQUIRY, safety: extreme, tally, demandWorth, difference -/
section IpJ
variable {ω : q_W} {d p s0 s : Nat} {σ σ0 : q_H}
theorem IS_47 {τ : q_H} (hp : p = 16 ∨ p = 29) (h : IS p s0 s σ0 σ) (f : fr [47] σ τ) (fk : ∀ k, k ≠ 10 → k ≠ 5 → z τ 47 k = z σ 47 k) : IS p s0 s σ0 τ := by
  obtain ⟨hQ, h84, ⟨rc, dm, e1, e2, e3, e4, e5⟩, f0⟩ := h
  exact ⟨QS_fq hp hQ (fq_of (fr_mono f (by unfold SIn; simp))), fun g => by rw [fr_zF f (by decide)]; exact h84 g, ⟨rc, dm, by rw [fk 7 (by decide) (by decide)]; exact e1, e2, by rw [fk 8 (by decide) (by decide)]; exact e3, e4, fun i hi => by rw [fr_zF f (by decide)]; exact e5 i hi⟩, fq_trans f0 (fq_of (fr_mono f (by unfold SQ; simp)))⟩
theorem LS_47 {τ : q_H} {wc rq : Nat} (hp : p = 16 ∨ p = 29) (h : LSt p s0 s wc rq σ0 σ) (f : fr [47] σ τ) (fk : ∀ k, k ≠ 10 → k ≠ 5 → z τ 47 k = z σ 47 k) : LSt p s0 s wc rq σ0 τ := by
  obtain ⟨hI, ts, lv, top, cs, Ws, F, hS⟩ := h
  exact ⟨IS_47 hp hI f fk, ts, lv, top, cs, Ws, F, SI_fr2 hS f (by decide)⟩
theorem RQ_93 {τ : q_H} {wc rq : Nat} (hp : p = 16 ∨ p = 29) (h : PSt p s0 s wc rq σ0 σ ∨ LSt p s0 s wc rq σ0 σ) (f : fr [93] σ τ) : PSt p s0 s wc rq σ0 τ ∨ LSt p s0 s wc rq σ0 τ := by
  rcases h with ⟨hI, ts, dn, top, cs, Ws, F, hS⟩ | ⟨hI, ts, lv, top, cs, Ws, F, hS⟩
  · exact Or.inl ⟨IS_fr hp hI (fq_of f) (by simp), ts, dn, top, cs, Ws, F, SC_fr hS f (by decide)⟩
  · exact Or.inr ⟨IS_fr hp hI (fq_of f) (by simp), ts, lv, top, cs, Ws, F, SI_fr2 hS f (by decide)⟩
theorem RQ_I {wc rq : Nat} (h : PSt p s0 s wc rq σ0 σ ∨ LSt p s0 s wc rq σ0 σ) : IS p s0 s σ0 σ := by
  rcases h with h | h
  · exact h.1
  · exact h.1
theorem RQ_w {wc rq rq' : Nat} (h : PSt p s0 s wc rq σ0 σ ∨ LSt p s0 s wc rq σ0 σ) (hr : rq ≤ rq') : PSt p s0 s wc rq' σ0 σ ∨ LSt p s0 s wc rq' σ0 σ := by
  rcases h with ⟨hI, ts, dn, top, cs, Ws, F, a1, a2, a3, a4, a5, a6, a7, a8, a9, a10⟩ | ⟨hI, ts, lv, top, cs, Ws, F, a1, a2, a3, a4, a5, a6, a7, a8, a9, a10, a11, a12, a13⟩
  · exact Or.inl ⟨hI, ts, dn, top, cs, Ws, F, a1, a2, a3, a4, a5, a6, a7, a8, by omega, a10⟩
  · exact Or.inr ⟨hI, ts, lv, top, cs, Ws, F, a1, a2, a3, a4, a5, a6, a7, a8, a9, a10, a11, by omega, a13⟩
theorem i_requireLess {K : q_H → Prop} {wc rq v : Nat} {x2 x3 : Int} (hd : 5 ≤ d) (hp : p = 16 ∨ p = 29) (h : PSt p s0 s wc rq σ0 σ ∨ LSt p s0 s wc rq σ0 σ) (hrq : rq ≤ 27912) (hv : v < 12) (hvw : 1 ≤ z σ (p + 3) v ∧ z σ (p + 3) v ≤ 8) (h2 : x2 = 0 ∨ x2 = 1) (kk : ∀ τ, PSt p s0 s wc (rq + 88) σ0 τ ∨ LSt p s0 s wc (rq + 88) σ0 τ → z τ 47 = z σ 47 → z τ (p + 3) = z σ (p + 3) → K τ) : J ω m_In_requireLess d 0 0 0 0 0 [(0, .ref 47), (1, .int (zI (v : Int))), (2, .int (zI x2)), (3, .int (zI x3))] [] σ (q_kv K) := by
  obtain ⟨d, rfl⟩ : ∃ k, d = k + 1 := ⟨d - 1, by omega⟩
  generalize hw : z σ (p + 3) v = w at hvw
  obtain ⟨x4, hx4⟩ : ∃ x4, x3 - 1 = x4 := ⟨_, rfl⟩
  have l : ∀ (m i : Nat) (ρ : q_H), 8 ≤ i + m → i ≤ 8 → (PSt p s0 s wc (rq + 11 * i) σ0 ρ ∨ LSt p s0 s wc (rq + 11 * i) σ0 ρ) → z ρ 47 = z σ 47 → z ρ (p + 3) = z σ (p + 3) → J ω m_In_requireLess (d + 1) 0 0 0 0 8 [(0, .ref 47), (1, .int (zI (v : Int))), (2, .int (zI x2)), (4, .int (zI x4)), (5, .int (zI (i : Int)))] [] ρ (q_kv K) := by
    intro m
    induction m with
    | zero =>
      intro i ρ a1 a2 a3 a4 a5
      have hI := RQ_I a3
      refine b_In_requireLess_8 hp hI.1.1.2.1 hI.1.1.1 ?_
      rw [a5, Int.toNat_natCast, hw]
      exact ⟨⟨by omega, by omega⟩, ⟨by omega, by omega⟩, fun _ => ⟨rfl, kk ρ (RQ_w a3 (by omega)) a4 a5⟩, fun c => absurd c (by omega)⟩
    | succ m ih =>
      intro i ρ a1 a2 a3 a4 a5
      have hI := RQ_I a3
      refine b_In_requireLess_8 hp hI.1.1.2.1 hI.1.1.1 ?_
      rw [a5, Int.toNat_natCast, hw]
      refine ⟨⟨by omega, by omega⟩, ⟨by omega, by omega⟩, fun _ => ⟨rfl, kk ρ (RQ_w a3 (by omega)) a4 a5⟩, fun c => ⟨fun _ => ?_, fun _ => ?_⟩⟩
      · rw [show (i : Int) + 1 = ((i + 1 : Nat) : Int) by omega]
        exact ih (i + 1) ρ (by omega) (by omega) (RQ_w a3 (by omega)) a4 a5
      · have l2 : ∀ (k j n : Nat) (ρ : q_H), 8 ≤ j + k → j ≤ 8 → n ≤ j → (PSt p s0 s wc (rq + 11 * i) σ0 ρ ∨ LSt p s0 s wc (rq + 11 * i) σ0 ρ) → z ρ 47 = z σ 47 → z ρ (p + 3) = z σ (p + 3) → (∀ a, a < n → lit s (z ρ 93 a)) → J ω m_In_requireLess (d + 1) 0 0 0 0 39 [(0, .ref 47), (1, .int (zI (v : Int))), (2, .int (zI x2)), (4, .int (zI x4)), (5, .int (zI (i : Int))), (6, .int (zI (n : Int))), (7, .int (zI (j : Int)))] [] ρ (q_kv K) := by
          intro k
          have out : ∀ (n : Nat) (ρ : q_H), n ≤ 8 → (PSt p s0 s wc (rq + 11 * i) σ0 ρ ∨ LSt p s0 s wc (rq + 11 * i) σ0 ρ) → z ρ 47 = z σ 47 → z ρ (p + 3) = z σ (p + 3) → (∀ a, a < n → lit s (z ρ 93 a)) → J ω m_So_require d 0 0 0 0 0 [(0, .ref 70), (1, .ref 93), (2, .int (zI (n : Int)))] [] ρ (q_kv (fun τ => J ω m_In_requireLess (d + 1) 0 0 0 0 119 [(0, .ref 47), (1, .int (zI (v : Int))), (2, .int (zI x2)), (4, .int (zI x4)), (5, .int (zI (i : Int)))] [] τ (q_kv K))) := fun n ρ b1 b2 b3 b4 b5 => by
            refine i_require (by omega) hp b2 (by omega) (by omega) b5 (fun τ hτ ft => b_In_requireLess_119 hp hτ.1.1.1.2.1 hτ.1.1.1.1 ?_)
            rw [show (i : Int) + 1 = ((i + 1 : Nat) : Int) by omega]
            exact ih (i + 1) τ (by omega) (by omega) (RQ_w (Or.inl hτ) (by omega)) (by rw [fr_zF ft (by decide)]; exact b3) (by rw [fr_zF ft (show p + 3 ∉ _ by simp; omega)]; exact b4)
          induction k with
          | zero =>
            intro j n ρ b0 b1 b2 b3 b4 b5 b6
            have hI := RQ_I b3
            refine b_In_requireLess_39 hp hI.1.1.2.1 hI.1.1.1 ?_
            rw [b5, Int.toNat_natCast, hw]
            exact ⟨⟨by omega, by omega⟩, ⟨by omega, by omega⟩, fun _ => out n ρ (by omega) b3 b4 b5 b6, fun c => absurd c (by omega)⟩
          | succ k ih2 =>
            intro j n ρ b0 b1 b2 b3 b4 b5 b6
            have hI := RQ_I b3
            have hs := hI.1.2.2.1.2.1.2
            have put : (j : Int) < w → J ω m_In_requireLess (d + 1) 0 0 0 0 71 [(0, .ref 47), (1, .int (zI (v : Int))), (2, .int (zI x2)), (4, .int (zI x4)), (5, .int (zI (i : Int))), (6, .int (zI (n : Int))), (7, .int (zI (j : Int)))] [] ρ (q_kv K) := fun cj => by
              have lx := hI.1.2.2.2.2.2.1 ((v : Int) * 8 + (j : Int)).toNat (by omega)
              have ls := lit_m lx hI.1.2.2.2.1.2
              have l3 := lit_b hs (lit_b hs ls h2) (Or.inr rfl : (1 : Int) = 0 ∨ (1 : Int) = 1)
              refine b_In_requireLess_71 hp hI.1.1.2.1 hI.1.1.1 ⟨⟨by omega, by omega⟩, ⟨by omega, by omega⟩, ?_⟩
              rw [Int.toNat_natCast, show (n : Int) + 1 = ((n + 1 : Nat) : Int) by omega, show (j : Int) + 1 = ((j + 1 : Nat) : Int) by omega]
              have F : fr [93] ρ (zs ρ 93 n (zXor (zXor (z ρ 62 ((v : Int) * 8 + (j : Int)).toNat) x2) 1)) := fr_s fr_refl (by simp)
              refine ih2 (j + 1) (n + 1) _ (by omega) (by omega) (by omega) (RQ_93 hp b3 F) (by rw [fr_zF F (by decide)]; exact b4) (by rw [fr_zF F (show p + 3 ∉ _ by simp; omega)]; exact b5) (fun a ha => ?_)
              rw [z_up (lit_R hs l3)]
              by_cases q : a = n
              · rw [q, up_s]; exact l3
              · rw [up_n q]; exact b6 a (by omega)
            refine b_In_requireLess_39 hp hI.1.1.2.1 hI.1.1.1 ?_
            rw [b5, Int.toNat_natCast, hw]
            refine ⟨⟨by omega, by omega⟩, ⟨by omega, by omega⟩, fun _ => out n ρ (by omega) b3 b4 b5 b6, fun cj => ⟨⟨by omega, by omega⟩, fun _ => put cj, fun _ => ⟨fun _ => ?_, fun _ => put cj⟩⟩⟩
            rw [show (j : Int) + 1 = ((j + 1 : Nat) : Int) by omega]
            exact ih2 (j + 1) n ρ (by omega) (by omega) (by omega) b3 b4 b5 b6
        exact l2 8 i 0 ρ (by omega) a2 (by omega) a3 a4 a5 (fun a ha => absurd ha (by omega))
  have hI := RQ_I h
  refine b_In_requireLess_0 hp hI.1.1.2.1 hI.1.1.1 ?_
  rw [hx4]
  exact l 8 0 σ (by decide) (by decide) (RQ_w h (by omega)) rfl rfl
/-- the found flag, with what goes with it -/
def FS (p s0 s wc rq : Nat) (σ0 σ : q_H) : Prop := (z σ 47 5 = 0 ∧ IS p s0 s σ0 σ) ∨ (z σ 47 5 = 1 ∧ LSt p s0 s wc rq σ0 σ)
theorem FS_I {wc rq : Nat} (h : FS p s0 s wc rq σ0 σ) : IS p s0 s σ0 σ := by
  rcases h with h | h
  · exact h.2
  · exact h.2.1
theorem FS_5 {wc rq : Nat} (h : FS p s0 s wc rq σ0 σ) : z σ 47 5 = 0 ∨ z σ 47 5 = 1 := by
  rcases h with h | h
  · exact Or.inl h.1
  · exact Or.inr h.1
theorem FS_47 {τ : q_H} {wc rq : Nat} (hp : p = 16 ∨ p = 29) (h : FS p s0 s wc rq σ0 σ) (f : fr [47] σ τ) (fk : ∀ k, k ≠ 10 → z τ 47 k = z σ 47 k) : FS p s0 s wc rq σ0 τ := by
  rcases h with ⟨h1, h2⟩ | ⟨h1, h2⟩
  · exact Or.inl ⟨by rw [fk 5 (by decide)]; exact h1, IS_47 hp h2 f (fun k a _ => fk k a)⟩
  · exact Or.inr ⟨by rw [fk 5 (by decide)]; exact h1, LS_47 hp h2 f (fun k a _ => fk k a)⟩
theorem i_lookF {K : q_H → Prop} {wc rq : Nat} (hd : 7 ≤ d) (hp : p = 16 ∨ p = 29) (h : PSt p s0 s wc rq σ0 σ ∨ LSt p s0 s wc rq σ0 σ) (hrq : rq ≤ 28000) (kk : ∀ τ, FS p s0 s wc rq σ0 τ → K τ) : J ω m_In_look d 0 0 0 0 0 [(0, .ref 47)] [] σ (q_kv K) :=
  i_look hd hp h hrq (fun τ a b => kk τ (Or.inl ⟨b, a⟩)) (fun τ a b => kk τ (Or.inr ⟨b, a⟩))
/-- the question's end: the flag is set anew -/
theorem IS_end {v : Int} (hp : p = 16 ∨ p = 29) (h : IS p s0 s σ0 σ) : IS p s0 s σ0 (zs σ 47 5 v) := IS_47 hp h (fr_s fr_refl (by simp)) (fun k _ q => z_k q)
theorem i_extreme {K : Int → q_H → Prop} {v : Nat} {x2 : Int} (hd : 9 ≤ d) (hp : p = 16 ∨ p = 29) (h : QS p s0 s σ) (h84 : ∀ g, z σ 84 g = 0) (hv : (v : Int) < z σ p 4) (h2 : x2 = 0 ∨ x2 = 1) (kk : ∀ w τ, IS p s0 s0 σ τ → (z τ 47 5 = 0 ∨ z τ 47 5 = 1) → K w τ) : J ω m_In_extreme d 0 0 0 0 0 [(0, .ref 47), (1, .int (zI (v : Int))), (2, .int (zI x2))] [] σ (q_ki K) := by
  obtain ⟨d, rfl⟩ : ∃ k, d = k + 1 := ⟨d - 1, by omega⟩
  have gp := h.2.1
  have w2 := gp.1.2.1
  have w4 := gp.1.2.2.2 v hv
  generalize hw : z σ (p + 3) v = w at w4
  obtain ⟨wn, rfl⟩ : ∃ k : Nat, w = (k : Int) := ⟨w.toNat, by omega⟩
  have eS : zShl 1 (wn : Int) = 2 ^ wn := zShl_1 wn (by omega)
  have b8 : (2 : Int) ^ wn ≤ 256 := by
    have : 2 ^ wn ≤ 2 ^ 8 := Nat.pow_le_pow_right (by decide) (by omega)
    have e : ((2 ^ wn : Nat) : Int) = (2 : Int) ^ wn := by simp
    omega
  have b1 : (1 : Int) ≤ 2 ^ wn := Int.pow_pos (by decide)
  have ePw : ((2 ^ wn - 1 : Nat) : Int) = 2 ^ wn - 1 := by
    have e : ((2 ^ wn : Nat) : Int) = (2 : Int) ^ wn := by simp
    have : 1 ≤ 2 ^ wn := Nat.two_pow_pos wn
    omega
  have band : ∀ y : Int, 0 ≤ zAnd y (2 ^ wn - 1) ∧ zAnd y (2 ^ wn - 1) < 2 ^ wn := fun y => by
    have := zAnd_lo (x := y) wn (by omega)
    rw [ePw] at this
    have e : ((2 ^ wn : Nat) : Int) = (2 : Int) ^ wn := by simp
    rw [e] at this
    exact this
  have Wp : ∀ {τ : q_H}, IS p s0 s0 σ τ → z τ (p + 3) v = (wn : Int) := fun q => by rw [fq_z q.2.2.2 (show p + 3 ∉ SQ by unfold SQ; simp; omega)]; exact hw
  have fin : ∀ (x4 : Int) ρ, inR x4 → IS p s0 s0 σ ρ → J ω m_In_extreme (d + 1) 0 0 0 0 179 [(0, .ref 47), (4, .int (zI x4))] [] ρ (q_ki K) := fun x4 ρ i4 q =>
    b_In_extreme_179 hp q.1.1.2.1 q.1.1.1 ⟨i4, fun _ => ⟨x4, i4, rfl, kk x4 _ (IS_end hp q) (Or.inl (z_s ⟨by decide, by decide⟩))⟩, fun _ => ⟨x4, i4, rfl, kk x4 _ (IS_end hp q) (Or.inr (z_s ⟨by decide, by decide⟩))⟩⟩
  have l74 : ∀ (m n : Nat) (x4 : Int) (ρ : q_H) (wc rq : Nat), 256 ≤ n + m → n ≤ 256 → inR x4 → FS p s0 s0 wc rq σ ρ → rq ≤ 64 + 88 * n → J ω m_In_extreme (d + 1) 0 0 0 0 74 [(0, .ref 47), (1, .int (zI (v : Int))), (2, .int (zI x2)), (3, .int (zI (2 ^ wn - 1))), (4, .int (zI x4)), (5, .int (zI (n : Int)))] [] ρ (q_ki K) := by
    intro m
    induction m with
    | zero =>
      intro n x4 ρ wc rq a1 a2 a3 a4 a5
      have hI := FS_I a4
      exact b_In_extreme_74 hp hI.1.1.2.1 hI.1.1.1 ⟨⟨by omega, by omega⟩, ⟨by omega, by omega⟩, fun _ => fin x4 ρ a3 hI, fun c => absurd c (by omega)⟩
    | succ m ih =>
      intro n x4 ρ wc rq a1 a2 a3 a4 a5
      have hI := FS_I a4
      refine b_In_extreme_74 hp hI.1.1.2.1 hI.1.1.1 ⟨⟨by omega, by omega⟩, ⟨by omega, by omega⟩, fun _ => fin x4 ρ a3 hI, fun cn => ⟨fun _ => fin x4 ρ a3 hI, fun c5 => ?_⟩⟩
      have hL : LSt p s0 s0 wc rq σ ρ := by
        rcases a4 with ⟨q, -⟩ | ⟨-, q⟩
        · exact absurd q c5
        · exact q
      refine i_worth (s := s0) (by omega) hp (Or.inr rfl) hI.1.1.1 hI.1.1.2.1 hI.1.2.2.1.2.1.2 (by omega) h2 hI.1.2.2.2.2.2.1 (fun y iy => ?_)
      have bd := band y
      -- behind the choice of what is best
      have go : ∀ y0 : Int, inR y0 → J ω m_In_extreme (d + 1) 0 0 0 0 117 [(0, .ref 47), (1, .int (zI (v : Int))), (2, .int (zI x2)), (3, .int (zI (2 ^ wn - 1))), (5, .int (zI (n : Int))), (6, .int (zI (zAnd y (2 ^ wn - 1))))] [.int (zI y0)] ρ (q_ki K) := fun y0 i0 => by
        have ver : ∀ yv : Int, inR yv → J ω m_In_extreme (d + 1) 0 0 0 0 149 [(0, .ref 47), (1, .int (zI (v : Int))), (2, .int (zI x2)), (3, .int (zI (2 ^ wn - 1))), (4, .int (zI y0)), (5, .int (zI (n : Int))), (6, .int (zI (zAnd y (2 ^ wn - 1))))] [.int (zI yv), .ref 47] ρ (q_ki K) := fun yv iv => by
          refine b_In_extreme_149 hp hI.1.1.2.1 hI.1.1.1 (i_verdict hp hI.1.1.1 hI.1.1.2.1 iv (FS_5 a4) (fun τ ft fk => ?_))
          have hL2 := LS_47 hp hL ft (fun k a _ => fk k a)
          have hI2 := hL2.1
          refine b_In_extreme_152 hp hI2.1.1.2.1 hI2.1.1.1 ⟨⟨by omega, by omega⟩, fun _ => ?_, fun _ => fin y0 τ i0 hI2⟩
          refine i_requireLess (by omega) hp (Or.inr hL2) (by omega) (by omega) (by rw [Wp hI2]; omega) h2 (fun μ hμ e47 _ => ?_)
          have hI3 := RQ_I hμ
          refine b_In_extreme_169 hp hI3.1.1.2.1 hI3.1.1.1 (i_lookF (by omega) hp hμ (by omega) (fun ν hν => ?_))
          have hI4 := FS_I hν
          refine b_In_extreme_173 hp hI4.1.1.2.1 hI4.1.1.1 ?_
          rw [show (n : Int) + 1 = ((n + 1 : Nat) : Int) by omega]
          exact ih (n + 1) y0 ν wc (rq + 88) (by omega) (by omega) i0 hν (by omega)
        refine b_In_extreme_117 hp hI.1.1.2.1 hI.1.1.1 ⟨fun _ => ver 0 ⟨by decide, by decide⟩, fun _ => ⟨⟨by omega, by omega⟩, i0, fun _ => ver 0 ⟨by decide, by decide⟩, fun _ => ver 1 ⟨by decide, by decide⟩⟩⟩
      refine b_In_extreme_100 hp hI.1.1.2.1 hI.1.1.1 ⟨⟨by omega, by omega⟩, fun _ => go _ ⟨by omega, by omega⟩, fun _ => go _ ⟨by omega, by omega⟩⟩
  have l17 : ∀ (m n : Nat) (ρ : q_H), 8 ≤ n + m → n ≤ 8 → IS p s0 s0 σ ρ → J ω m_In_extreme (d + 1) 0 0 0 0 17 [(0, .ref 47), (1, .int (zI (v : Int))), (2, .int (zI x2)), (3, .int (zI (n : Int)))] [] ρ (q_ki K) := by
    intro m
    have out : ∀ ρ, IS p s0 s0 σ ρ → J ω m_In_pose d 0 0 0 0 0 [(0, .ref 47)] [] ρ (q_kv (fun τ => J ω m_In_extreme (d + 1) 0 0 0 0 51 [(0, .ref 47), (1, .int (zI (v : Int))), (2, .int (zI x2))] [] τ (q_ki K))) := fun ρ hI => by
      refine i_pose (by omega) hp hI (fun τ wc rq hP hr _ => b_In_extreme_51 hp hP.1.1.1.2.1 hP.1.1.1.1 (i_lookF (by omega) hp (Or.inl hP) (by omega) (fun ν hν => ?_)))
      have hI4 := FS_I hν
      refine b_In_extreme_55 hp hI4.1.1.2.1 hI4.1.1.1 ⟨⟨by omega, by omega⟩, ?_⟩
      rw [Int.toNat_natCast, Wp hI4, eS]
      exact l74 256 0 (-1) ν wc rq (by decide) (by decide) ⟨by decide, by decide⟩ hν (by omega)
    induction m with
    | zero =>
      intro n ρ a1 a2 hI
      exact b_In_extreme_17 hp hI.1.1.2.1 hI.1.1.1 ⟨⟨by omega, by omega⟩, fun _ => out ρ hI, fun c => absurd c (by omega)⟩
    | succ m ih =>
      intro n ρ a1 a2 hI
      refine b_In_extreme_17 hp hI.1.1.2.1 hI.1.1.1 ⟨⟨by omega, by omega⟩, fun _ => out ρ hI, fun c => ⟨⟨by omega, by omega⟩, i_concern hp hI (hI.1.2.2.2.2.2.1 _ (by omega)) (fun τ hτ => b_In_extreme_41 hp hτ.1.1.2.1 hτ.1.1.1 ?_)⟩⟩
      rw [show (n : Int) + 1 = ((n + 1 : Nat) : Int) by omega]
      exact ih (n + 1) τ (by omega) (by omega) hτ
  refine b_In_extreme_0 hp h.1.2.1 h.1.1 (i_open (by omega) hp h h84 (fun τ hτ => b_In_extreme_4 hp hτ.1.1.2.1 hτ.1.1.1 (i_demand (by omega) hp hτ hτ.1.2.2.2.2.2.2.2.1 (fun ρ hρ => b_In_extreme_15 hp hρ.1.1.2.1 hρ.1.1.1 (l17 8 0 ρ (by decide) (by decide) hρ)))))
theorem i_requireOther {K : q_H → Prop} {wc rq : Nat} (hd : 5 ≤ d) (hp : p = 16 ∨ p = 29) (h : LSt p s0 s wc rq σ0 σ) (hrq : rq ≤ 27000) (kk : ∀ τ, PSt p s0 s wc (rq + 15) σ0 τ → K τ) : J ω m_In_requireOther d 0 0 0 0 0 [(0, .ref 47)] [] σ (q_kv K) := by
  obtain ⟨d, rfl⟩ : ∃ k, d = k + 1 := ⟨d - 1, by omega⟩
  have gp := h.1.1.2.1
  generalize hw : z σ (p + 1) = w
  generalize hn : z σ p 0 = n
  obtain ⟨⟨w1, w2, w3, w4⟩, ⟨b1, b2, b3⟩, -⟩ := id gp
  rw [hn] at b1 b3 w1
  rw [hw] at b3
  have wpos : ∀ i : Nat, (i : Int) < n → 1 ≤ w i ∧ w i ≤ 8 := fun i hi => by have := w3 i (by omega); rw [hw] at this; exact this
  have nn : ∀ i, i < n.toNat → 0 ≤ w i := fun i hi => by have := wpos i (by omega); omega
  have smb : ∀ i : Nat, (i : Int) < n → 0 ≤ sm w i ∧ sm w i + w i ≤ 12 := fun i hi => by
    have g1 := sm_le (f := w) (n := n.toNat) nn (n.toNat - (i + 1)) (i + 1) (by omega)
    rw [show i + 1 + (n.toNat - (i + 1)) = n.toNat by omega] at g1
    have g2 : sm w (i + 1) = sm w i + w i := rfl
    have g3 := sm_le (f := w) (n := n.toNat) nn i 0 (by omega)
    rw [Nat.zero_add] at g3
    have g4 : sm w 0 = 0 := rfl
    omega
  have l : ∀ (m i sz : Nat) (ρ : q_H), 12 ≤ i + m → (i : Int) ≤ n → (sz : Int) = sm w i → sz ≤ 12 → fr [93] σ ρ → (∀ a, a < sz → lit s (z ρ 93 a)) → J ω m_In_requireOther (d + 1) 0 0 0 0 4 [(0, .ref 47), (1, .int (zI (sz : Int))), (2, .int (zI (i : Int)))] [] ρ (q_kv K) := by
    intro m
    have out : ∀ (sz : Nat) (ρ : q_H), sz ≤ 12 → fr [93] σ ρ → (∀ a, a < sz → lit s (z ρ 93 a)) → J ω m_So_require d 0 0 0 0 0 [(0, .ref 70), (1, .ref 93), (2, .int (zI (sz : Int)))] [] ρ (q_kv (fun τ => J ω m_In_requireOther (d + 1) 0 0 0 0 100 [] [] τ (q_kv K))) := fun sz ρ a1 g a2 =>
      i_require (by omega) hp (RQ_93 hp (Or.inr h) g) (by omega) a1 a2 (fun τ hτ _ => b_In_requireOther_100 hp hτ.1.1.1.2.1 hτ.1.1.1.1 ⟨rfl, kk τ (by
        rcases RQ_w (rq' := rq + 15) (Or.inl hτ : PSt p s0 s wc (rq + 3 + sz) σ0 τ ∨ LSt p s0 s wc (rq + 3 + sz) σ0 τ) (by omega) with q | q
        · exact q
        · obtain ⟨hI, ts, dn, top, cs, Ws, F, a1, a2, a3, a4, a5, a6, a7, a8, a9, a10⟩ := hτ
          exact ⟨hI, ts, dn, top, cs, Ws, F, a1, a2, a3, a4, a5, a6, a7, a8, by omega, a10⟩)⟩)
    induction m with
    | zero =>
      intro i sz ρ a1 a2 a3 a4 g a5
      have hI := RQ_I (RQ_93 hp (Or.inr h) g)
      refine b_In_requireOther_4 hp hI.1.1.2.1 hI.1.1.1 ?_
      rw [fr_zF g (show p ∉ _ by simp; omega), hn]
      exact ⟨⟨by omega, by omega⟩, fun _ => out sz ρ a4 g a5, fun c => absurd c (by omega)⟩
    | succ m ih =>
      intro i sz ρ a1 a2 a3 a4 g a5
      have hI := RQ_I (RQ_93 hp (Or.inr h) g)
      refine b_In_requireOther_4 hp hI.1.1.2.1 hI.1.1.1 ?_
      rw [fr_zF g (show p ∉ _ by simp; omega), hn]
      refine ⟨⟨by omega, by omega⟩, fun _ => out sz ρ a4 g a5, fun c => ?_⟩
      have wp := wpos i (by omega)
      have sb := smb i (by omega)
      have l2 : ∀ (k b sz : Nat) (ρ : q_H), 8 ≤ b + k → (b : Int) ≤ w i → (sz : Int) = sm w i + (b : Int) → fr [93] σ ρ → (∀ a, a < sz → lit s (z ρ 93 a)) → J ω m_In_requireOther (d + 1) 0 0 0 0 17 [(0, .ref 47), (1, .int (zI (sz : Int))), (2, .int (zI (i : Int))), (3, .int (zI (b : Int)))] [] ρ (q_kv K) := by
        intro k
        have out2 : ∀ (b sz : Nat) (ρ : q_H), (b : Int) ≤ w i → w i ≤ (b : Int) → (sz : Int) = sm w i + (b : Int) → fr [93] σ ρ → (∀ a, a < sz → lit s (z ρ 93 a)) → J ω m_In_requireOther (d + 1) 0 0 0 0 4 [(0, .ref 47), (1, .int (zI (sz : Int))), (2, .int (zI ((i : Int) + 1)))] [] ρ (q_kv K) := fun b sz ρ q1 q2 q3 q4 q5 => by
          rw [show (i : Int) + 1 = ((i + 1 : Nat) : Int) by omega]
          have g2 : sm w (i + 1) = sm w i + w i := rfl
          exact ih (i + 1) sz ρ (by omega) (by omega) (by omega) (by omega) q4 q5
        induction k with
        | zero =>
          intro b sz ρ q0 q1 q2 q3 q4
          have hI := RQ_I (RQ_93 hp (Or.inr h) q3)
          refine b_In_requireOther_17 hp hI.1.1.2.1 hI.1.1.1 ?_
          rw [fr_zF q3 (show p + 1 ∉ _ by simp; omega), hw, Int.toNat_natCast]
          exact ⟨⟨by omega, by omega⟩, ⟨by omega, by omega⟩, fun _ => out2 b sz ρ q1 (by omega) q2 q3 q4, fun c => absurd c (by omega)⟩
        | succ k ih2 =>
          intro b sz ρ q0 q1 q2 q3 q4
          have hI := RQ_I (RQ_93 hp (Or.inr h) q3)
          have hs := hI.1.2.2.1.2.1.2
          refine b_In_requireOther_17 hp hI.1.1.2.1 hI.1.1.1 ?_
          rw [fr_zF q3 (show p + 1 ∉ _ by simp; omega), hw, Int.toNat_natCast]
          refine ⟨⟨by omega, by omega⟩, ⟨by omega, by omega⟩, fun _ => out2 b sz ρ q1 (by omega) q2 q3 q4, fun cb => ⟨⟨by omega, by omega⟩, ?_⟩⟩
          have lx := lit_m (hI.1.2.2.2.2.2.2.2.2.2.1 ((i : Int) * 8 + (b : Int)).toNat (by omega)) hI.1.2.2.2.1.2
          have lx2 := lx.2
          have put : ∀ y : Int, lit s y → J ω m_In_requireOther (d + 1) 0 0 0 0 17 [(0, .ref 47), (1, .int (zI ((sz : Int) + 1))), (2, .int (zI (i : Int))), (3, .int (zI ((b : Int) + 1)))] [] (zs ρ 93 ((sz : Int)).toNat y) (q_kv K) := fun y ly => by
            rw [Int.toNat_natCast, show (sz : Int) + 1 = ((sz + 1 : Nat) : Int) by omega, show (b : Int) + 1 = ((b + 1 : Nat) : Int) by omega]
            refine ih2 (b + 1) (sz + 1) _ (by omega) (by omega) (by omega) (fr_s q3 (by simp)) (fun a ha => ?_)
            rw [z_up (lit_R hs ly)]
            by_cases e : a = sz
            · rw [e, up_s]; exact ly
            · rw [up_n e]; exact q4 a (by omega)
          refine b_So_holds_0 hI.1.1.1 ⟨⟨lx.1, by omega⟩, fun _ => ⟨0, ⟨by decide, by decide⟩, rfl, b_In_requireOther_60 hp hI.1.1.2.1 hI.1.1.1 ⟨⟨by decide, by decide⟩, fun _ => ⟨⟨by omega, by omega⟩, put _ lx⟩, fun q => absurd rfl q⟩⟩, fun _ => ⟨1, ⟨by decide, by decide⟩, rfl, b_In_requireOther_60 hp hI.1.1.2.1 hI.1.1.1 ⟨⟨by decide, by decide⟩, fun q => absurd q (by decide), fun _ => ⟨⟨by omega, by omega⟩, put _ (lit_b hs lx (Or.inr rfl))⟩⟩⟩⟩
      exact l2 8 0 sz ρ (by omega) (by omega) (by omega) g a5
  exact b_In_requireOther_0 hp h.1.1.1.2.1 h.1.1.1.1 (l 12 0 0 σ (by decide) (by omega) rfl (by decide) fr_refl (fun a ha => absurd ha (by omega)))
end IpJ
