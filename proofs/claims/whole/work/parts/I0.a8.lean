/-! CLAUSES: what is written for the gates -/
def pl3 (a b c : Int) : List Int := a :: b :: (if c = 0 then [] else [c])
/-- the clauses, by what they hold -/
def WC (M : Nat → Int) (cs : List Nat) (L : List (List Int)) : Prop := (∀ l ∈ L, ∃ c ∈ cs, ∀ x, inC M c x ↔ x ∈ l) ∧ ∀ c ∈ cs, 2 ≤ M c ∧ ∃ l ∈ L, ∀ x, inC M c x ↔ x ∈ l
def gcl (k o a b c : Int) : List (List Int) :=
  if k = 1 then [pl3 o (zXor a 1) (zXor b 1), pl3 (o + 1) b 0, pl3 (o + 1) a 0] else
  if k = 2 then [pl3 o a (zXor b 1), pl3 o (zXor a 1) b, pl3 (o + 1) (zXor a 1) (zXor b 1), pl3 (o + 1) a b] else
  if k = 3 then [pl3 (o + 1) a c, pl3 o a (zXor c 1), pl3 (o + 1) (zXor a 1) b, pl3 o (zXor a 1) (zXor b 1)] else []
def gls (K A B C Mk : Nat → Int) : Nat → List (List Int)
  | 0 => []
  | i + 1 => if 1 ≤ i ∧ Mk i = 1 then gcl (K i) (2 * (i : Int)) (A i) (B i) (C i) ++ gls K A B C Mk i else gls K A B C Mk i
theorem WC_put {M M' : Nat → Int} {cs : List Nat} {L : List (List Int)} {l : List Int} {top s : Nat} (hcl : CLp M top s cs) (hM : ∀ j, j < top → M' j = M j) (h2 : 2 ≤ M' top) (hin : ∀ x, inC M' top x ↔ x ∈ l) (h : WC M cs L) : WC M' (top :: cs) (l :: L) := by
  obtain ⟨a, b⟩ := h
  have sub := cl_sub (cs' := top :: cs) hcl hM (fun c m => List.mem_cons_of_mem _ m)
  refine ⟨fun l' hl' => ?_, fun c hc => ?_⟩
  · rcases List.mem_cons.mp hl' with q | q
    · exact ⟨top, List.mem_cons_self .., by rw [q]; exact hin⟩
    · obtain ⟨c, hc, e⟩ := a l' q
      exact ⟨c, List.mem_cons_of_mem _ hc, fun x => ((sub c hc).2.2 x).trans (e x)⟩
  · rcases List.mem_cons.mp hc with q | q
    · rw [q]; exact ⟨h2, l, List.mem_cons_self .., hin⟩
    · obtain ⟨c2, l', hl', e⟩ := b c q
      exact ⟨by rw [(sub c q).2.1]; exact c2, l', List.mem_cons_of_mem _ hl', fun x => ((sub c q).2.2 x).trans (e x)⟩
theorem inC_3 {M : Nat → Int} {top k : Nat} {x1 x2 x3 : Int} (hk : (k = 2 ∧ x3 = 0) ∨ (k = 3 ∧ x3 ≠ 0)) (a0 : M top = (k : Int)) (a3 : M (top + 3) = x1) (a4 : M (top + 4) = x2) (a5 : k = 3 → M (top + 5) = x3) (x : Int) : inC M top x ↔ x ∈ pl3 x1 x2 x3 := by
  unfold inC pl3
  rw [a0]
  constructor
  · rintro ⟨i, hi, ei⟩
    have : i = 0 ∨ i = 1 ∨ i = 2 := by omega
    rcases this with rfl | rfl | rfl
    · rw [show top + 3 + 0 = top + 3 by omega, a3] at ei; simp [ei]
    · rw [show top + 3 + 1 = top + 4 by omega, a4] at ei; simp [ei]
    · rw [show top + 3 + 2 = top + 5 by omega, a5 (by omega)] at ei
      rw [if_neg (by omega)]; simp [ei]
  · intro h
    rcases List.mem_cons.mp h with q | h
    · exact ⟨0, by omega, by rw [q]; exact a3⟩
    · rcases List.mem_cons.mp h with q | h
      · exact ⟨1, by omega, by rw [q]; exact a4⟩
      · rcases hk with ⟨k2, k3⟩ | ⟨k2, k3⟩
        · rw [if_pos k3] at h; exact absurd h (by simp)
        · rw [if_neg k3] at h
          exact ⟨2, by omega, by rw [List.mem_singleton.mp h]; exact a5 k2⟩
section C8J
variable {ω : q_W} {d s top : Nat} {cs : List Nat} {Ws : Nat → List Nat} {σ : q_H}
theorem c_put2 {K : q_H → Prop} {x1 x2 x3 : Int} (hd : 1 ≤ d) (hE : q_E σ) (hs : s ≤ 10240) (hc : CX s top cs Ws σ) (hr : top + 6 ≤ 360000) (l1 : lit s x1) (l2 : lit s x2) (l3 : lit s x3) (d12 : x1 ≠ x2) (d3 : x3 ≠ 0 → x1 ≠ x3 ∧ x2 ≠ x3) (kk : ∀ τ top' cs' Ws', fr [71, 72, 73] σ τ → CX s top' cs' Ws' τ → top ≤ top' → top' ≤ top + 6 → (∀ L, WC (z σ 72) cs L → WC (z τ 72) cs' (pl3 x1 x2 x3 :: L)) → z τ 71 4 = z σ 71 4 → K τ) : J ω m_Cl_put d 0 0 0 0 0 [(0, .ref 71), (1, .int (zI x1)), (2, .int (zI x2)), (3, .int (zI x3))] [] σ (q_kv K) := by
  obtain ⟨d, rfl⟩ : ∃ k, d = k + 1 := ⟨d - 1, by omega⟩
  obtain ⟨ht, ht1, hcl, hwl⟩ := id hc
  have fin : ∀ (ρ : q_H) (k : Nat), ((k = 2 ∧ x3 = 0) ∨ (k = 3 ∧ x3 ≠ 0)) → fr [72] σ ρ → (∀ j, j < top → z ρ 72 j = z σ 72 j) → z ρ 72 top = (k : Int) → z ρ 72 (top + 3) = x1 → z ρ 72 (top + 4) = x2 → (k = 3 → z ρ 72 (top + 5) = x3 ∧ x3 ≠ 0) → J ω m_Cl_put (d + 1) 0 0 0 0 93 [(0, .ref 71), (4, .int (zI (k : Int)))] [] ρ (q_kv K) := by
    intro ρ k hk f hlow hkk h3 h4 h5
    have r3 : z ρ 71 3 = (top : Int) := by rw [fr_zF f (by decide)]; exact ht
    have e73 : z ρ 73 = z σ 73 := fr_zF f (by decide)
    refine b_Cl_put_93 (fr_E f hE) ?_
    rw [r3]
    refine c_watch (s := s) (fr_E f hE) hs ⟨ht1.1, by omega⟩ (by rw [h3]; exact l1) (by rw [h4]; exact l2) (by rw [h3, h4]; exact d12) (fun τ g q72 q73 => b_Cl_put_101 (fr_E g (fr_E f hE)) ⟨rfl, ?_⟩)
    have r3' : z τ 71 3 = (top : Int) := by rw [fr_zF g (by decide)]; exact r3
    rw [r3']
    have hM : ∀ j, j < top → z τ 72 j = z σ 72 j := fun j hj => by rw [q72, up_n (by omega), up_n (by omega)]; exact hlow j hj
    have a3 : z τ 72 (top + 3) = x1 := by rw [q72, up_n (by omega), up_n (by omega)]; exact h3
    have a4 : z τ 72 (top + 4) = x2 := by rw [q72, up_n (by omega), up_n (by omega)]; exact h4
    have a5 : k = 3 → z τ 72 (top + 5) = x3 := fun c => by rw [q72, up_n (by omega), up_n (by omega)]; exact (h5 c).1
    have a0 : z τ 72 top = (k : Int) := by rw [q72, up_n (by omega), up_n (by omega)]; exact hkk
    have a1 : z τ 72 (top + 1) = z σ 73 (z τ 72 (top + 3)).toNat := by rw [a3, q72, up_n (by omega), up_s, h3, e73]
    have a2 : z τ 72 (top + 2) = z σ 73 (z τ 72 (top + 4)).toNat := by rw [a4, q72, up_s, h4, e73]
    have u72 : z (zs τ 71 3 ((top : Int) + ((k : Int) + 3))) 72 = z τ 72 := z_oF (by decide)
    have u73 : z (zs τ 71 3 ((top : Int) + ((k : Int) + 3))) 73 = z τ 73 := z_oF (by decide)
    refine kk _ (top + 3 + k) (top :: cs) (fun l => if (l : Int) = z τ 72 (top + 3) ∨ (l : Int) = z τ 72 (top + 4) then top :: Ws l else Ws l) (fr_s (fr_trans (fr_mono f (by simp)) (fr_mono g (by simp))) (by simp)) ⟨?_, by omega, ?_, ?_⟩ (by omega) (by omega) (fun L hL => by rw [u72]; exact WC_put hcl hM (by rw [a0]; omega) (inC_3 hk a0 a3 a4 a5) hL) (by rw [z_k (by decide), fr_zF g (by decide), fr_zF f (by decide)])
    · rw [z_s ⟨by omega, by omega⟩]; omega
    · rw [u72]
      refine CL_new hcl ht1.1 hM a0 (fun i hi => ?_) (fun i j h1 h2 => ?_)
      · have : i = 0 ∨ i = 1 ∨ i = 2 := by omega
        rcases this with rfl | rfl | rfl
        · rw [show top + 3 + 0 = top + 3 by omega, a3]; exact l1
        · rw [show top + 3 + 1 = top + 4 by omega, a4]; exact l2
        · rw [show top + 3 + 2 = top + 5 by omega, a5 (by omega)]; exact l3
      · have : (i = 0 ∧ j = 1) ∨ (i = 0 ∧ j = 2) ∨ (i = 1 ∧ j = 2) := by omega
        rcases this with ⟨rfl, rfl⟩ | ⟨rfl, rfl⟩ | ⟨rfl, rfl⟩
        · rw [show top + 3 + 0 = top + 3 by omega, show top + 3 + 1 = top + 4 by omega, a3, a4]; exact d12
        · rw [show top + 3 + 0 = top + 3 by omega, show top + 3 + 2 = top + 5 by omega, a3, a5 (by omega)]; exact (d3 (h5 (by omega)).2).1
        · rw [show top + 3 + 1 = top + 4 by omega, show top + 3 + 2 = top + 5 by omega, a4, a5 (by omega)]; exact (d3 (h5 (by omega)).2).2
    · rw [u72, u73]
      have := WL_new (M := z σ 72) (M' := z τ 72) hwl hcl hM (by rw [a0]; omega) (by rw [a3]; exact l1) (by rw [a4]; exact l2) (by rw [a3, a4]; exact d12) a1 a2
      rw [q73, h3, h4, e73]
      rw [a3, a4] at this ⊢
      exact this
  have i1 := lit_R hs l1
  have i2 := lit_R hs l2
  have i3 := lit_R hs l3
  have g9 : ∀ k : Nat, (k = 2 ∧ x3 = 0) ∨ (k = 3 ∧ x3 ≠ 0) → J ω m_Cl_put (d + 1) 0 0 0 0 9 [(0, .ref 71), (1, .int (zI x1)), (2, .int (zI x2)), (3, .int (zI x3))] [.int (zI (k : Int))] σ (q_kv K) := by
    intro k hk
    refine b_Cl_put_9 hE ?_
    rw [ht, Int.toNat_natCast, show ((top : Int) + 3).toNat = top + 3 by omega, show ((top : Int) + 4).toNat = top + 4 by omega, show ((top : Int) + 5).toNat = top + 5 by omega]
    refine ⟨⟨by omega, by omega⟩, fun _ => ⟨⟨by omega, by omega⟩, ⟨by omega, by omega⟩, ⟨by omega, by omega⟩, ⟨by omega, by omega⟩, fun c => ?_, fun c => ⟨⟨by omega, by omega⟩, ?_⟩⟩, fun c => absurd c (by omega)⟩
    · refine fin _ k hk (fr_s (fr_s (fr_s fr_refl (by simp)) (by simp)) (by simp)) (fun j hj => ?_) ?_ ?_ ?_ (fun c3 => absurd c3 (by omega))
      · rw [z_k (by omega), z_k (by omega), z_k (by omega)]
      · rw [z_k (by omega), z_k (by omega), z_s ⟨by omega, by omega⟩]
      · rw [z_k (by omega), z_s i1]
      · rw [z_s i2]
    · refine fin _ k hk (fr_s (fr_s (fr_s (fr_s fr_refl (by simp)) (by simp)) (by simp)) (by simp)) (fun j hj => ?_) ?_ ?_ ?_ (fun c3 => ⟨?_, by omega⟩)
      · rw [z_k (by omega), z_k (by omega), z_k (by omega), z_k (by omega)]
      · rw [z_k (by omega), z_k (by omega), z_k (by omega), z_s ⟨by omega, by omega⟩]
      · rw [z_k (by omega), z_k (by omega), z_s i1]
      · rw [z_k (by omega), z_s i2]
      · rw [z_s i3]
  exact b_Cl_put_0 hE ⟨i3, fun c => g9 3 (Or.inr ⟨rfl, c⟩), fun c => g9 2 (Or.inl ⟨rfl, c⟩)⟩
theorem c_writeGate2 {K : q_H → Prop} {x1 x3 x4 x5 : Int} {g : Nat} (hd : 2 ≤ d) (hE : q_E σ) (hs : s ≤ 10240) (hg : 1 ≤ g ∧ g < s) (hc : CX s top cs Ws σ) (hr : top + 24 ≤ 360000) (k1 : 0 ≤ x1 ∧ x1 ≤ 3)
    (hx : x1 ≠ 0 → (2 ≤ x3 ∧ x3 < 2 * (g : Int)) ∧ (2 ≤ x4 ∧ x4 < 2 * (g : Int)) ∧ x3 / 2 ≠ x4 / 2 ∧ (x1 = 3 → 2 ≤ x5 ∧ x5 < 2 * (g : Int) ∧ x5 / 2 ≠ x3 / 2 ∧ x5 / 2 ≠ x4 / 2))
    (kk : ∀ τ top' cs' Ws', fr [71, 72, 73] σ τ → CX s top' cs' Ws' τ → top ≤ top' → top' ≤ top + 24 → (∀ L, WC (z σ 72) cs L → WC (z τ 72) cs' (gcl x1 (2 * (g : Int)) x3 x4 x5 ++ L)) → z τ 71 4 = z σ 71 4 → K τ) : J ω m_Cl_writeGate d 0 0 0 0 0 [(0, .ref 71), (1, .int (zI x1)), (2, .int (zI (2 * (g : Int)))), (3, .int (zI x3)), (4, .int (zI x4)), (5, .int (zI x5))] [] σ (q_kv K) := by
  obtain ⟨d, rfl⟩ : ∃ k, d = k + 1 := ⟨d - 1, by omega⟩
  have eo : zXor (2 * (g : Int)) 1 = 2 * (g : Int) + 1 := by rw [zXor_1 (by omega) (by omega)]; omega
  have lo : lit s (2 * (g : Int)) := ⟨by omega, by omega⟩
  have lo1 : lit s (2 * (g : Int) + 1) := ⟨by omega, by omega⟩
  have l0 : lit s 0 := ⟨by decide, by omega⟩
  by_cases c0 : x1 = 0
  · subst c0
    exact b_Cl_writeGate_0 hE ⟨⟨by decide, by decide⟩, fun c => absurd c (by decide), fun c => absurd c (by decide), fun c => absurd c (by decide), fun _ => ⟨rfl, kk σ top cs Ws fr_refl hc (Nat.le_refl _) (by omega) (fun L hL => by unfold gcl; rw [if_neg (by decide), if_neg (by decide), if_neg (by decide)]; exact hL) rfl⟩⟩
  obtain ⟨h3, h4, h34, h5⟩ := hx c0
  have e3 : zXor x3 1 = x3 + 1 - 2 * (x3 % 2) := zXor_1 (by omega) (by omega)
  have e4 : zXor x4 1 = x4 + 1 - 2 * (x4 % 2) := zXor_1 (by omega) (by omega)
  have l3 : lit s x3 := ⟨by omega, by omega⟩
  have l4 : lit s x4 := ⟨by omega, by omega⟩
  have l3' : lit s (zXor x3 1) := ⟨by omega, by omega⟩
  have l4' : lit s (zXor x4 1) := ⟨by omega, by omega⟩
  have E : ∀ {τ : q_H}, fr [71, 72, 73] σ τ → q_E τ := fun f => fr_E f hE
  refine b_Cl_writeGate_0 hE ⟨⟨by omega, by omega⟩, fun c => ?_, fun c => ?_, fun c => ?_, fun c => absurd c (by omega)⟩
  · rw [eo]
    refine c_put2 (by omega) hE hs hc (by omega) lo1 l3 l0 (by omega) (fun c => absurd rfl c) (fun τ1 t1 c1 w1 f1 x1 a1 b1 q1 m1 => b_Cl_writeGate_37 (E f1) ?_)
    rw [eo]
    refine c_put2 (by omega) (E f1) hs x1 (by omega) lo1 l4 l0 (by omega) (fun c => absurd rfl c) (fun τ2 t2 c2 w2 f2 x2 a2 b2 q2 m2 => b_Cl_writeGate_47 (fr_E f2 (E f1)) ?_)
    exact c_put2 (by omega) (fr_E f2 (E f1)) hs x2 (by omega) lo l3' l4' (by omega) (fun _ => ⟨by omega, by omega⟩) (fun τ3 t3 c3 w3 f3 x3 a3 b3 q3 m3 => b_Cl_writeGate_59 (fr_E f3 (fr_E f2 (E f1))) ⟨rfl, kk τ3 t3 c3 w3 (fr_trans f1 (fr_trans f2 f3)) x3 (by omega) (by omega) (fun L hL => by unfold gcl; rw [if_pos c]; exact q3 _ (q2 _ (q1 _ hL))) (m3.trans (m2.trans m1))⟩)
  · rw [eo]
    refine c_put2 (by omega) hE hs hc (by omega) lo1 l3 l4 (by omega) (fun _ => ⟨by omega, by omega⟩) (fun τ1 t1 c1 w1 f1 x1 a1 b1 q1 m1 => b_Cl_writeGate_72 (E f1) ?_)
    rw [eo]
    refine c_put2 (by omega) (E f1) hs x1 (by omega) lo1 l3' l4' (by omega) (fun _ => ⟨by omega, by omega⟩) (fun τ2 t2 c2 w2 f2 x2 a2 b2 q2 m2 => b_Cl_writeGate_86 (fr_E f2 (E f1)) ?_)
    refine c_put2 (by omega) (fr_E f2 (E f1)) hs x2 (by omega) lo l3' l4 (by omega) (fun _ => ⟨by omega, by omega⟩) (fun τ3 t3 c3 w3 f3 x3' a3 b3 q3 m3 => b_Cl_writeGate_96 (fr_E f3 (fr_E f2 (E f1))) ?_)
    exact c_put2 (by omega) (fr_E f3 (fr_E f2 (E f1))) hs x3' (by omega) lo l3 l4' (by omega) (fun _ => ⟨by omega, by omega⟩) (fun τ4 t4 c4 w4 f4 x4' a4 b4 q4 m4 => b_Cl_writeGate_106 (fr_E f4 (fr_E f3 (fr_E f2 (E f1)))) ⟨rfl, kk τ4 t4 c4 w4 (fr_trans f1 (fr_trans f2 (fr_trans f3 f4))) x4' (by omega) (by omega) (fun L hL => by unfold gcl; rw [if_neg (by omega), if_pos c]; exact q4 _ (q3 _ (q2 _ (q1 _ hL)))) (m4.trans (m3.trans (m2.trans m1)))⟩)
  · have h5 := h5 c
    have e5 : zXor x5 1 = x5 + 1 - 2 * (x5 % 2) := zXor_1 (by omega) (by omega)
    have l5 : lit s x5 := ⟨by omega, by omega⟩
    have l5' : lit s (zXor x5 1) := ⟨by omega, by omega⟩
    refine c_put2 (by omega) hE hs hc (by omega) lo l3' l4' (by omega) (fun _ => ⟨by omega, by omega⟩) (fun τ1 t1 c1 w1 f1 x1 a1 b1 q1 m1 => b_Cl_writeGate_121 (E f1) ?_)
    rw [eo]
    refine c_put2 (by omega) (E f1) hs x1 (by omega) lo1 l3' l4 (by omega) (fun _ => ⟨by omega, by omega⟩) (fun τ2 t2 c2 w2 f2 x2 a2 b2 q2 m2 => b_Cl_writeGate_133 (fr_E f2 (E f1)) ?_)
    refine c_put2 (by omega) (fr_E f2 (E f1)) hs x2 (by omega) lo l3 l5' (by omega) (fun _ => ⟨by omega, by omega⟩) (fun τ3 t3 c3 w3 f3 x3' a3 b3 q3 m3 => b_Cl_writeGate_143 (fr_E f3 (fr_E f2 (E f1))) ?_)
    rw [eo]
    exact c_put2 (by omega) (fr_E f3 (fr_E f2 (E f1))) hs x3' (by omega) lo1 l3 l5 (by omega) (fun _ => ⟨by omega, by omega⟩) (fun τ4 t4 c4 w4 f4 x4' a4 b4 q4 m4 => b_Cl_writeGate_153 (fr_E f4 (fr_E f3 (fr_E f2 (E f1)))) ⟨rfl, kk τ4 t4 c4 w4 (fr_trans f1 (fr_trans f2 (fr_trans f3 f4))) x4' (by omega) (by omega) (fun L hL => by unfold gcl; rw [if_neg (by omega), if_neg (by omega), if_pos c]; exact q4 _ (q3 _ (q2 _ (q1 _ hL)))) (m4.trans (m3.trans (m2.trans m1)))⟩)
theorem up_1 {f : Nat → Int} {a g : Nat} (h : f g = 1) : up f a 1 g = 1 := by
  by_cases q : g = a
  · rw [q, up_s]
  · rw [up_n q]; exact h
/-- the marks: the roots, and what marked gates are made of -/
def MKr (m : Nat) (σ τ : q_H) : Prop := ∀ i, i < m → z τ 74 (gt (z σ 92 i)) = 1
def MKc (x s : Nat) (σ τ : q_H) : Prop := ∀ g : Nat, x < g → g < s → z τ 74 g = 1 → z σ 51 g ≠ 0 → z τ 74 (gt (z σ 52 g)) = 1 ∧ z τ 74 (gt (z σ 53 g)) = 1 ∧ z τ 74 (gt (z σ 54 g)) = 1
theorem c_write2 {K : q_H → Prop} {m : Nat} (hd : 4 ≤ d) (hE : q_E σ) (hci : CI s σ) (hc : CX s 1 cs Ws σ) (hW0 : WC (z σ 72) cs []) (hm : m ≤ 16) (hr : ∀ i, i < m → lit s (z σ 92 i)) (kk : ∀ τ top' cs' Ws', fr [71, 72, 73, 74] σ τ → CX s top' cs' Ws' τ → top' ≤ 245761 → MKr m σ τ → MKc 0 s σ τ → WC (z τ 72) cs' (gls (z σ 51) (z σ 52) (z σ 53) (z σ 54) (z τ 74) s) → z τ 71 4 = z σ 71 4 → K τ) : J ω m_Cl_write d 0 0 0 0 0 [(0, .ref 71), (1, .ref 50), (2, .ref 92), (3, .int (zI (m : Int)))] [] σ (q_kv K) := by
  obtain ⟨d, rfl⟩ : ∃ k, d = k + 1 := ⟨d - 1, by omega⟩
  have hs1 := hci.2.1
  -- what the marks leave alone
  have CXf : ∀ {ρ τ : q_H} {t : Nat} {c : List Nat} {w : Nat → List Nat}, fr [74] ρ τ → CX s t c w ρ → CX s t c w τ := fun {ρ τ t c w} f h => by
    unfold CX
    rw [fr_zF f (by decide), fr_zF f (by decide), fr_zF f (by decide)]
    exact h
  have CIf : ∀ {ρ : q_H}, fr [71, 72, 73, 74] σ ρ → CI s ρ := fun {ρ} f => by
    unfold CI
    rw [fr_zF f (by decide), fr_zF f (by decide), fr_zF f (by decide), fr_zF f (by decide), fr_zF f (by decide), fr_zF f (by decide), fr_zF f (by decide), fr_zF f (by decide)]
    exact hci
  have g126 : ∀ (ρ0 : q_H), fr [74] σ ρ0 → MKr m σ ρ0 → MKc 0 s σ ρ0 → ∀ (k i : Nat) (ρ : q_H) (t : Nat) (c : List Nat) (w : Nat → List Nat), s ≤ i + k → 1 ≤ i → i ≤ s → fr [71, 72, 73] ρ0 ρ → CX s t c w ρ → t ≤ 1 + 24 * (i - 1) → WC (z ρ 72) c (gls (z σ 51) (z σ 52) (z σ 53) (z σ 54) (z ρ0 74) i) → z ρ 71 4 = z σ 71 4 → J ω m_Cl_write (d + 1) 0 0 0 0 126 [(0, .ref 71), (1, .ref 50), (4, .int (zI (i : Int)))] [] ρ (q_kv K) := by
    intro ρ0 f0 hm1 hm2 k
    have out : ∀ (i : Nat) (ρ : q_H) (t : Nat) (c : List Nat) (w : Nat → List Nat), i = s → fr [71, 72, 73] ρ0 ρ → CX s t c w ρ → t ≤ 1 + 24 * (i - 1) → WC (z ρ 72) c (gls (z σ 51) (z σ 52) (z σ 53) (z σ 54) (z ρ0 74) i) → z ρ 71 4 = z σ 71 4 → K ρ := fun i ρ t c w e f hx ht hW h4 => by
      subst e
      have e74 : z ρ 74 = z ρ0 74 := fr_zF f (by decide)
      exact kk ρ t c w (fr_trans (fr_mono f0 (by simp)) (fr_mono f (by simp))) hx (by omega) (by unfold MKr; rw [e74]; exact hm1) (by unfold MKc; rw [e74]; exact hm2) (by rw [e74]; exact hW) h4
    induction k with
    | zero =>
      intro i ρ t c w hi h1 his f hx ht hW h4
      have f' : fr [71, 72, 73, 74] σ ρ := fr_trans (fr_mono f0 (by simp)) (fr_mono f (by simp))
      refine b_Cl_write_126 (fr_E f' hE) ?_
      rw [(CIf f').1]
      exact ⟨⟨by omega, by omega⟩, fun _ => ⟨rfl, out i ρ t c w (by omega) f hx ht hW h4⟩, fun c => absurd c (by omega)⟩
    | succ k ih =>
      intro i ρ t c w hi h1 his f hx ht hW h4
      have f' : fr [71, 72, 73, 74] σ ρ := fr_trans (fr_mono f0 (by simp)) (fr_mono f (by simp))
      have e74 : z ρ 74 = z ρ0 74 := fr_zF f (by decide)
      refine b_Cl_write_126 (fr_E f' hE) ?_
      rw [(CIf f').1, Int.toNat_natCast]
      refine ⟨⟨by omega, by omega⟩, fun _ => ⟨rfl, out i ρ t c w (by omega) f hx ht hW h4⟩, fun ci => ⟨⟨by omega, by omega⟩, fun cm => ih (i + 1) ρ t c w (by omega) (by omega) (by omega) f hx (by omega) ?_ h4, fun cm => ?_⟩⟩
      · show WC (z ρ 72) c (if 1 ≤ i ∧ z ρ0 74 i = 1 then _ else _)
        rw [e74] at cm
        rw [if_neg (fun q => cm q.2)]; exact hW
      obtain ⟨g1, g2⟩ := (CIf f').2.2.2 i h1 (by omega)
      refine c_writeGate2 (by omega) (fr_E f' hE) hs1.2 ⟨h1, by omega⟩ hx (by omega) g1 (fun h0 => ?_) (fun τ t2 c2 w2 f2 x2 a2 b2 q2 m2 => b_Cl_write_182 (fr_E f2 (fr_E f' hE)) (ih (i + 1) τ t2 c2 w2 (by omega) (by omega) (by omega) (fr_trans f f2) x2 (by omega) ?_ (m2.trans h4)))
      · obtain ⟨q1, q2, q3, q4, -⟩ := g2 h0
        exact ⟨q1, q2, q3, q4⟩
      · show WC (z τ 72) c2 (if 1 ≤ i ∧ z ρ0 74 i = 1 then _ else _)
        rw [e74] at cm
        rw [if_pos ⟨h1, cm⟩]
        have := q2 _ hW
        rw [fr_zF f' (show (51 : Nat) ∉ [71, 72, 73, 74] by decide), fr_zF f' (show (52 : Nat) ∉ [71, 72, 73, 74] by decide), fr_zF f' (show (53 : Nat) ∉ [71, 72, 73, 74] by decide), fr_zF f' (show (54 : Nat) ∉ [71, 72, 73, 74] by decide)] at this
        exact this
  have sh : ∀ x : Int, lit s x → 0 ≤ zShr x 1 ∧ zShr x 1 < 10240 := fun x hx => by
    have h0 := hx.1
    have h1 := hx.2
    rw [zShr_1 ⟨by omega, by omega⟩]
    omega
  have shg : ∀ x : Int, lit s x → (zShr x 1).toNat = gt x := fun x hx => by
    have h0 := hx.1
    have h1 := hx.2
    rw [zShr_1 ⟨by omega, by omega⟩]
    rfl
  have g46 : ∀ (k : Nat) (x4 : Int) (ρ : q_H), x4 ≤ (k : Int) → x4 < (s : Int) → 0 ≤ x4 → fr [74] σ ρ → MKr m σ ρ → MKc x4.toNat s σ ρ → J ω m_Cl_write (d + 1) 0 0 0 0 46 [(0, .ref 71), (1, .ref 50), (4, .int (zI x4))] [] ρ (q_kv K) := by
    intro k
    have out : ∀ ρ, fr [74] σ ρ → MKr m σ ρ → MKc 0 s σ ρ → J ω m_Cl_write (d + 1) 0 0 0 0 126 [(0, .ref 71), (1, .ref 50), (4, .int (zI 1))] [] ρ (q_kv K) := fun ρ f m1 m2 => g126 ρ f m1 m2 s 1 ρ 1 cs Ws (by omega) (Nat.le_refl _) hs1.1 fr_refl (CXf f hc) (by omega) (by rw [fr_zF f (by decide)]; exact hW0) (by rw [fr_zF f (by decide)])
    induction k with
    | zero =>
      intro x4 ρ hk h1 h0 f m1 m2
      exact b_Cl_write_46 (fr_E f hE) ⟨⟨by omega, by omega⟩, fun _ => out ρ f m1 (by rw [show x4.toNat = 0 by omega] at m2; exact m2), fun c => absurd c (by omega)⟩
    | succ k ih =>
      intro x4 ρ hk h1 h0 f m1 m2
      have e51 : z ρ 51 = z σ 51 := fr_zF f (by decide)
      have e52 : z ρ 52 = z σ 52 := fr_zF f (by decide)
      have e53 : z ρ 53 = z σ 53 := fr_zF f (by decide)
      have e54 : z ρ 54 = z σ 54 := fr_zF f (by decide)
      refine b_Cl_write_46 (fr_E f hE) ⟨⟨by omega, by omega⟩, fun _ => out ρ f m1 (by rw [show x4.toNat = 0 by omega] at m2; exact m2), fun c => ⟨⟨by omega, by omega⟩, fun cm => ih (x4 - 1) ρ (by omega) (by omega) (by omega) f m1 (fun g q1 q2 q3 q4 => ?_), fun cm => ⟨fun c0 => ih (x4 - 1) ρ (by omega) (by omega) (by omega) f m1 (fun g q1 q2 q3 q4 => ?_), fun c0 => ?_⟩⟩⟩
      · by_cases e : g = x4.toNat
        · rw [e] at q3; exact absurd q3 cm
        · exact m2 g (by omega) q2 q3 q4
      · by_cases e : g = x4.toNat
        · rw [e51] at c0
          rw [e] at q4; exact absurd c0 q4
        · exact m2 g (by omega) q2 q3 q4
      have hci2 := CIf (fr_mono f (by simp : ∀ x ∈ [74], x ∈ [71, 72, 73, 74]))
      obtain ⟨g1, g2⟩ := hci2.2.2.2 x4.toNat (by omega) (by omega)
      obtain ⟨q1, q2, q3, q4, q5, -⟩ := g2 c0
      have l3 : lit s (z ρ 54 x4.toNat) := by
        by_cases c3 : z ρ 51 x4.toNat = 3
        · have := q4 c3; exact ⟨by omega, by omega⟩
        · rw [q5 c3]; exact ⟨by decide, by omega⟩
      have la : lit s (z ρ 52 x4.toNat) := ⟨by omega, by omega⟩
      have lb : lit s (z ρ 53 x4.toNat) := ⟨by omega, by omega⟩
      rw [shg _ la, shg _ lb, shg _ l3]
      have G : z (zs (zs (zs ρ 74 (gt (z ρ 52 x4.toNat)) 1) 74 (gt (z ρ 53 x4.toNat)) 1) 74 (gt (z ρ 54 x4.toNat)) 1) 74 = up (up (up (z ρ 74) (gt (z ρ 52 x4.toNat)) 1) (gt (z ρ 53 x4.toNat)) 1) (gt (z ρ 54 x4.toNat)) 1 := by
        rw [z_up ⟨by decide, by decide⟩, z_up ⟨by decide, by decide⟩, z_up ⟨by decide, by decide⟩]
      have b1 : gt (z ρ 52 x4.toNat) < x4.toNat := by unfold gt; omega
      have b2 : gt (z ρ 53 x4.toNat) < x4.toNat := by unfold gt; omega
      have b3 : gt (z ρ 54 x4.toNat) < x4.toNat := by
        by_cases c3 : z ρ 51 x4.toNat = 3
        · have := q4 c3; unfold gt; omega
        · rw [q5 c3]; show (0 / 2 : Int).toNat < _; omega
      refine ⟨sh _ la, sh _ lb, sh _ l3, ih (x4 - 1) _ (by omega) (by omega) (by omega) (fr_s (fr_s (fr_s f (by simp)) (by simp)) (by simp)) (fun i hi => by rw [G]; exact up_1 (up_1 (up_1 (m1 i hi)))) (fun g r1 r2 r3 r4 => ?_)⟩
      rw [G] at r3 ⊢
      rw [up_n (by omega), up_n (by omega), up_n (by omega)] at r3
      by_cases e : g = x4.toNat
      · rw [e, ← e52, ← e53, ← e54]
        exact ⟨up_1 (up_1 (up_s ..)), up_1 (up_s ..), up_s ..⟩
      · obtain ⟨p1, p2, p3⟩ := m2 g (by omega) r2 r3 r4
        exact ⟨up_1 (up_1 (up_1 p1)), up_1 (up_1 (up_1 p2)), up_1 (up_1 (up_1 p3))⟩
  have g14 : ∀ (k i : Nat) (ρ : q_H), m ≤ i + k → i ≤ m → fr [74] σ ρ → MKr i σ ρ → J ω m_Cl_write (d + 1) 0 0 0 0 14 [(0, .ref 71), (1, .ref 50), (2, .ref 92), (3, .int (zI (m : Int))), (4, .int (zI (i : Int)))] [] ρ (q_kv K) := by
    intro k
    have out : ∀ ρ, fr [74] σ ρ → MKr m σ ρ → J ω m_Cl_write (d + 1) 0 0 0 0 46 [(0, .ref 71), (1, .ref 50), (4, .int (zI (z ρ 50 7 - 1)))] [] ρ (q_kv K) := fun ρ f m1 => by
      rw [fr_zF f (by decide), hci.1]
      exact g46 s ((s : Int) - 1) ρ (by omega) (by omega) (by omega) f m1 (fun g q1 q2 => absurd q2 (by omega))
    induction k with
    | zero =>
      intro i ρ hi him f m1
      exact b_Cl_write_14 (fr_E f hE) ⟨⟨by omega, by omega⟩, ⟨by omega, by omega⟩, fun _ => out ρ f (by rw [show i = m by omega] at m1; exact m1), fun c => absurd c (by omega)⟩
    | succ k ih =>
      intro i ρ hi him f m1
      refine b_Cl_write_14 (fr_E f hE) ⟨⟨by omega, by omega⟩, ⟨by omega, by omega⟩, fun c => out ρ f (by rw [show i = m by omega] at m1; exact m1), fun c => ?_⟩
      have lr : lit s (z ρ 92 i) := by rw [fr_zF f (by decide)]; exact hr i (by omega)
      rw [Int.toNat_natCast, shg _ lr]
      refine ⟨⟨by omega, by omega⟩, sh _ lr, ih (i + 1) _ (by omega) (by omega) (fr_s f (by simp)) (fun j hj => ?_)⟩
      rw [z_up ⟨by decide, by decide⟩]
      by_cases e : j = i
      · rw [e, fr_zF f (show (92 : Nat) ∉ [74] by decide), up_s]
      · exact up_1 (m1 j (by omega))
  refine b_Cl_write_0 hE ?_
  rw [hci.1]
  exact c_wipe (n := 10240) (tg_74 hE) (q_okE hE (by decide)) (by decide) hE hs1.2 (fun τ f _ _ => b_Cl_write_11 (fr_E f hE) (g14 m 0 τ (by omega) (by omega) f (fun j hj => absurd hj (by omega))))
end C8J
