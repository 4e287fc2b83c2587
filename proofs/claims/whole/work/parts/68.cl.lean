/-! CLAUSES: their rows as functions; cs: where they stand; Ws: who watches what -/
def CLp (M : Nat → Int) (top s : Nat) (cs : List Nat) : Prop :=
  (∀ c ∈ cs, 1 ≤ c ∧ 0 ≤ M c ∧ (c : Int) + 3 + M c ≤ (top : Int) ∧ (∀ i : Nat, (i : Int) < M c → lit s (M (c + 3 + i))) ∧ (∀ i j : Nat, i < j → (j : Int) < M c → M (c + 3 + i) ≠ M (c + 3 + j)) ∧ ((c : Int) + 3 + M c = (top : Int) ∨ ((c : Int) + 3 + M c).toNat ∈ cs)) ∧
  (∀ c ∈ cs, ∀ c' ∈ cs, c < c' → (c : Int) + 3 + M c ≤ (c' : Int)) ∧ cs.Nodup ∧ (top = 1 ∨ 1 ∈ cs)
def lk (M : Nat → Int) (c : Nat) (l : Int) : Int := if M (c + 3) = l then M (c + 1) else M (c + 2)
def chn (M : Nat → Int) (l : Int) : Int → List Nat → Prop
  | x, [] => x = 0
  | x, c :: r => x = (c : Int) ∧ chn M l (lk M c l) r
def WLp (M W : Nat → Int) (s : Nat) (cs : List Nat) (Ws : Nat → List Nat) : Prop :=
  ∀ l : Nat, l < 2 * s → chn M l (W l) (Ws l) ∧ (Ws l).Nodup ∧ ∀ c, c ∈ Ws l ↔ (c ∈ cs ∧ 2 ≤ M c ∧ (M (c + 3) = l ∨ M (c + 4) = l))
theorem chn_cong {M M' : Nat → Int} {l : Int} : ∀ (L : List Nat) (x : Int), (∀ c ∈ L, lk M' c l = lk M c l) → chn M l x L → chn M' l x L
  | [], _, _, h => h
  | c :: r, x, hc, h => by
    refine ⟨h.1, ?_⟩
    rw [hc c (List.mem_cons_self ..)]
    exact chn_cong r _ (fun a ha => hc a (List.mem_cons_of_mem _ ha)) h.2
section ClP
variable {M M' W : Nat → Int} {top s k : Nat} {cs : List Nat} {Ws : Nat → List Nat}
theorem CL_new (h : CLp M top s cs) (ht : 1 ≤ top) (hM : ∀ j, j < top → M' j = M j) (hk : M' top = (k : Int)) (hl : ∀ i, i < k → lit s (M' (top + 3 + i))) (hd : ∀ i j, i < j → j < k → M' (top + 3 + i) ≠ M' (top + 3 + j)) : CLp M' (top + 3 + k) s (top :: cs) := by
  obtain ⟨a, b, c, e⟩ := h
  have inn : ∀ x ∈ cs, ∀ i : Nat, (i : Int) < M x → x + 3 + i < top := fun x hx i hi => by
    have := (a x hx).2.2.1
    omega
  have hlt : ∀ x ∈ cs, x < top := fun x hx => by have := (a x hx).2; omega
  have hMc : ∀ x ∈ cs, M' x = M x := fun x hx => hM x (hlt x hx)
  refine ⟨fun x hx => ?_, fun x hx y hy hxy => ?_, ?_, Or.inr ?_⟩
  · rcases List.mem_cons.mp hx with rfl | hx
    · rw [hk]
      exact ⟨ht, by omega, by omega, fun i hi => hl i (by omega), fun i j h1 h2 => hd i j h1 (by omega), Or.inl (by omega)⟩
    · obtain ⟨a1, a2, a3, a4, a5, a6⟩ := a x hx
      rw [hMc x hx]
      refine ⟨a1, a2, by omega, fun i hi => by rw [hM _ (inn x hx i hi)]; exact a4 i hi, fun i j h1 h2 => by rw [hM _ (inn x hx i (by omega)), hM _ (inn x hx j h2)]; exact a5 i j h1 h2, Or.inr ?_⟩
      rcases a6 with a6 | a6
      · exact List.mem_cons.mpr (Or.inl (by omega))
      · exact List.mem_cons_of_mem _ a6
  · rcases List.mem_cons.mp hx with e1 | hx1
    · rcases List.mem_cons.mp hy with e2 | hy1
      · omega
      · have := hlt y hy1; omega
    · rcases List.mem_cons.mp hy with e2 | hy1
      · rw [hMc x hx1, e2]; exact (a x hx1).2.2.1
      · rw [hMc x hx1]; exact b x hx1 y hy1 hxy
  · exact List.nodup_cons.mpr ⟨fun hc => by have := hlt top hc; omega, c⟩
  · rcases e with e | e
    · rw [e]; exact List.mem_cons_self ..
    · exact List.mem_cons_of_mem _ e
theorem WL_small (h : WLp M W s cs Ws) (hc : CLp M top s cs) (hM : ∀ j, j < top → M' j = M j) (hk : M' top < 2) : WLp M' W s (top :: cs) Ws := by
  intro l hl
  obtain ⟨w1, w2, w3⟩ := h l hl
  have hin : ∀ c ∈ cs, 2 ≤ M c → c + 4 < top := fun c hc2 h2 => by have := (hc.1 c hc2).2.2.1; omega
  have hlt : ∀ c ∈ cs, c < top := fun c hc2 => by have := (hc.1 c hc2).2; omega
  refine ⟨chn_cong _ _ (fun c hcl => ?_) w1, w2, fun c => ?_⟩
  · obtain ⟨q1, q2, -⟩ := (w3 c).mp hcl
    have := hin c q1 q2
    unfold lk
    rw [hM _ (by omega), hM _ (by omega), hM _ (by omega)]
  · rw [w3 c]
    constructor
    · rintro ⟨q1, q2, q3⟩
      have := hin c q1 q2
      exact ⟨List.mem_cons_of_mem _ q1, by rw [hM _ (by omega)]; exact q2, by rw [hM _ (by omega), hM _ (by omega)]; exact q3⟩
    · rintro ⟨q1, q2, q3⟩
      rcases List.mem_cons.mp q1 with rfl | q1
      · omega
      · rw [hM _ (hlt c q1)] at q2
        have := hin c q1 q2
        rw [hM _ (by omega), hM _ (by omega)] at q3
        exact ⟨q1, q2, q3⟩
theorem WL_new (h : WLp M W s cs Ws) (hc : CLp M top s cs) (hM : ∀ j, j < top → M' j = M j) (hk : 2 ≤ M' top) (la : lit s (M' (top + 3))) (lb : lit s (M' (top + 4))) (hab : M' (top + 3) ≠ M' (top + 4)) (h1 : M' (top + 1) = W (M' (top + 3)).toNat) (h2 : M' (top + 2) = W (M' (top + 4)).toNat) :
    WLp M' (up (up W (M' (top + 3)).toNat top) (M' (top + 4)).toNat top) s (top :: cs) (fun l => if (l : Int) = M' (top + 3) ∨ (l : Int) = M' (top + 4) then top :: Ws l else Ws l) := by
  have la0 := la.1
  have lb0 := lb.1
  have hin : ∀ c ∈ cs, 2 ≤ M c → c + 4 < top := fun c hc2 h2 => by have := (hc.1 c hc2).2.2.1; omega
  have hlt : ∀ c ∈ cs, c < top := fun c hc2 => by have := (hc.1 c hc2).2; omega
  intro l hl
  obtain ⟨w1, w2, w3⟩ := h l hl
  have old : chn M' l (W l) (Ws l) := chn_cong _ _ (fun c hcl => by
    obtain ⟨q1, q2, -⟩ := (w3 c).mp hcl
    have := hin c q1 q2
    unfold lk
    rw [hM _ (by omega), hM _ (by omega), hM _ (by omega)]) w1
  have nin : top ∉ Ws l := fun hc2 => by have := hlt top ((w3 top).mp hc2).1; omega
  have mem : ∀ c, c ∈ Ws l ↔ (c ∈ cs ∧ 2 ≤ M' c ∧ (M' (c + 3) = l ∨ M' (c + 4) = l)) := by
    intro c
    rw [w3 c]
    constructor
    · rintro ⟨q1, q2, q3⟩
      have := hin c q1 q2
      exact ⟨q1, by rw [hM _ (by omega)]; exact q2, by rw [hM _ (by omega), hM _ (by omega)]; exact q3⟩
    · rintro ⟨q1, q2, q3⟩
      rw [hM _ (hlt c q1)] at q2
      have := hin c q1 q2
      rw [hM _ (by omega), hM _ (by omega)] at q3
      exact ⟨q1, q2, q3⟩
  by_cases c : (l : Int) = M' (top + 3) ∨ (l : Int) = M' (top + 4)
  · simp only [c, if_true]
    have hw : up (up W (M' (top + 3)).toNat top) (M' (top + 4)).toNat top l = (top : Int) := by
      rcases c with c | c
      · rw [up_n (by omega), show l = (M' (top + 3)).toNat by omega, up_s]
      · rw [show l = (M' (top + 4)).toNat by omega, up_s]
    refine ⟨⟨hw, ?_⟩, List.nodup_cons.mpr ⟨nin, w2⟩, fun x => ?_⟩
    · have hl2 : lk M' top l = W l := by
        unfold lk
        rcases c with c | c
        · rw [if_pos c.symm, h1, show (M' (top + 3)).toNat = l by omega]
        · rw [if_neg (by rw [c]; exact hab), h2, show (M' (top + 4)).toNat = l by omega]
      rw [hl2]; exact old
    · rw [List.mem_cons, mem x, List.mem_cons]
      constructor
      · rintro (rfl | ⟨q1, q2⟩)
        · exact ⟨Or.inl rfl, hk, by omega⟩
        · exact ⟨Or.inr q1, q2⟩
      · rintro ⟨q0 | q1, q2⟩
        · exact Or.inl q0
        · exact Or.inr ⟨q1, q2⟩
  · simp only [c, if_false]
    have hw : up (up W (M' (top + 3)).toNat top) (M' (top + 4)).toNat top l = W l := by rw [up_n (by omega), up_n (by omega)]
    rw [hw]
    refine ⟨old, w2, fun x => ?_⟩
    rw [mem x, List.mem_cons]
    constructor
    · rintro ⟨q1, q2⟩; exact ⟨Or.inr q1, q2⟩
    · rintro ⟨q0 | q1, q2, q3⟩
      · subst q0; omega
      · exact ⟨q1, q2, q3⟩
end ClP
def CX (s top : Nat) (cs : List Nat) (Ws : Nat → List Nat) (σ : q_H) : Prop := z σ 71 3 = (top : Int) ∧ (1 ≤ top ∧ top ≤ 360000) ∧ CLp (z σ 72) top s cs ∧ WLp (z σ 72) (z σ 73) s cs Ws
section ClJ
variable {ω : q_W} {d s top : Nat} {cs : List Nat} {Ws : Nat → List Nat} {σ : q_H}
theorem c_wipe {K : q_H → Prop} {a n m : Nat} (ta : q_t σ a = (2, n)) (oa : 0 < a ∧ a ≤ q_n σ) (hn : n < 2147483648) (hE : q_E σ) (hm : m ≤ n) (kk : ∀ τ, fr [a] σ τ → (∀ j, j < m → z τ a j = 0) → (∀ j, m ≤ j → z τ a j = z σ a j) → K τ) : J ω m_H_wipe d 0 0 0 0 0 [(0, .ref a), (1, .int (zI (m : Int)))] [] σ (q_kv K) := by
  have l : ∀ (k i : Nat) (ρ : q_H), m ≤ i + k → i ≤ m → fr [a] σ ρ → (∀ j, j < i → z ρ a j = 0) → (∀ j, i ≤ j → z ρ a j = z σ a j) → J ω m_H_wipe d 0 0 0 0 2 [(0, .ref a), (1, .int (zI (m : Int))), (2, .int (zI (i : Int)))] [] ρ (q_kv K) := by
    intro k
    induction k with
    | zero =>
      intro i ρ hi him f h1 h2
      refine b_H_wipe_2 (n := n) (by rw [fr_tg f]; exact ta) (by rw [fr_n f]; exact oa) hn (fr_E f hE) ⟨⟨by omega, by omega⟩, ⟨by omega, by omega⟩, fun _ => ⟨rfl, kk ρ f (fun j hj => h1 j (by omega)) (fun j hj => h2 j (by omega))⟩, fun c => absurd c (by omega)⟩
    | succ k ih =>
      intro i ρ hi him f h1 h2
      refine b_H_wipe_2 (n := n) (by rw [fr_tg f]; exact ta) (by rw [fr_n f]; exact oa) hn (fr_E f hE) ⟨⟨by omega, by omega⟩, ⟨by omega, by omega⟩, fun c => ⟨rfl, kk ρ f (fun j hj => h1 j (by omega)) (fun j hj => h2 j (by omega))⟩, fun c => ⟨⟨by omega, by omega⟩, fun c2 => absurd c2 (by omega), fun c2 => ⟨⟨by omega, by omega⟩, ?_⟩⟩⟩
      rw [Int.toNat_natCast]
      refine ih (i + 1) _ (by omega) (by omega) (fr_s f (by simp)) (fun j hj => ?_) (fun j hj => ?_)
      · by_cases e : j = i
        · rw [e]; exact z_s ⟨by decide, by decide⟩
        · rw [z_k e]; exact h1 j (by omega)
      · rw [z_k (by omega)]; exact h2 j (by omega)
  exact b_H_wipe_0 ta oa hn hE (l m 0 σ (by omega) (by omega) fr_refl (fun j hj => absurd hj (Nat.not_lt_zero _)) (fun j _ => rfl))
theorem c_watch {K : q_H → Prop} {c : Nat} (hE : q_E σ) (hs : s ≤ 10240) (hc : 1 ≤ c ∧ c + 5 ≤ 360000) (la : lit s (z σ 72 (c + 3))) (lb : lit s (z σ 72 (c + 4))) (hab : z σ 72 (c + 3) ≠ z σ 72 (c + 4)) (kk : ∀ τ, fr [72, 73] σ τ → z τ 72 = up (up (z σ 72) (c + 1) (z σ 73 (z σ 72 (c + 3)).toNat)) (c + 2) (z σ 73 (z σ 72 (c + 4)).toNat) → z τ 73 = up (up (z σ 73) (z σ 72 (c + 3)).toNat c) (z σ 72 (c + 4)).toNat c → K τ) : J ω m_Cl_watch d 0 0 0 0 0 [(0, .ref 71), (1, .int (zI (c : Int)))] [] σ (q_kv K) := by
  have la0 := la.1
  have la1 := la.2
  have lb0 := lb.1
  have lb1 := lb.2
  refine b_Cl_watch_0 hE ?_
  rw [show ((c : Int) + 3).toNat = c + 3 by omega, show ((c : Int) + 4).toNat = c + 4 by omega, show ((c : Int) + 1).toNat = c + 1 by omega, show ((c : Int) + 2).toNat = c + 2 by omega]
  have e73 : z (zs (zs σ 72 (c + 1) (z σ 73 (z σ 72 (c + 3)).toNat)) 73 (z σ 72 (c + 3)).toNat c) 73 (z σ 72 (c + 4)).toNat = z σ 73 (z σ 72 (c + 4)).toNat := by rw [z_k (by omega), z_o (by decide)]
  rw [e73]
  refine ⟨⟨by omega, by omega⟩, ⟨by omega, by omega⟩, ⟨by omega, by omega⟩, ⟨by omega, by omega⟩, ⟨by omega, by omega⟩, ⟨by omega, by omega⟩, rfl, kk _ (fr_s (fr_s (fr_s (fr_s fr_refl (by simp)) (by simp)) (by simp)) (by simp)) ?_ ?_⟩
  · rw [z_oF (by decide), z_up (z_R _ _ _), z_oF (by decide), z_up (z_R _ _ _)]
  · rw [z_up ⟨by omega, by omega⟩, z_oF (by decide), z_up ⟨by omega, by omega⟩, z_oF (by decide)]
/-- a clause of two or three literals; what it takes: 3 + their number -/
theorem c_put {K : q_H → Prop} {x1 x2 x3 : Int} (hd : 1 ≤ d) (hE : q_E σ) (hs : s ≤ 10240) (hc : CX s top cs Ws σ) (hr : top + 6 ≤ 360000) (l1 : lit s x1) (l2 : lit s x2) (l3 : lit s x3) (d12 : x1 ≠ x2) (d3 : x3 ≠ 0 → x1 ≠ x3 ∧ x2 ≠ x3) (kk : ∀ τ top' cs' Ws', fr [71, 72, 73] σ τ → CX s top' cs' Ws' τ → top ≤ top' → top' ≤ top + 6 → K τ) : J ω m_Cl_put d 0 0 0 0 0 [(0, .ref 71), (1, .int (zI x1)), (2, .int (zI x2)), (3, .int (zI x3))] [] σ (q_kv K) := by
  obtain ⟨d, rfl⟩ : ∃ k, d = k + 1 := ⟨d - 1, by omega⟩
  obtain ⟨ht, ht1, hcl, hwl⟩ := id hc
  have fin : ∀ (ρ : q_H) (k : Nat), (k = 2 ∨ k = 3) → fr [72] σ ρ → (∀ j, j < top → z ρ 72 j = z σ 72 j) → z ρ 72 top = (k : Int) → z ρ 72 (top + 3) = x1 → z ρ 72 (top + 4) = x2 → (k = 3 → z ρ 72 (top + 5) = x3 ∧ x3 ≠ 0) → J ω m_Cl_put (d + 1) 0 0 0 0 93 [(0, .ref 71), (4, .int (zI (k : Int)))] [] ρ (q_kv K) := by
    intro ρ k hk f hlow hkk h3 h4 h5
    have r3 : z ρ 71 3 = (top : Int) := by rw [fr_zF f (by decide)]; exact ht
    have e73 : z ρ 73 = z σ 73 := fr_zF f (by decide)
    refine b_Cl_put_93 (fr_E f hE) ?_
    rw [r3]
    refine c_watch (s := s) (fr_E f hE) hs ⟨ht1.1, by omega⟩ (by rw [h3]; exact l1) (by rw [h4]; exact l2) (by rw [h3, h4]; exact d12) (fun τ g q72 q73 => b_Cl_put_101 (fr_E g (fr_E f hE)) ⟨rfl, ?_⟩)
    have r3' : z τ 71 3 = (top : Int) := by rw [fr_zF g (by decide)]; exact r3
    rw [r3']
    have hM : ∀ j, j < top → z τ 72 j = z σ 72 j := fun j hj => by rw [q72, up_n (by omega), up_n (by omega)]; exact hlow j hj
    have a3 : z τ 72 (top + 3) = x1 := by rw [q72, up_n (by omega), up_n (by omega)]; exact h3
    have a4 : z τ 72 (top + 4) = x2 := by rw [q72, up_n (by omega), up_n (by omega)]; exact h4
    have a5 : k = 3 → z τ 72 (top + 5) = x3 := fun c => by rw [q72, up_n (by omega), up_n (by omega)]; exact (h5 c).1
    have a0 : z τ 72 top = (k : Int) := by rw [q72, up_n (by omega), up_n (by omega)]; exact hkk
    have a1 : z τ 72 (top + 1) = z σ 73 (z τ 72 (top + 3)).toNat := by rw [a3, q72, up_n (by omega), up_s, h3, e73]
    have a2 : z τ 72 (top + 2) = z σ 73 (z τ 72 (top + 4)).toNat := by rw [a4, q72, up_s, h4, e73]
    have u72 : z (zs τ 71 3 ((top : Int) + ((k : Int) + 3))) 72 = z τ 72 := z_oF (by decide)
    have u73 : z (zs τ 71 3 ((top : Int) + ((k : Int) + 3))) 73 = z τ 73 := z_oF (by decide)
    refine kk _ (top + 3 + k) (top :: cs) (fun l => if (l : Int) = z τ 72 (top + 3) ∨ (l : Int) = z τ 72 (top + 4) then top :: Ws l else Ws l) (fr_s (fr_trans (fr_mono f (by simp)) (fr_mono g (by simp))) (by simp)) ⟨?_, by omega, ?_, ?_⟩ (by omega) (by omega)
    · rw [z_s ⟨by omega, by omega⟩]; omega
    · rw [u72]
      refine CL_new hcl ht1.1 hM a0 (fun i hi => ?_) (fun i j h1 h2 => ?_)
      · have : i = 0 ∨ i = 1 ∨ i = 2 := by omega
        rcases this with rfl | rfl | rfl
        · rw [show top + 3 + 0 = top + 3 by omega, a3]; exact l1
        · rw [show top + 3 + 1 = top + 4 by omega, a4]; exact l2
        · rw [show top + 3 + 2 = top + 5 by omega, a5 (by omega)]; exact l3
      · have : (i = 0 ∧ j = 1) ∨ (i = 0 ∧ j = 2) ∨ (i = 1 ∧ j = 2) := by omega
        rcases this with ⟨rfl, rfl⟩ | ⟨rfl, rfl⟩ | ⟨rfl, rfl⟩
        · rw [show top + 3 + 0 = top + 3 by omega, show top + 3 + 1 = top + 4 by omega, a3, a4]; exact d12
        · rw [show top + 3 + 0 = top + 3 by omega, show top + 3 + 2 = top + 5 by omega, a3, a5 (by omega)]; exact (d3 (h5 (by omega)).2).1
        · rw [show top + 3 + 1 = top + 4 by omega, show top + 3 + 2 = top + 5 by omega, a4, a5 (by omega)]; exact (d3 (h5 (by omega)).2).2
    · rw [u72, u73]
      have := WL_new (M := z σ 72) (M' := z τ 72) hwl hcl hM (by rw [a0]; omega) (by rw [a3]; exact l1) (by rw [a4]; exact l2) (by rw [a3, a4]; exact d12) a1 a2
      rw [q73, h3, h4, e73]
      rw [a3, a4] at this ⊢
      exact this
  have i1 := lit_R hs l1
  have i2 := lit_R hs l2
  have i3 := lit_R hs l3
  have g9 : ∀ k : Nat, (k = 2 ∧ x3 = 0) ∨ (k = 3 ∧ x3 ≠ 0) → J ω m_Cl_put (d + 1) 0 0 0 0 9 [(0, .ref 71), (1, .int (zI x1)), (2, .int (zI x2)), (3, .int (zI x3))] [.int (zI (k : Int))] σ (q_kv K) := by
    intro k hk
    refine b_Cl_put_9 hE ?_
    rw [ht, Int.toNat_natCast, show ((top : Int) + 3).toNat = top + 3 by omega, show ((top : Int) + 4).toNat = top + 4 by omega, show ((top : Int) + 5).toNat = top + 5 by omega]
    refine ⟨⟨by omega, by omega⟩, fun _ => ⟨⟨by omega, by omega⟩, ⟨by omega, by omega⟩, ⟨by omega, by omega⟩, ⟨by omega, by omega⟩, fun c => ?_, fun c => ⟨⟨by omega, by omega⟩, ?_⟩⟩, fun c => absurd c (by omega)⟩
    · refine fin _ k (by omega) (fr_s (fr_s (fr_s fr_refl (by simp)) (by simp)) (by simp)) (fun j hj => ?_) ?_ ?_ ?_ (fun c3 => absurd c3 (by omega))
      · rw [z_k (by omega), z_k (by omega), z_k (by omega)]
      · rw [z_k (by omega), z_k (by omega), z_s ⟨by omega, by omega⟩]
      · rw [z_k (by omega), z_s i1]
      · rw [z_s i2]
    · refine fin _ k (by omega) (fr_s (fr_s (fr_s (fr_s fr_refl (by simp)) (by simp)) (by simp)) (by simp)) (fun j hj => ?_) ?_ ?_ ?_ (fun c3 => ⟨?_, by omega⟩)
      · rw [z_k (by omega), z_k (by omega), z_k (by omega), z_k (by omega)]
      · rw [z_k (by omega), z_k (by omega), z_k (by omega), z_s ⟨by omega, by omega⟩]
      · rw [z_k (by omega), z_k (by omega), z_s i1]
      · rw [z_k (by omega), z_s i2]
      · rw [z_s i3]
  exact b_Cl_put_0 hE ⟨i3, fun c => g9 3 (Or.inr ⟨rfl, c⟩), fun c => g9 2 (Or.inl ⟨rfl, c⟩)⟩
end ClJ
