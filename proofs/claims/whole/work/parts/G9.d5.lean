/-! THE GATES' BOUND: what may still cost -/
def KT8 (s : Nat) (σ : q_H) (f : Nat → Int) : Prop := ∃ r, RT8 s σ f r
abbrev q_Lr : Type := List ((Nat → Int) × Nat)
def lsum : q_Lr → Nat
  | [] => 0
  | x :: l => x.2 + lsum l
def Cov (s : Nat) (σ : q_H) (L : q_Lr) (w : Nat) (f : Nat → Int) : Prop := KT8 s σ f ∨ ∃ x, x ∈ L ∧ (∀ j, j < 8 → x.1 j = f j) ∧ w - 1 ≤ x.2
def cnt (dn : Nat → Bool) : Nat → Nat
  | 0 => 0
  | n + 1 => cnt dn n + (dn n).toNat
section CvP
variable {s s' V : Nat} {σ τ : q_H} {L L' : q_Lr} {f g : Nat → Int} {w : Nat} {dn : Nat → Bool} {ot : Nat}
theorem lsum_app : ∀ (a b : q_Lr), lsum (a ++ b) = lsum a + lsum b
  | [], b => by show lsum b = 0 + lsum b; omega
  | x :: a, b => by
    show x.2 + lsum (a ++ b) = x.2 + lsum a + lsum b
    rw [lsum_app a b]; omega
theorem lsum_mem : ∀ {L : q_Lr} {x : (Nat → Int) × Nat}, x ∈ L → x.2 ≤ lsum L
  | y :: L, x, h => by
    rcases List.mem_cons.mp h with q | q
    · rw [q]; exact Nat.le_add_right _ _
    · exact Nat.le_trans (lsum_mem q) (Nat.le_add_left _ _)
theorem KT8_GM (h : KT8 s σ f) (e : GM s s' σ τ) : KT8 s' τ f := by
  obtain ⟨r, h⟩ := h
  exact ⟨r, RT8_GM h e⟩
theorem Cov_GM (h : Cov s σ L w f) (e : GM s s' σ τ) : Cov s' τ L w f := by
  rcases h with h | h
  · exact Or.inl (KT8_GM h e)
  · exact Or.inr h
theorem Cov_cg (e : ∀ j, j < 8 → f j = g j) (h : Cov s σ L w f) : Cov s σ L w g := by
  rcases h with ⟨r, h⟩ | ⟨x, h1, h2, h3⟩
  · exact Or.inl ⟨r, RT8_cg e h⟩
  · exact Or.inr ⟨x, h1, fun j hj => (h2 j hj).trans (e j hj), h3⟩
theorem Cov_sub (e : ∀ x, x ∈ L → x ∈ L') (h : Cov s σ L w f) : Cov s σ L' w f := by
  rcases h with h | ⟨x, h1, h2⟩
  · exact Or.inl h
  · exact Or.inr ⟨x, e x h1, h2⟩
theorem Cov_rm {L1 L2 : q_Lr} {x : (Nat → Int) × Nat} (k : KT8 s σ g) (hx : ∀ j, j < 8 → x.1 j = g j) (h : Cov s σ (L1 ++ x :: L2) w f) : Cov s σ (L1 ++ L2) w f := by
  rcases h with h | ⟨y, h1, h2, h3⟩
  · exact Or.inl h
  · rcases List.mem_append.mp h1 with q | q
    · exact Or.inr ⟨y, List.mem_append.mpr (Or.inl q), h2, h3⟩
    · rcases List.mem_cons.mp q with q | q
      · obtain ⟨r, k⟩ := k
        exact Or.inl ⟨r, RT8_cg (fun j hj => by rw [← hx j hj, ← q]; exact h2 j hj) k⟩
      · exact Or.inr ⟨y, List.mem_append.mpr (Or.inr q), h2, h3⟩
theorem cnt_le : ∀ n, cnt dn n ≤ n
  | 0 => Nat.le_refl _
  | n + 1 => by
    have := cnt_le n
    show cnt dn n + (dn n).toNat ≤ n + 1
    cases dn n <;> simp <;> omega
theorem cnt_z : ∀ n, cnt (fun _ => false) n = 0
  | 0 => rfl
  | n + 1 => by show cnt _ n + 0 = 0; rw [cnt_z n]
theorem cnt_out {k : Nat} {x : Bool} : ∀ n, n ≤ k → cnt (upq dn k x) n = cnt dn n
  | 0, _ => rfl
  | n + 1, h => by
    show cnt (upq dn k x) n + (upq dn k x n).toNat = cnt dn n + (dn n).toNat
    rw [cnt_out n (by omega)]
    unfold upq
    rw [if_neg (by omega)]
theorem cnt_set {k : Nat} (hk : dn k = false) : ∀ n, k < n → cnt (upq dn k true) n = cnt dn n + 1
  | n + 1, h => by
    show cnt (upq dn k true) n + (upq dn k true n).toNat = cnt dn n + (dn n).toNat + 1
    by_cases c : k = n
    · rw [cnt_out n (by omega)]
      unfold upq
      rw [if_pos c.symm, ← c, hk]
      rfl
    · rw [cnt_set hk n (by omega)]
      unfold upq
      rw [if_neg (by omega)]
      omega
theorem cnt_clr {k : Nat} : ∀ n, cnt dn n ≤ cnt (upq dn k false) n + 1
  | 0 => Nat.le_add_right _ _
  | n + 1 => by
    show cnt dn n + (dn n).toNat ≤ cnt (upq dn k false) n + (upq dn k false n).toNat + 1
    by_cases c : n ≤ k
    · rw [cnt_out n c]
      have : (dn n).toNat ≤ 1 := by cases dn n <;> decide
      omega
    · have := cnt_clr (k := k) n
      have e : upq dn k false n = dn n := by unfold upq; rw [if_neg (by omega)]
      rw [e]; omega
theorem cnt_2 (n : Nat) : cnt dn (n + 2) ≤ cnt dn n + 2 := by
  show cnt dn n + (dn n).toNat + (dn (n + 1)).toNat ≤ cnt dn n + 2
  cases dn n <;> cases dn (n + 1) <;> simp
/-- the literal that says whether NAME k isn't 0; behind the NAMES: the two numbers -/
def TLn (V s : Nat) (σ : q_H) (k : Nat) (r : Int) : Prop :=
  (k < 12 ∧ RT8 s σ (fun j => z σ 61 (8 * k + j)) r) ∨ (12 ≤ k ∧ k < 12 + V ∧ RT8 s σ (fun j => z σ 62 (8 * (k - 12) + j)) r) ∨ (k = 12 + V ∧ r = 0) ∨ (k = 13 + V ∧ r = 1)
theorem TLn_uq {k : Nat} {r r' : Int} (hi : HI s σ) (h : TLn V s σ k r) (h' : TLn V s σ k r') : r' = r := by
  rcases h with ⟨a, h⟩ | ⟨a1, a2, h⟩ | ⟨a, h⟩ | ⟨a, h⟩ <;> rcases h' with ⟨b, h'⟩ | ⟨b1, b2, h'⟩ | ⟨b, h'⟩ | ⟨b, h'⟩ <;> first | omega | exact RT8_uq hi h h'
theorem TLn_mv {k : Nat} {r : Int} (hV : V ≤ 12) (h : TLn V s σ k r) (g : GM s s' σ τ) (e61 : z τ 61 = z σ 61) (e62 : ∀ j, j < 96 → z τ 62 j = z σ 62 j) : TLn V s' τ k r := by
  rcases h with ⟨a, h⟩ | ⟨a1, a2, h⟩ | h
  · exact Or.inl ⟨a, RT8_cg (fun j _ => by rw [e61]) (RT8_GM h g)⟩
  · exact Or.inr (Or.inl ⟨a1, a2, RT8_cg (fun j hj => (e62 _ (by omega)).symm) (RT8_GM h g)⟩)
  · exact Or.inr (Or.inr h)
/-- the rows of the NAMES and of the ways laid by -/
def CovA (V : Nat) (WI : Nat → Int) (fm : Nat) (σ : q_H) (s : Nat) (L : q_Lr) : Prop :=
  (∀ i, i < 12 → WI i ≤ 8 → Cov s σ L (WI i).toNat (fun j => z σ 61 (8 * i + j))) ∧ (∀ i, i < V → Cov s σ L 8 (fun j => z σ 62 (8 * i + j))) ∧ ∀ f i, f < fm → i < V → Cov s σ L 8 (fun j => z σ 64 (96 * f + 8 * i + j))
/-- what was denied -/
def DnI (V : Nat) (σ : q_H) (s : Nat) (dn : Nat → Bool) (ot : Nat) : Prop :=
  (∀ k, k < 14 + V → dn k = true → ∃ r, TLn V s σ k r ∧ ∃ i : Nat, (i : Int) < z σ 48 15 ∧ z σ 69 i = r) ∧ z σ 48 15 ≤ ((cnt dn (14 + V) + ot : Nat) : Int)
theorem CovA_mv {WI : Nat → Int} {fm fm' : Nat} (hV : V ≤ 12) (h : CovA V WI fm σ s L) (g : GM s s' σ τ) (hf : fm' ≤ fm) (e61 : z τ 61 = z σ 61) (e62 : ∀ j, j < 96 → z τ 62 j = z σ 62 j) (e64 : ∀ j, j < 96 * fm' → z τ 64 j = z σ 64 j) : CovA V WI fm' τ s' L := by
  obtain ⟨h1, h2, h3⟩ := h
  refine ⟨fun i a b => ?_, fun i a => Cov_cg (fun j hj => (e62 _ (by omega)).symm) (Cov_GM (h2 i a) g), fun f i a b => Cov_cg (fun j hj => (e64 _ (by omega)).symm) (Cov_GM (h3 f i (by omega) b) g)⟩
  rw [e61]; exact Cov_GM (h1 i a b) g
theorem DnI_mv (hV : V ≤ 12) (h : DnI V σ s dn ot) (g : GM s s' σ τ) (e61 : z τ 61 = z σ 61) (e62 : ∀ j, j < 96 → z τ 62 j = z σ 62 j) (e15 : z τ 48 15 = z σ 48 15) (e69 : z τ 69 = z σ 69) : DnI V τ s' dn ot := by
  refine ⟨fun k a b => ?_, by rw [e15]; exact h.2⟩
  obtain ⟨r, h1, i, h2, h3⟩ := h.1 k a b
  exact ⟨r, TLn_mv hV h1 g e61 e62, i, by rw [e15]; exact h2, by rw [e69]; exact h3⟩
theorem DnI_0 (e15 : z τ 48 15 = 0) : DnI V τ s' (fun _ => false) 0 := ⟨fun k _ b => (by cases b), by rw [e15]; omega⟩
theorem sub_mul (lam a c : Nat) (h : c ≤ a) : lam * (a - c) + lam * c = lam * a := by rw [← Nat.mul_add, Nat.sub_add_cancel h]
/-- a literal is denied; k: which NAME's it is (14 + V: another) -/
theorem DnI_push {k : Nat} {x1 : Int} (hV : V ≤ 12) (hi : HI s σ) (h : DnI V σ s dn ot) (g : GM s s' σ τ) (e61 : z τ 61 = z σ 61) (e62 : ∀ j, j < 96 → z τ 62 j = z σ 62 j) (c0 : 0 ≤ z σ 48 15 ∧ z σ 48 15 ≤ 32) (c1 : z τ 48 15 = dcn (z σ 48 15) + 1) (c2 : ∀ j, j ≠ (dcn (z σ 48 15)).toNat → z τ 69 j = z σ 69 j) (c3 : z τ 69 (dcn (z σ 48 15)).toNat = x1) (no : ∀ i : Nat, (i : Int) < z σ 48 15 → z σ 69 i ≠ x1) (hk : k < 14 + V → TLn V s σ k x1) :
    ∃ dn' ot', DnI V τ s' dn' ot' ∧ ∀ lam b, lam * (12 + V) ≤ b * (18 - V) → lam * (12 + V - cnt dn' (12 + V)) + b * ot' + (if k < 12 + V then lam else 0) ≤ lam * (12 + V - cnt dn (12 + V)) + b * ot + (if k < 14 + V then 0 else b) := by
  have cl := cnt_le (dn := dn) (12 + V)
  have c14 : cnt dn (14 + V) ≤ cnt dn (12 + V) + 2 := by
    have := cnt_2 (dn := dn) (12 + V)
    rwa [show 12 + V + 2 = 14 + V by omega] at this
  have h2 := h.2
  by_cases cw : z σ 48 15 = 32
  · have d0 : dcn (z σ 48 15) = 0 := by unfold dcn; rw [if_pos cw]
    rw [d0] at c1 c2 c3
    have ot30 : 30 - cnt dn (12 + V) ≤ ot := by omega
    by_cases ck : k < 14 + V
    · refine ⟨upq (fun _ => false) k true, 0, ⟨fun k' a b => ?_, ?_⟩, fun lam b hl => ?_⟩
      · have ek : k' = k := by
          unfold upq at b
          split at b
          · next q => exact q
          · cases b
        subst ek
        exact ⟨x1, TLn_mv hV (hk ck) g e61 e62, 0, by omega, c3⟩
      · rw [cnt_set (dn := fun _ => false) rfl _ ck, cnt_z]; omega
      · rw [if_pos ck]
        have m1 := Nat.mul_le_mul_left b (show 18 - V ≤ ot by omega)
        have m2 := sub_mul lam (12 + V) (cnt dn (12 + V)) cl
        have m3 := Nat.mul_le_mul_left lam cl
        by_cases c12 : k < 12 + V
        · rw [if_pos c12, cnt_set (dn := fun _ => false) rfl _ c12, cnt_z]
          have m4 := sub_mul lam (12 + V) 1 (by omega)
          rw [Nat.mul_one] at m4
          rw [show 0 + 1 = 1 from rfl]
          generalize lam * (12 + V - 1) = A at *
          generalize lam * (12 + V - cnt dn (12 + V)) = B at *
          generalize lam * cnt dn (12 + V) = C at *
          generalize lam * (12 + V) = D at *
          generalize b * (18 - V) = E at *
          generalize b * ot = F at *
          omega
        · rw [if_neg c12, cnt_out _ (by omega), cnt_z]
          rw [Nat.sub_zero]
          generalize lam * (12 + V - cnt dn (12 + V)) = B at *
          generalize lam * cnt dn (12 + V) = C at *
          generalize lam * (12 + V) = D at *
          generalize b * (18 - V) = E at *
          generalize b * ot = F at *
          omega
    · refine ⟨fun _ => false, 1, ⟨fun k' a b => (by cases b), ?_⟩, fun lam b hl => ?_⟩
      · rw [cnt_z]; omega
      · rw [if_neg ck, if_neg (by omega), cnt_z]
        have m1 := Nat.mul_le_mul_left b (show 18 - V ≤ ot by omega)
        rw [Nat.mul_one, Nat.sub_zero]
        generalize lam * (12 + V - cnt dn (12 + V)) = B at *
        generalize lam * (12 + V) = D at *
        generalize b * (18 - V) = E at *
        generalize b * ot = F at *
        omega
  · have d0 : dcn (z σ 48 15) = z σ 48 15 := by unfold dcn; rw [if_neg cw]
    rw [d0] at c1 c2 c3
    have old : ∀ k', k' < 14 + V → dn k' = true → ∃ r, TLn V s' τ k' r ∧ ∃ i : Nat, (i : Int) < z τ 48 15 ∧ z τ 69 i = r := fun k' a b => by
      obtain ⟨r, q1, i, q2, q3⟩ := h.1 k' a b
      exact ⟨r, TLn_mv hV q1 g e61 e62, i, by omega, by rw [c2 i (by omega)]; exact q3⟩
    by_cases ck : k < 14 + V
    · have dk : dn k = false := by
        cases hd : dn k with
        | false => rfl
        | true =>
          obtain ⟨r, q1, i, q2, q3⟩ := h.1 k ck hd
          exact absurd (q3.trans (TLn_uq hi (hk ck) q1)) (no i q2)
      refine ⟨upq dn k true, ot, ⟨fun k' a b => ?_, ?_⟩, fun lam b hl => ?_⟩
      · by_cases ek : k' = k
        · subst ek
          exact ⟨x1, TLn_mv hV (hk ck) g e61 e62, (z σ 48 15).toNat, by omega, c3⟩
        · unfold upq at b
          rw [if_neg ek] at b
          exact old k' a b
      · rw [cnt_set dk _ ck]; omega
      · rw [if_pos ck]
        by_cases c12 : k < 12 + V
        · have cs := cnt_set dk _ c12
          have cl2 := cnt_le (dn := upq dn k true) (12 + V)
          rw [if_pos c12, cs]
          have : 12 + V - cnt dn (12 + V) = (12 + V - (cnt dn (12 + V) + 1)) + 1 := by omega
          rw [this, Nat.mul_succ]
          omega
        · rw [if_neg c12, cnt_out _ (by omega)]
          omega
    · refine ⟨dn, ot + 1, ⟨old, by omega⟩, fun lam b hl => ?_⟩
      rw [if_neg ck, if_neg (by omega), Nat.mul_succ]
      omega
end CvP
