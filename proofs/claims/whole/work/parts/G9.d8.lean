/-! THE ENCODER, a step each: if, else, join, loops -/
section SuP
variable {ω : q_W} {d p V fm s n i : Nat} {σ0 σ : q_H} {WI WU : Nat → Int} {S : List q_St} {L : q_Lr} {dn : Nat → Bool} {ot : Nat} {K : q_H → Prop}
/-- a way was laid by: what stands in frame fm -/
def FKd (fm : Nat) (σ τ : q_H) (s' : Nat) (r : Int) : Prop :=
  (∀ o, 61 ≤ o → o ≠ 64 → o ≠ 65 → o ≠ 66 → o ≠ 67 → o ≠ 68 → z τ o = z σ o) ∧ (∀ j, j < 96 * fm → z τ 64 j = z σ 64 j) ∧ (∀ j, j < 96 → z τ 64 (96 * fm + j) = z σ 62 j) ∧ (∀ j, j < fm → z τ 65 j = z σ 65 j ∧ z τ 66 j = z σ 66 j ∧ z τ 67 j = z σ 67 j) ∧ z τ 66 fm = z σ 48 4 ∧ z τ 67 fm = r ∧ RA s' τ (z σ 48 4) (zXor r 1) (z τ 65 fm) ∧ RA s' τ (z σ 48 4) r (z τ 48 4)
theorem EI_fork {τ : q_H} {s' : Nat} {r : Int} (hc : CT0 p V WI WU S σ0) (h : EI p V WI WU fm σ0 σ s L dn ot) (n3 : NX p (fm + 1) False σ0 τ s') (m3 : ME s s' σ τ) (o3 : ∀ o, 61 ≤ o → o ≠ 64 → o ≠ 65 → o ≠ 66 → o ≠ 67 → o ≠ 68 → z τ o = z σ o) (e15 : z τ 48 15 = 0) (e64 : ∀ j, j < 96 * fm → z τ 64 j = z σ 64 j) (e64' : ∀ j, j < 96 → z τ 64 (96 * fm + j) = z σ 62 j) : EI p V WI WU (fm + 1) σ0 τ s' L (fun _ => false) 0 := by
  obtain ⟨g1, g2, g3, g4, g5, g6, g7, g8⟩ := h
  have V12 := hc.2.2.1
  have o62 := o3 62 (by decide) (by decide) (by decide) (by decide) (by decide) (by decide)
  refine ⟨n3, m3.1, m3.2.1.trans g3, fun v cv q j hj => absurd hj (by omega), fun i' hi => ⟨by rw [o62]; exact (g5 i' hi).1, fun f hf => ?_⟩, fun j a b => ⟨by rw [o62]; exact (g6 j a b).1, fun f hf => ?_⟩, ⟨fun i' a b => ?_, fun i' a => ?_, fun f i' a b => ?_⟩, DnI_0 e15⟩
  · by_cases c : f = fm
    · subst c
      refine wdt_cg (g5 i' hi).1 (fun j hj => ?_)
      have := e64' (8 * i' + j) (by omega)
      rw [← Nat.add_assoc] at this
      exact this
    · refine wdt_cg ((g5 i' hi).2 f (by omega)) (fun j hj => e64 _ (by omega))
  · by_cases c : f = fm
    · subst c
      rw [e64' j b]; exact (g6 j a b).1
    · rw [e64 _ (by omega)]; exact (g6 j a b).2 f (by omega)
  · rw [o3 61 (by decide) (by decide) (by decide) (by decide) (by decide) (by decide)]; exact Cov_GM (g7.1 i' a b) m3.2.2
  · rw [o62]; exact Cov_GM (g7.2.1 i' a) m3.2.2
  · by_cases c : f = fm
    · subst c
      refine Cov_cg (fun j hj => ?_) (Cov_GM (g7.2.1 i' b) m3.2.2)
      have := e64' (8 * i' + j) (by omega)
      rw [← Nat.add_assoc] at this
      exact this.symm
    · exact Cov_cg (fun j hj => (e64 _ (by omega)).symm) (Cov_GM (g7.2.2 f i' (by omega) b) m3.2.2)
theorem L_if {e : q_Ex} {a b : Int} (hd : 7 ≤ d) (hc : CT0 p V WI WU S σ0) (h : EI p V WI WU fm σ0 σ s L dn ot) (hx : S[i]? = some (4, a, b, e.1)) (pe : PE (cI WI WU V) e) (hg : hB e.1 0 = some 1) (hf : fm ≤ 31) (hn : n < 1000000) (hB : s + lsum L + 4 * e.2.2.1 + 8 < 10240)
    (kk : ∀ τ s' L' r, EI p V WI WU (fm + 1) σ0 τ s' L' (fun _ => false) 0 → ME s s' σ τ → FKd fm σ τ s' r → z τ 68 = z σ 68 → s' + lsum L' ≤ s + lsum L + 4 * e.2.2.1 + 2 → (∀ v, CSv s' τ v → lvb v r = decide (wth (IvN σ v) (UvN σ v) e.1 ≠ 0) ∧ lvb v (z τ 48 4) = (lvb v (z σ 48 4) && lvb v r) ∧ lvb v (z τ 65 fm) = (lvb v (z σ 48 4) && !lvb v r)) → J ω m_En_encode (d + 1) 0 0 0 0 54 [(0, .ref 48), (2, .int (zI ((i + 1 : Nat) : Int))), (3, .int (zI ((n + 1 : Nat) : Int)))] [] τ (q_kv K)) : J ω m_En_encode (d + 1) 0 0 0 0 54 [(0, .ref 48), (2, .int (zI (i : Int))), (3, .int (zI (n : Int)))] [] σ (q_kv K) := by
  have hp := hc.1
  refine y_ev hd hc h hx rfl pe hg hn (by omega) (fun τ t w1 w3 w4 w5 w6 w7 ⟨c5, c6, c9⟩ i16 => ?_)
  obtain ⟨d, rfl⟩ : ∃ k, d = k + 1 := ⟨d - 1, by omega⟩
  have no : ∀ a : Int, a ≠ 4 → ¬ z τ (p + 5) i = a := fun a ha q => ha (by rw [← q, c5])
  refine b_En_perform_0 hp (by rw [fr_r w1.1.2.2.2.1]; exact h.1.1.2) w1.1.1 ⟨⟨by omega, by omega⟩, ?_⟩
  rw [Int.toNat_natCast]
  refine ⟨fun c => absurd c (no 1 (by decide)), fun c => absurd c (no 2 (by decide)), fun c => absurd c (no 3 (by decide)), fun _ => ?_, fun c => absurd c (no 5 (by decide)), fun c => absurd c (no 6 (by decide)), fun c => absurd c (no 7 (by decide)), fun c => absurd c (no 8 (by decide)), fun c => absurd c5 c.2.2.2.1⟩
  refine y_truth (by omega) hc h w1 w3 w4 w5 w6 w7 hB (fun r τ2 t2 L2 v1 v2 v3 v4 v5 v6 => ?_)
  have h2 := EI_tr hc h v1 v4
  have f2 : ∀ o, o ∉ SWo → z τ2 o = z σ o := fun o ho => fr_zF v1.1.2.2.2.1 ho
  refine b_En_perform_141 hp h2.1.1.2 h2.1.1.1 (yy_fork (by omega) hp h2.1 h2.2.1 hf v2 (by omega) (fun τ3 t3 n3 m3 b3 o3 e48 e15 e64 e64' e65 e66 e67 ra1 ra2 => b_En_perform_144 hp n3.1.2 n3.1.1 ?_))
  rw [show (i : Int) + 1 = ((i + 1 : Nat) : Int) by omega]
  rw [f2 48 (by decide)] at e66 ra1 ra2
  have o3' : ∀ o, 61 ≤ o → o ≠ 64 → o ≠ 65 → o ≠ 66 → o ≠ 67 → o ≠ 68 → z τ3 o = z τ2 o := fun o q1 q2 q3 q4 q5 _ => o3 o (by omega) q2 q3 q4 q5
  refine y_nx hp n3.1.1 n3.1.2 (by omega) (kk τ3 t3 L2 r (EI_fork (r := r) hc h2 n3 m3 o3' e15 e64 e64') (ME_tr (ME_WT v1) m3) ⟨fun o q1 q2 q3 q4 q5 q6 => by rw [o3' o q1 q2 q3 q4 q5 q6, f2 o (by unfold SWo; simp; omega)], fun j hj => by rw [e64 j hj, f2 64 (by decide)], fun j hj => by rw [e64' j hj, f2 62 (by decide)], fun j hj => ?_, e66, e67, ra1, ra2⟩ (by rw [o3 68 (by decide) (by decide) (by decide) (by decide) (by decide), f2 68 (by decide)]) (by omega) (fun v cv => ?_))
  · obtain ⟨q1, q2, q3⟩ := e65 j (by omega)
    rw [q1, q2, q3, f2 65 (by decide), f2 66 (by decide), f2 67 (by decide)]
    exact ⟨rfl, rfl, rfl⟩
  · obtain ⟨-, q3⟩ := v3 v (CSv_GM cv m3.2.2)
    have s3 := NX_s n3
    have le := m3.2.2.1
    have gl : lit t3 (z σ 48 4) := by
      have := h2.1.2.2.2.2.2.1
      rw [f2 48 (by decide)] at this
      exact lit_m this le
    have lr := lit_m v2 le
    refine ⟨q3, RA_v ra2 s3.2 gl lr cv, ?_⟩
    rw [RA_v ra1 s3.2 gl (lit_x s3.2 lr).1 cv, lvb_x lr.1 (by have := lr.2; omega)]
theorem L_else {a b : Int} (hd : 7 ≤ d) (hc : CT0 p V WI WU S σ0) (h : EI p V WI WU (fm + 1) σ0 σ s L dn ot) (hx : S[i]? = some (5, a, b, [])) (hn : n < 1000000)
    (kk : ∀ τ, EI p V WI WU (fm + 1) σ0 τ s L (fun _ => false) 0 → ME s s σ τ → (∀ o, 61 ≤ o → o ≠ 62 → o ≠ 64 → o ≠ 65 → o ≠ 67 → z τ o = z σ o) → (∀ j, j < 96 * fm → z τ 64 j = z σ 64 j) → (∀ j, j < 96 → z τ 62 j = z σ 64 (96 * fm + j) ∧ z τ 64 (96 * fm + j) = z σ 62 j) → (∀ j, j < fm → z τ 65 j = z σ 65 j ∧ z τ 67 j = z σ 67 j) → z τ 48 4 = z σ 65 fm → z τ 65 fm = z σ 48 4 → z τ 67 fm = zXor (z σ 67 fm) 1 → J ω m_En_encode (d + 1) 0 0 0 0 54 [(0, .ref 48), (2, .int (zI ((i + 1 : Nat) : Int))), (3, .int (zI ((n + 1 : Nat) : Int)))] [] τ (q_kv K)) : J ω m_En_encode (d + 1) 0 0 0 0 54 [(0, .ref 48), (2, .int (zI (i : Int))), (3, .int (zI (n : Int)))] [] σ (q_kv K) := by
  have hp := hc.1
  refine y_ev0 (by omega) hc h hx rfl hn (fun ⟨c5, c6, c9⟩ i16 => ?_)
  obtain ⟨d, rfl⟩ : ∃ k, d = k + 1 := ⟨d - 1, by omega⟩
  have no : ∀ a : Int, a ≠ 5 → ¬ z σ (p + 5) i = a := fun a ha q => ha (by rw [← q, c5])
  refine b_En_perform_0 hp h.1.1.2 h.1.1.1 ⟨⟨by omega, by omega⟩, ?_⟩
  rw [Int.toNat_natCast]
  refine ⟨fun c => absurd c (no 1 (by decide)), fun c => absurd c (no 2 (by decide)), fun c => absurd c (no 3 (by decide)), fun c => absurd c (no 4 (by decide)), fun _ => ?_, fun c => absurd c (no 6 (by decide)), fun c => absurd c (no 7 (by decide)), fun c => absurd c (no 8 (by decide)), fun c => absurd c5 c.2.2.2.2.1⟩
  refine y_swap hp h.1 h.2.1 (fun τ n3 m3 o3 e48 e15 e64 ex e65 g4 g65 g67 => b_En_perform_151 hp n3.1.2 n3.1.1 ?_)
  rw [show (i : Int) + 1 = ((i + 1 : Nat) : Int) by omega]
  refine y_nx hp n3.1.1 n3.1.2 (by omega) (kk τ ?_ m3 (fun o q1 => o3 o (by omega)) e64 ex (fun j hj => e65 j (by omega)) g4 g65 g67)
  obtain ⟨g1, g2, g3, g4', g5, g6, g7, g8⟩ := h
  have V12 := hc.2.2.1
  have ex1 : ∀ i' j, i' < V → j < 8 → z τ 62 (8 * i' + j) = z σ 64 (96 * fm + 8 * i' + j) ∧ z τ 64 (96 * fm + 8 * i' + j) = z σ 62 (8 * i' + j) := fun i' j a b => by
    have := ex (8 * i' + j) (by omega)
    rw [← Nat.add_assoc] at this
    exact this
  refine ⟨n3, m3.1, m3.2.1.trans g3, fun v cv q j hj => absurd hj (by omega), fun i' hi => ⟨?_, fun f hf => ?_⟩, fun j a b => ⟨?_, fun f hf => ?_⟩, ⟨fun i' a b => ?_, fun i' a => ?_, fun f i' a b => ?_⟩, DnI_0 e15⟩
  · exact wdt_cg ((g5 i' hi).2 fm (by omega)) (fun j hj => (ex1 i' j hi hj).1)
  · by_cases c : f = fm
    · subst c; exact wdt_cg (g5 i' hi).1 (fun j hj => (ex1 i' j hi hj).2)
    · exact wdt_cg ((g5 i' hi).2 f hf) (fun j hj => e64 _ (by omega))
  · rw [(ex j b).1]; exact (g6 j a b).2 fm (by omega)
  · by_cases c : f = fm
    · subst c; rw [(ex j b).2]; exact (g6 j a b).1
    · rw [e64 _ (by omega)]; exact (g6 j a b).2 f hf
  · rw [o3 61 (by decide) (by decide) (by decide) (by decide) (by decide)]; exact Cov_GM (g7.1 i' a b) m3.2.2
  · exact Cov_cg (fun j hj => (ex1 i' j a hj).1.symm) (Cov_GM (g7.2.2 fm i' (by omega) a) m3.2.2)
  · by_cases c : f = fm
    · subst c; exact Cov_cg (fun j hj => (ex1 i' j b hj).2.symm) (Cov_GM (g7.2.1 i' b) m3.2.2)
    · exact Cov_cg (fun j hj => (e64 _ (by omega)).symm) (Cov_GM (g7.2.2 f i' a b) m3.2.2)
theorem dfc_0 {f g : Nat → Int} : ∀ n, (∀ j, j < n → f j = g j) → dfc f g n = 0
  | 0, _ => rfl
  | n + 1, h => by
    show dfc f g n + (if f n = g n then 0 else 1) = 0
    rw [dfc_0 n (fun j hj => h j (by omega)), if_pos (h n (by omega))]
theorem dfc_le {f g : Nat → Int} {m : Nat} : ∀ n, (∀ j, m ≤ j → j < n → f j = g j) → dfc f g n ≤ m
  | 0, _ => Nat.zero_le _
  | n + 1, h => by
    show dfc f g n + (if f n = g n then 0 else 1) ≤ m
    by_cases c : m ≤ n
    · have := dfc_le (f := f) (g := g) (m := m) n (fun j a b => h j a (by omega))
      rw [if_pos (h n c (by omega))]; omega
    · have : ∀ k, dfc f g k ≤ k := fun k => by
        induction k with
        | zero => exact Nat.le_refl _
        | succ k ih =>
          show dfc f g k + (if f k = g k then 0 else 1) ≤ k + 1
          split <;> omega
      have := this n
      split <;> omega
/-- the rows of V VARIABLES, to be looked at -/
def rowsL (τ : q_H) : Nat → q_Lr
  | 0 => []
  | v + 1 => (fun j => z τ 62 (8 * v + j), 7) :: rowsL τ v
theorem rowsL_sum (τ : q_H) : ∀ v, lsum (rowsL τ v) = 7 * v
  | 0 => rfl
  | v + 1 => by show 7 + lsum (rowsL τ v) = _; rw [rowsL_sum τ v]; omega
theorem rowsL_mem (τ : q_H) {i : Nat} : ∀ v, i < v → ((fun j => z τ 62 (8 * i + j), 7) : (Nat → Int) × Nat) ∈ rowsL τ v
  | v + 1, h => by
    by_cases c : i = v
    · subst c; exact List.mem_cons_self
    · exact List.mem_cons_of_mem _ (rowsL_mem τ v (by omega))
/-- where ways meet; c: whether the VARIABLES were set -/
theorem q_join {K : q_H → Prop} (c : Bool) (hd : 4 ≤ d) (hc : CT0 p V WI WU S σ0) (h : EI p V WI WU (fm + 1) σ0 σ s L dn ot) (hcs : c = false → ∀ j, j < 96 → z σ 62 j = z σ 64 (96 * fm + j)) (k1 : ∃ r, RA s σ (z σ 66 fm) (z σ 67 fm) r) (k2 : ∃ r, RA s σ (z σ 66 fm) (zXor (z σ 67 fm) 1) r) (hs : s + 8 * V * c.toNat < 10240)
    (kk : ∀ τ s' L', EI p V WI WU fm σ0 τ s' L' (fun _ => false) 0 → ME s s' σ τ → (∀ o, 61 ≤ o → o ≠ 62 → z τ o = z σ o) → s' + lsum L' ≤ s + lsum L + 1 + 15 * V * c.toNat → (c = false → ∀ j, j < 96 → z τ 62 j = z σ 62 j) → (∀ v, CSv s' τ v → (∀ j, j < 96 → lvb v (z τ 62 j) = if lvb v (z σ 67 fm) then lvb v (z σ 62 j) else lvb v (z σ 64 (96 * fm + j))) ∧ lvb v (z τ 48 4) = (lvb v (z σ 48 4) || lvb v (z σ 65 fm))) → K τ) : J ω m_En_join d 0 0 0 0 0 [(0, .ref 48)] [] σ (q_kv K) := by
  have hp := hc.1
  have V12 := hc.2.2.1
  obtain ⟨g1, g2, g3, g4, g5, g6, g7, g8⟩ := h
  have dl : dfc (z σ 62) (fun j => z σ 64 (96 * fm + j)) 96 ≤ 8 * V * c.toNat := by
    cases hcc : c with
    | false => rw [dfc_0 96 (fun j hj => hcs hcc j hj)]; exact Nat.zero_le _
    | true =>
      have := dfc_le (f := z σ 62) (g := fun j => z σ 64 (96 * fm + j)) (m := 8 * V) 96 (fun j a b => by rw [(g6 j a b).1, (g6 j a b).2 fm (by omega)])
      simpa using this
  refine y_join hd hp g1 g2 k1 k2 (by omega) (fun τ s' n3 m3 b3 o3 e48 e15 same val => ?_)
  have eqw : ∀ i', i' < V → wdt (fun j => z τ 62 (8 * i' + j)) (WU i').toNat := fun i' hi j a b => by
    show z τ 62 (8 * i' + j) = 1
    have q1 : z σ 62 (8 * i' + j) = 1 := (g5 i' hi).1 j a b
    have q2 : z σ 64 (96 * fm + 8 * i' + j) = 1 := (g5 i' hi).2 fm (by omega) j a b
    rw [Nat.add_assoc] at q2
    rw [same _ (by omega) (by rw [q1, q2]), q1]
  have base : ∀ L', (∀ x, x ∈ L → x ∈ L') → (∀ i', i' < V → Cov s' τ L' 8 (fun j => z τ 62 (8 * i' + j))) → EI p V WI WU fm σ0 τ s' L' (fun _ => false) 0 := fun L' hL hcv => by
    refine ⟨n3, m3.1, m3.2.1.trans g3, fun v cv q j hj => absurd hj (by omega), fun i' hi => ⟨eqw i' hi, fun f hf => ?_⟩, fun j a b => ⟨?_, fun f hf => ?_⟩, ⟨fun i' a b => ?_, hcv, fun f i' a b => ?_⟩, DnI_0 e15⟩
    · rw [o3 64 (by decide) (by decide)]; exact (g5 i' hi).2 f (by omega)
    · rw [same j b (by rw [(g6 j a b).1, (g6 j a b).2 fm (by omega)])]; exact (g6 j a b).1
    · rw [o3 64 (by decide) (by decide)]; exact (g6 j a b).2 f (by omega)
    · rw [o3 61 (by decide) (by decide)]; exact Cov_sub hL (Cov_GM (g7.1 i' a b) m3.2.2)
    · rw [o3 64 (by decide) (by decide)]; exact Cov_sub hL (Cov_GM (g7.2.2 f i' (by omega) b) m3.2.2)
  have o3' : ∀ o, 61 ≤ o → o ≠ 62 → z τ o = z σ o := fun o q1 q2 => o3 o (by omega) q2
  cases hcc : c with
  | false =>
    have sm : ∀ j, j < 96 → z τ 62 j = z σ 62 j := fun j hj => same j hj (hcs hcc j hj)
    refine kk τ s' L (base L (fun _ q => q) (fun i' hi => Cov_cg (fun j hj => (sm _ (by omega)).symm) (Cov_GM (g7.2.1 i' hi) m3.2.2))) m3 o3' ?_ (fun _ => sm) val
    rw [hcc] at dl ⊢
    simp at dl ⊢
    omega
  | true =>
    refine kk τ s' (rowsL τ V ++ L) (base _ (fun x q => List.mem_append.mpr (Or.inr q)) (fun i' hi => Or.inr ⟨_, List.mem_append.mpr (Or.inl (rowsL_mem τ V hi)), fun _ _ => rfl, Nat.le_refl 7⟩)) m3 o3' ?_ (fun q => by rw [hcc] at q; cases q) val
    rw [lsum_app, rowsL_sum]
    rw [hcc] at dl ⊢
    simp at dl ⊢
    omega
end SuP
