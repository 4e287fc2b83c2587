/-! What is learned, as functions -/
section LpP
variable {s ts lv top : Nat} {M : Nat → Int} {cs : List Nat} {V V' L Rs T St S Lr Hi : Nat → Int}
theorem St_le (h : TRp s ts lv M cs V L Rs T St) {a b : Nat} (ha : 1 ≤ a) (hab : a ≤ b) (hb : b ≤ lv) : St a ≤ St b := by
  by_cases c : a = b
  · rw [c]; exact Int.le_refl _
  · have := St_lt h ha b (by omega) hb; omega
/-- a decision stands where its level starts -/
theorem TR_dec (h : TRp s ts lv M cs V L Rs T St) {p : Nat} (hp : p < ts) (h1 : 1 ≤ L (gt (T p))) (h0 : Rs (gt (T p)) = 0) : (p : Int) = St (L (gt (T p))).toNat := (h.2.2.2.2.2.2.2 p hp h1).mp h0
theorem far_len {n hc0 hc ls : Nat} (h : TRp s ts lv M cs V L Rs T St) (hC : TC ts n 0 ls hc0 hc M cs V L Rs T S Lr Hi) (hD : ∀ j, 0 ≤ j → j < ls → Rs (gt (Lr j)) = 0) : ls ≤ lv := by
  refine pigeon lv ls (fun j => (L (gt (Lr j))).toNat - 1) (fun j hj => ?_) (fun j k hjk hk => ?_)
  · obtain ⟨p, -, h2, h3, h4⟩ := hC.2.1 j (Nat.zero_le _) hj
    have := h.2.2.2.1 p h2
    show (L (gt (Lr j))).toNat - 1 < lv
    rw [h3, gt_ng]; omega
  · obtain ⟨p, -, h2, h3, h4⟩ := hC.2.1 j (Nat.zero_le _) (by omega)
    obtain ⟨q, -, g2, g3, g4⟩ := hC.2.1 k (Nat.zero_le _) hk
    have o := hC.2.2.1 j k p q (Nat.zero_le _) hjk hk h2 g2 h3 g3
    have d1 := hD j (Nat.zero_le _) (by omega)
    have d2 := hD k (Nat.zero_le _) hk
    rw [h3, gt_ng] at d1
    rw [g3, gt_ng] at d2
    have e1 := TR_dec h h2 h4 d1
    have e2 := TR_dec h g2 g4 d2
    show (L (gt (Lr j))).toNat - 1 ≠ (L (gt (Lr k))).toNat - 1
    rw [h3, g3, gt_ng, gt_ng]
    intro e
    have : (L (gt (T p))).toNat = (L (gt (T q))).toNat := by omega
    rw [this] at e1
    omega
/-- no clause has only decisions that are denied: it would have told before -/
theorem far_new {n hc0 hc ls dn c : Nat} (h : TRp s ts lv M cs V L Rs T St) (hC : TC ts n 0 ls hc0 hc M cs V L Rs T S Lr Hi) (hD : ∀ j, 0 ≤ j → j < ls → Rs (gt (Lr j)) = 0) (hq : WQ M V L T cs dn) (hdn : St lv ≤ (dn : Int)) (hc1 : c ∈ cs) (h2 : 2 ≤ M c) (hd : M (c + 3) ≠ M (c + 4)) (hall : ∀ x, inC M c x → ∃ j, j < ls ∧ Lr j = x) : False := by
  have get : ∀ e : Nat, e ≤ 1 → ∃ p, p < ts ∧ M (c + 3 + e) = ng (T p) ∧ (p : Int) = St (L (gt (T p))).toNat ∧ 1 ≤ L (gt (T p)) := fun e he => by
    obtain ⟨j, hj, ej⟩ := hall _ ⟨e, by omega, rfl⟩
    obtain ⟨p, -, p2, p3, p4⟩ := hC.2.1 j (Nat.zero_le _) hj
    have d1 := hD j (Nat.zero_le _) hj
    rw [p3, gt_ng] at d1
    exact ⟨p, p2, by rw [← ej]; exact p3, TR_dec h p2 p4 d1, p4⟩
  have bad : ∀ e : Nat, e ≤ 1 → ∀ p q, p < ts → q < ts → M (c + 3 + e) = ng (T p) → M (c + 3 + (1 - e)) = ng (T q) → (q : Int) = St (L (gt (T q))).toNat → 1 ≤ L (gt (T q)) → p < q → False := fun e he p q hp hq2 e1 e2 e3 e4 hlt => by
    have hlq := h.2.2.2.1 q hq2
    have := St_le h (a := (L (gt (T q))).toNat) (b := lv) (by omega) (by omega) (Nat.le_refl _)
    have w := (hq c hc1 h2 e he p (by omega) (by rw [e1, ng_ng])).1
    have v := (h.1 q hq2).2.2
    rw [← e2, w] at v
    exact absurd v (by decide)
  obtain ⟨p, p1, p2, p3, p4⟩ := get 0 (by omega)
  obtain ⟨q, q1, q2, q3, q4⟩ := get 1 (by omega)
  rcases Nat.lt_trichotomy p q with o | o | o
  · exact bad 0 (by omega) p q p1 q1 p2 q2 q3 q4 o
  · rw [o] at p2
    exact hd (by rw [show c + 3 = c + 3 + 0 by rfl, p2, show c + 4 = c + 3 + 1 by rfl, q2])
  · exact bad 1 (by omega) q p q1 p1 q2 p2 p3 p4 o
theorem WQ_back {k0 ts' dn : Nat} (h : TRp s ts lv M cs V L Rs T St) (hcl : CLp M top s cs) (hk : k0 < lv) (ht : (ts' : Int) = St (k0 + 1)) (hdn : ts' ≤ dn) (hq : WQ M V L T cs dn) (hv : ∀ l : Nat, V' l = V l ∨ (V' l = 0 ∧ ∃ i : Nat, ts' ≤ i ∧ i < ts ∧ T i / 2 = (l : Int) / 2)) : WQ M V' L T cs ts' := by
  intro c hc h2 e he i hi ei
  obtain ⟨q1, q2⟩ := hq c hc h2 e he i (by omega) ei
  refine ⟨?_, q2⟩
  obtain ⟨f1, f2, f3⟩ := h.2.2.2.2.1 (k0 + 1) (by omega) (by omega)
  have lo := (hcl.1 c hc).2.2.2.1 (1 - e) (by omega)
  obtain ⟨j, hj, ej⟩ := TR_pos h lo q1
  have g1 : gt (M (c + 3 + e)) = gt (T i) := by rw [ei, gt_ng]
  rw [g1, ← ej] at q2
  have : j < ts' := by
    have a := f3 i (by omega)
    have b := f3 j hj
    by_cases q : j < ts'
    · exact q
    · have := b.mpr (by omega)
      have := a.mp (by omega)
      omega
  rcases hv (M (c + 3 + (1 - e))).toNat with e1 | ⟨-, k, k1, k2, k3⟩
  · rw [e1]; exact q1
  · have lo0 := lo.1
    have := h.2.1 j k (by omega) k2
    rw [ej] at this
    omega
theorem WQ_new {M' : Nat → Int} {x : Int} {k0 : Nat} (h : TRp s ts k0 M cs V L Rs T St) (hcl : CLp M top s cs) (lx : lit s x) (v0 : V x.toNat = 0) (hq : WQ M V L T cs ts) (hM : ∀ j, j < top → M' j = M j) (e0 : M' (top + 3) = x) (l1 : lit s (M' (top + 4))) (v1 : V (M' (top + 4)).toNat = -1) (L1 : L (gt (M' (top + 4))) = (k0 : Int)) : WQ M' (up (up V x.toNat 1) (ng x).toNat (-1)) (up L (gt x) (k0 : Int)) (up T ts x) (top :: cs) ts := by
  have hq2 := WQ_assign h hcl lx v0 (Nat.le_refl _) hq
  intro c hc h2 e he i hi ei
  rcases List.mem_cons.mp hc with ec | hc
  · subst ec
    rw [up_n (by omega)] at ei
    have hti := h.1 i hi
    by_cases e1 : e = 0
    · subst e1
      rw [show c + 3 + 0 = c + 3 by rfl, e0] at ei
      have := hti.2.2
      rw [ei, ng_ng, v0] at this
      exact absurd this (by decide)
    · have e2 : e = 1 := by omega
      subst e2
      have r1 : M' (c + 3 + (1 - 1)) = x := e0
      rw [r1, up_s]
      have h5 := (ng_lit lx).1
      have h6 := lx.1
      have h7 := ng_ne x
      obtain ⟨g1, -⟩ := AS_o h lx v0 l1 (by rw [v1]; decide)
      refine ⟨by rw [up_n (by omega), up_s], ?_⟩
      rw [show c + 3 + 1 = c + 4 by rfl, up_n g1, L1]
      exact Int.le_refl _
  · obtain ⟨a1, a2, a3, -⟩ := hcl.1 c hc
    rw [hM c (by omega)] at h2
    have b1 := hM (c + 3 + e) (by omega)
    have b2 := hM (c + 3 + (1 - e)) (by omega)
    rw [b1] at ei
    rw [b1, b2]
    exact hq2 c hc h2 e he i hi ei
end LpP
