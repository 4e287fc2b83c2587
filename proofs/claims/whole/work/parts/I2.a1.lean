/-! THE FACE: the questions, from the class's side -/
section NpJ
variable {ω : q_W} {σ : q_H} {Q : q_R → q_H → Prop} {d p : Nat} {x1 x2 : Int}
theorem np_ok (hE : q_E σ) (hb : z σ 1 4 ≠ 0) (h : Q (.inl none) σ) : J ω m_H_needProgram d 0 0 0 0 0 [(0, .ref 1)] [] σ Q := by
  refine j_aload_n d_H_needProgram_0 0 rfl ?_
  refine zj_getZ (z σ 1 4) f_H_94 d_H_needProgram_1 (tg_1 hE) (q_okE hE (by decide)) (q_z _ _ _) ?_
  refine zj_if_ne 15 d_H_needProgram_4 (by decide) (z_R _ _ _) (fun k1 => ?_) (fun k1 => absurd k1 hb)
  exact j_vret d_H_needProgram_15 rfl (Nat.zero_le _) (Nat.zero_le _) h
theorem nv_ok (hp : p = 16 ∨ p = 29) (r12 : q_r σ 1 2 = p) (hE : q_E σ) (r1 : inR x1) (h0 : 0 ≤ x1) (h4 : x1 < z σ p 4) (h : Q (.inl none) σ) : J ω m_H_needVariable d 0 0 0 0 0 [(0, .ref 1), (1, .int (zI x1))] [] σ Q := by
  refine j_iload_n d_H_needVariable_0 1 rfl ?_
  refine zj_if_lt 15 d_H_needVariable_1 (by decide) r1 (fun k2 => absurd k2 (by omega)) (fun k2 => ?_)
  refine j_iload_n d_H_needVariable_4 1 rfl ?_
  refine j_aload_n d_H_needVariable_5 0 rfl ?_
  refine j_getR p f_H_26 d_H_needVariable_6 (tg_1 hE) (q_okE hE (by decide)) (r12) (by omega) ?_
  refine zj_getI (z σ p 4) f_H_209 d_H_needVariable_9 (tY_p_0 hE hp) (q_okE hE (by omega)) (q_z _ _ _) ?_
  refine zj_icmp_lt 23 d_H_needVariable_12 (by decide) r1 (z_R _ _ _) (fun k5 => ?_) (fun k5 => absurd k5 (by omega))
  exact j_vret d_H_needVariable_23 rfl (Nat.zero_le _) (Nat.zero_le _) h
theorem nv_no (hd : 6 ≤ d) (hp : p = 16 ∨ p = 29) (r12 : q_r σ 1 2 = p) {q : Nat} (hq : q = 16 ∨ q = 29) (r13 : q_r σ 1 3 = q) (hE : q_E σ) (r1 : inR x1) (hn : q_n σ < 900000) (h0 : ¬ (0 ≤ x1 ∧ x1 < z σ p 4)) : J ω m_H_needVariable d 1 6 0 0 0 [(0, .ref 1), (1, .int (zI x1))] [] σ (fun r τ => r = .inr (q_n σ + 1) ∧ τ = q_add σ (5, 3)) := by
  obtain ⟨d, rfl⟩ : ∃ k, d = k + 1 := ⟨d - 1, by omega⟩
  exact b_H_needVariable_0 (mc := 0) (ms := 0) hp r12 hq r13 hE ⟨r1, fun _ => ⟨hn, hd, rfl, rfl⟩, fun _ => ⟨fun c => absurd c (by omega), fun _ => ⟨hn, hd, rfl, rfl⟩⟩⟩
theorem t_H_least_4 (hd : 6 ≤ d) (hp : p = 16 ∨ p = 29) (r12 : q_r σ 1 2 = p) {q : Nat} (hq : q = 16 ∨ q = 29) (r13 : q_r σ 1 3 = q) (hE : q_E σ) (r1 : inR x1) (hn : q_n σ < 900000) (h0 : ¬ (0 ≤ x1 ∧ x1 < z σ p 4)) (h : Q (.inr (q_n σ + 1)) (q_add σ (5, 3))) : J ω m_H_least (d + 1) 1 6 0 0 4 [(0, .ref 1), (1, .int (zI x1))] [] σ Q := by
  refine j_aload_n d_H_least_4 0 rfl ?_
  refine j_iload_n d_H_least_5 1 rfl ?_
  refine j_callV m_H_needVariable [.int (zI x1)] [] d 1 6 cV_H_160 d_H_least_6 rfl rfl (tg_1 hE) (q_okE hE (by decide)) (Nat.le_of_ble_eq_true rfl) (Nat.le_refl _) (Nat.le_of_ble_eq_true rfl) (by decide) (by decide) (nv_no hd hp r12 hq r13 hE r1 hn h0) (fun v τ h => absurd h.1 (by simp)) (fun x τ h' => ?_)
  obtain ⟨e, rfl⟩ := h'
  cases e
  exact jt_out rfl (by decide) (by decide) h
theorem t_H_greatest_4 (hd : 6 ≤ d) (hp : p = 16 ∨ p = 29) (r12 : q_r σ 1 2 = p) {q : Nat} (hq : q = 16 ∨ q = 29) (r13 : q_r σ 1 3 = q) (hE : q_E σ) (r1 : inR x1) (hn : q_n σ < 900000) (h0 : ¬ (0 ≤ x1 ∧ x1 < z σ p 4)) (h : Q (.inr (q_n σ + 1)) (q_add σ (5, 3))) : J ω m_H_greatest (d + 1) 1 6 0 0 4 [(0, .ref 1), (1, .int (zI x1))] [] σ Q := by
  refine j_aload_n d_H_greatest_4 0 rfl ?_
  refine j_iload_n d_H_greatest_5 1 rfl ?_
  refine j_callV m_H_needVariable [.int (zI x1)] [] d 1 6 cV_H_160 d_H_greatest_6 rfl rfl (tg_1 hE) (q_okE hE (by decide)) (Nat.le_of_ble_eq_true rfl) (Nat.le_refl _) (Nat.le_of_ble_eq_true rfl) (by decide) (by decide) (nv_no hd hp r12 hq r13 hE r1 hn h0) (fun v τ h => absurd h.1 (by simp)) (fun x τ h' => ?_)
  obtain ⟨e, rfl⟩ := h'
  cases e
  exact jt_out rfl (by decide) (by decide) h
theorem t_H_differ_4 (hd : 6 ≤ d) (hp : p = 16 ∨ p = 29) (r12 : q_r σ 1 2 = p) {q : Nat} (hq : q = 16 ∨ q = 29) (r13 : q_r σ 1 3 = q) (hE : q_E σ) (r1 : inR x1) (hn : q_n σ < 900000) (h0 : ¬ (0 ≤ x1 ∧ x1 < z σ p 4)) (h : Q (.inr (q_n σ + 1)) (q_add σ (5, 3))) : J ω m_H_differ (d + 1) 1 6 0 0 4 [(0, .ref 1), (1, .int (zI x1)), (2, .int (zI x2))] [] σ Q := by
  refine j_aload_n d_H_differ_4 0 rfl ?_
  refine j_iload_n d_H_differ_5 1 rfl ?_
  refine j_callV m_H_needVariable [.int (zI x1)] [] d 1 6 cV_H_160 d_H_differ_6 rfl rfl (tg_1 hE) (q_okE hE (by decide)) (Nat.le_of_ble_eq_true rfl) (Nat.le_refl _) (Nat.le_of_ble_eq_true rfl) (by decide) (by decide) (nv_no hd hp r12 hq r13 hE r1 hn h0) (fun v τ h => absurd h.1 (by simp)) (fun x τ h' => ?_)
  obtain ⟨e, rfl⟩ := h'
  cases e
  exact jt_out rfl (by decide) (by decide) h
theorem t_H_differ_9 (hd : 6 ≤ d) (hp : p = 16 ∨ p = 29) (r12 : q_r σ 1 2 = p) {q : Nat} (hq : q = 16 ∨ q = 29) (r13 : q_r σ 1 3 = q) (hE : q_E σ) (r1 : inR x2) (hn : q_n σ < 900000) (h0 : ¬ (0 ≤ x2 ∧ x2 < z σ p 4)) (h : Q (.inr (q_n σ + 1)) (q_add σ (5, 3))) : J ω m_H_differ (d + 1) 1 6 0 0 9 [(0, .ref 1), (1, .int (zI x1)), (2, .int (zI x2))] [] σ Q := by
  refine j_aload_n d_H_differ_9 0 rfl ?_
  refine j_iload_n d_H_differ_10 2 rfl ?_
  refine j_callV m_H_needVariable [.int (zI x2)] [] d 1 6 cV_H_160 d_H_differ_11 rfl rfl (tg_1 hE) (q_okE hE (by decide)) (Nat.le_of_ble_eq_true rfl) (Nat.le_refl _) (Nat.le_of_ble_eq_true rfl) (by decide) (by decide) (nv_no hd hp r12 hq r13 hE r1 hn h0) (fun v τ h => absurd h.1 (by simp)) (fun x τ h' => ?_)
  obtain ⟨e, rfl⟩ := h'
  cases e
  exact jt_out rfl (by decide) (by decide) h
theorem t_H_can_4 (hd : 6 ≤ d) (hp : p = 16 ∨ p = 29) (r12 : q_r σ 1 2 = p) {q : Nat} (hq : q = 16 ∨ q = 29) (r13 : q_r σ 1 3 = q) (hE : q_E σ) (r1 : inR x1) (hn : q_n σ < 900000) (h0 : ¬ (0 ≤ x1 ∧ x1 < z σ p 4)) (h : Q (.inr (q_n σ + 1)) (q_add σ (5, 3))) : J ω m_H_can (d + 1) 1 6 0 0 4 [(0, .ref 1), (1, .int (zI x1)), (2, .int (zI x2))] [] σ Q := by
  refine j_aload_n d_H_can_4 0 rfl ?_
  refine j_iload_n d_H_can_5 1 rfl ?_
  refine j_callV m_H_needVariable [.int (zI x1)] [] d 1 6 cV_H_160 d_H_can_6 rfl rfl (tg_1 hE) (q_okE hE (by decide)) (Nat.le_of_ble_eq_true rfl) (Nat.le_refl _) (Nat.le_of_ble_eq_true rfl) (by decide) (by decide) (nv_no hd hp r12 hq r13 hE r1 hn h0) (fun v τ h => absurd h.1 (by simp)) (fun x τ h' => ?_)
  obtain ⟨e, rfl⟩ := h'
  cases e
  exact jt_out rfl (by decide) (by decide) h
theorem t_H_value_4 (hd : 6 ≤ d) (hp : p = 16 ∨ p = 29) (r12 : q_r σ 1 2 = p) {q : Nat} (hq : q = 16 ∨ q = 29) (r13 : q_r σ 1 3 = q) (hE : q_E σ) (r1 : inR x1) (hn : q_n σ < 900000) (h0 : ¬ (0 ≤ x1 ∧ x1 < z σ p 4)) (h : Q (.inr (q_n σ + 1)) (q_add σ (5, 3))) : J ω m_H_value (d + 1) 1 6 0 0 4 [(0, .ref 1), (1, .int (zI x1))] [] σ Q := by
  refine j_aload_n d_H_value_4 0 rfl ?_
  refine j_iload_n d_H_value_5 1 rfl ?_
  refine j_callV m_H_needVariable [.int (zI x1)] [] d 1 6 cV_H_160 d_H_value_6 rfl rfl (tg_1 hE) (q_okE hE (by decide)) (Nat.le_of_ble_eq_true rfl) (Nat.le_refl _) (Nat.le_of_ble_eq_true rfl) (by decide) (by decide) (nv_no hd hp r12 hq r13 hE r1 hn h0) (fun v τ h => absurd h.1 (by simp)) (fun x τ h' => ?_)
  obtain ⟨e, rfl⟩ := h'
  cases e
  exact jt_out rfl (by decide) (by decide) h
end NpJ
def FQ (p q s0 s V : Nat) (WI : Nat → Int) (S : List q_St) (σ : q_H) : Prop :=
  (p = 16 ∨ p = 29) ∧ (q = 16 ∨ q = 29) ∧ q_r σ 1 2 = p ∧ q_r σ 1 3 = q ∧ z σ 1 4 = 1 ∧ QS p s0 s σ ∧ (∀ g, z σ 84 g = 0) ∧ EXq p s0 s V WI S σ ∧ z σ p 4 = (V : Int) ∧ q_n σ < 900000
/-- what a question comes to -/
def WTN (p : Nat) (S : List q_St) (Pr : q_Sp → Prop) (b : Int) (σ τ : q_H) : Prop :=
  (b = 0 ∧ z τ 47 5 = 0 ∧ ∀ t, ¬ Pr (rnT p S σ t)) ∨ (b = 1 ∧ z τ 47 5 = 1 ∧ ∃ t, t < 2 ^ smn (iW p σ) (iN p σ) ∧ Pr (rnT p S σ t) ∧ (∀ t', t' < t → ¬ Pr (rnT p S σ t')) ∧ ∀ i, i < iN p σ → z τ 91 i = ((spr (iW p σ) (iN p σ) t i : Nat) : Int))
section FcJ
variable {ω : q_W} {d p q s0 s V rc dm wc rq : Nat} {WI R : Nat → Int} {S : List q_St} {σ π τ : q_H} {D : (Nat → Bool) → Prop} {Q : q_R → q_H → Prop}
theorem IS_r {k : Nat} (h : IS p s0 s σ τ) : q_r τ 1 k = q_r σ 1 k := frE_r h.2.2.2 (by simp)
theorem i_demand3 {K : q_H → Prop} {x : Int} (hd : 1 ≤ d) (hp : p = 16 ∨ p = 29) (h : IA p s0 s V WI S rc dm R σ π) (hr : rc < 16) (lx : lit s x) (kk : ∀ τ, IA p s0 s V WI S (rc + 1) (rc + 1) (up R rc x) σ τ → fr [47, 92] π τ → K τ) : J ω m_In_demand d 0 0 0 0 0 [(0, .ref 47), (1, .int (zI x))] [] π (q_kv K) := by
  obtain ⟨d, rfl⟩ : ∃ k, d = k + 1 := ⟨d - 1, by omega⟩
  have q := IA_s hp h hr lx
  refine b_In_demand_0 hp h.1.1.1.2.1 h.1.1.1.1 (b_In_concern_0 hp h.1.1.1.2.1 h.1.1.1.1 ?_)
  rw [h.2.2.2.1.1, Int.toNat_natCast]
  refine ⟨fun c => absurd c (by omega), fun c => ⟨⟨by omega, by omega⟩, rfl, b_In_demand_5 hp q.1.1.1.1.2.1 q.1.1.1.1.1 ⟨rfl, ?_⟩⟩⟩
  rw [q.1.2.2.2.1.1]
  exact kk _ q.2 (fr_s (fr_s (fr_s fr_refl (by simp)) (by simp)) (by simp))
theorem i_lookW {K : q_H → Prop} {Pr : q_Sp → Prop} (hd : 7 ≤ d) (hp : p = 16 ∨ p = 29) (h : QQ p s0 s V WI S rc R wc rq D σ π) (hrq : rq ≤ 28000) (hP : ∀ v, CSv s π v → (D v ↔ Pr (runF S (z σ (p + 3)) (IvN π v)))) (kk : ∀ τ, IS p s0 s σ τ → EXq p s0 s V WI S τ → MKq σ τ → ((z τ 47 5 = 0 ∧ ∀ t, ¬ Pr (rnT p S σ t)) ∨ (z τ 47 5 = 1 ∧ ∃ t, t < 2 ^ smn (iW p σ) (iN p σ) ∧ Pr (rnT p S σ t) ∧ (∀ t', t' < t → ¬ Pr (rnT p S σ t')) ∧ (∀ i, i < iN p σ → z τ 91 i = ((spr (iW p σ) (iN p σ) t i : Nat) : Int)) ∧ z τ 87 0 = (rnT p S σ t).1 ∧ z τ 87 1 = (rnT p S σ t).2.1 ∧ nw (z τ 88) = (rnT p S σ t).2.2 ∧ b256 (z τ 88))) → K τ) : J ω m_In_look d 0 0 0 0 0 [(0, .ref 47)] [] π (q_kv K) := by
  obtain ⟨g1, g2, g3, -⟩ := IS_z hp h.1
  refine i_look2 (P := fun I => Pr (runF S (z σ (p + 3)) I)) hd hp h hrq hP (fun ν k1 k2 k3 k4 k5 k6 => ?_) (fun ν t u k1 k2 k3 k4 k5 k6 k7 k8 k9 k10 k11 k12 => ?_)
  · rw [g2, g3] at k6
    exact kk ν k1 k2 k3 (Or.inl ⟨k4, k6⟩)
  · rw [g2, g3] at k4 k5 k6 k8 k9 k10 k11
    rw [g1] at k9 k10 k11
    exact kk ν k1.1 k1.2.1 k1.2.2.1 (Or.inr ⟨k2, t, k4, k5, k6, k8, k9, k10, k11, k12⟩)
/-- what the literals say, at a state of questions -/
theorem EN_at (hp : p = 16 ∨ p = 29) (hI : IS p s0 s σ π) (hX : EXq p s0 s V WI S π) {u : Nat → Bool} (cu : CSv s π u) : (lvb u (z σ 48 4) = true ↔ (runF S (z σ (p + 3)) (IvN π u)).1 = 0) ∧ ((runF S (z σ (p + 3)) (IvN π u)).1 = 0 → ∀ v, v < 12 → nV u (fun j => z σ 62 (8 * v + j)) 8 = (runF S (z σ (p + 3)) (IvN π u)).2.2 v) ∧ (∀ k : Nat, k < 512 → (lvb u (z σ 63 k) = true ↔ (runF S (z σ (p + 3)) (IvN π u)).1 = 1 ∧ (runF S (z σ (p + 3)) (IvN π u)).2.1 = (k : Int))) ∧ (lvb u (z σ 48 6) = true ↔ (runF S (z σ (p + 3)) (IvN π u)).1 = 1) := by
  obtain ⟨g1, -, -, g4, g5, g6⟩ := IS_z hp hI
  obtain ⟨k1, k2, k3, k4⟩ := hX.2.1.2.2 u (CSv_le cu hI.1.2.2.2.1.2)
  rw [g1] at k1 k2 k3 k4
  rw [g5] at k1 k4
  rw [g6] at k3
  refine ⟨by rw [k1]; simp, fun he v hv => ?_, fun k hk => by rw [k3 k hk]; simp, by rw [k4]; simp⟩
  have uv := congrFun (k2 he) v
  unfold UvN at uv
  rw [if_pos hv, g4] at uv
  exact uv
theorem h_fails (hd : 9 ≤ d) (hF : FQ p q s0 s V WI S σ) (kk : ∀ b τ s', IS p s0 s' σ τ → EXq p s0 s' V WI S τ → MKq σ τ → WTN p S (fun x => x.1 = 1) b σ τ → Q (.inl (some (.int (zI b)))) τ) : J ω m_H_fails (d + 1) 1 6 0 0 0 [(0, .ref 1)] [] σ Q := by
  obtain ⟨hp, hq, r12, r13, h14, hQ, h84, hX, h4, hn⟩ := hF
  have rr : ∀ {τ : q_H} {s' : Nat}, IS p s0 s' σ τ → q_r τ 1 2 = p ∧ q_r τ 1 3 = q := fun h => ⟨by rw [IS_r h]; exact r12, by rw [IS_r h]; exact r13⟩
  obtain ⟨Pr, hPr⟩ : ∃ Pr : q_Sp → Prop, Pr = fun x => x.1 = 1 := ⟨_, rfl⟩
  rw [← hPr] at kk
  refine b_H_fails_0 (mc := 0) (ms := 0) hp r12 hq r13 hQ.1.1 (np_ok hQ.1.1 (by omega) (Or.inl ⟨rfl, b_H_fails_4 (mc := 0) (ms := 0) hp r12 hq r13 hQ.1.1 (i_open2 (R := fun _ => 0) (by omega) hp hQ h84 hX (fun τ hτ => ?_))⟩))
  have e48 : z τ 48 = z σ 48 := (IS_z hp hτ.1).2.2.2.2.1
  refine b_H_fails_11 (mc := 0) (ms := 0) hp (rr hτ.1).1 hq (rr hτ.1).2 hτ.1.1.1.1 (i_demand2 (by omega) hp hτ (by decide) hτ.1.1.2.2.2.2.2.2.2.2.1 (fun ρ hρ => ?_))
  refine b_H_fails_28 (mc := 0) (ms := 0) hp (rr hρ.1).1 hq (rr hρ.1).2 hρ.1.1.1.1 (i_pose2 (by omega) hp hρ (fun π wc rq hP hr _ eg => ?_))
  refine b_H_fails_35 (mc := 0) (ms := 0) hp (rr hP.1).1 hq (rr hP.1).2 hP.1.1.1.1 (i_lookW (Pr := Pr) (by omega) hp hP (by omega) (fun v cv => ?_) (fun ν k1 k2 k3 k4 => ?_))
  · rw [hPr]
    refine Iff.trans ?_ (EN_at hp hP.1 hP.2.1 cv).2.2.2
    rw [e48]
    exact ⟨fun h => by have := h 0 (by decide); rw [up_s] at this; exact this, fun h i hi => by rw [show i = 0 by omega, up_s]; exact h⟩
  · have e := rr k1
    have fin : ∀ b : Int, WTN p S Pr b σ ν → J ω m_H_fails (d + 1) 1 6 0 0 68 [] [.int (zI b)] ν Q := fun b hw => b_H_fails_68 (mc := 0) (ms := 0) hp e.1 hq e.2 k1.1.1.1 (kk b ν _ k1 k2 k3 hw)
    refine b_H_fails_42 (mc := 0) (ms := 0) hp e.1 hq e.2 k1.1.1.1 ?_
    rcases k4 with ⟨f5, no⟩ | ⟨f5, t, t1, t2, t3, t4, t5, t6, t7, t8⟩
    · have go : ∀ y : Int, inR y → J ω m_In_verdict d 0 0 0 0 0 [(0, .ref 47), (1, .int (zI y))] [] ν (q_ki (fun v τ => J ω m_H_fails (d + 1) 1 6 0 0 68 [] [.int (zI v)] τ Q)) := fun y iy => i_verdict2 hp k1.1.1.1 k1.1.1.2.1 iy (Or.inl f5) (by rw [f5]; exact fin 0 (Or.inl ⟨rfl, f5, no⟩))
      have g0 := go 0 ⟨by decide, by decide⟩
      have g1 := go 1 ⟨by decide, by decide⟩
      exact ⟨fun _ => g0, fun _ => g1⟩
    · have g1 : J ω m_In_verdict d 0 0 0 0 0 [(0, .ref 47), (1, .int (zI 1))] [] ν (q_ki (fun v τ => J ω m_H_fails (d + 1) 1 6 0 0 68 [] [.int (zI v)] τ Q)) := i_verdict2 hp k1.1.1.1 k1.1.1.2.1 ⟨by decide, by decide⟩ (Or.inr ⟨f5, by decide⟩) (by rw [f5]; exact fin 1 (Or.inr ⟨rfl, f5, t, t1, t2, t3, t4⟩))
      have t2' := t2
      rw [hPr] at t2'
      exact ⟨fun c => absurd (t5.trans t2') c, fun _ => g1⟩
theorem h_failsAt {x1 : Int} (hd : 9 ≤ d) (hF : FQ p q s0 s V WI S σ) (r1 : inR x1) (kx : ¬ (0 ≤ x1 ∧ x1 < z σ p 7) → Q (.inr (q_n σ + 1)) (q_add σ (5, 3))) (kk : 0 ≤ x1 → x1 < z σ p 7 → ∀ b τ s', IS p s0 s' σ τ → EXq p s0 s' V WI S τ → MKq σ τ → WTN p S (fun x => x.1 = 1 ∧ x.2.1 = x1) b σ τ → Q (.inl (some (.int (zI b)))) τ) : J ω m_H_failsAt (d + 1) 1 6 0 0 0 [(0, .ref 1), (1, .int (zI x1))] [] σ Q := by
  obtain ⟨hp, hq, r12, r13, h14, hQ, h84, hX, h4, hn⟩ := hF
  have rr : ∀ {τ : q_H} {s' : Nat}, IS p s0 s' σ τ → q_r τ 1 2 = p ∧ q_r τ 1 3 = q := fun h => ⟨by rw [IS_r h]; exact r12, by rw [IS_r h]; exact r13⟩
  have b7 := hQ.2.1.2.2.2.2.1
  obtain ⟨Pr, hPr⟩ : ∃ Pr : q_Sp → Prop, Pr = fun x => x.1 = 1 ∧ x.2.1 = x1 := ⟨_, rfl⟩
  rw [← hPr] at kk
  refine b_H_failsAt_0 (mc := 0) (ms := 0) hp r12 hq r13 hQ.1.1 (np_ok hQ.1.1 (by omega) (Or.inl ⟨rfl, b_H_failsAt_4 (mc := 0) (ms := 0) hp r12 hq r13 hQ.1.1 ⟨r1, fun c => ⟨hn, by omega, kx (by omega)⟩, fun c0 => ⟨fun c1 => ?_, fun c => ⟨hn, by omega, kx (by omega)⟩⟩⟩⟩))
  replace kk := kk c0 c1
  refine i_open2 (R := fun _ => 0) (by omega) hp hQ h84 hX (fun τ hτ => ?_)
  have e63 : z τ 63 = z σ 63 := (IS_z hp hτ.1).2.2.2.2.2
  refine b_H_failsAt_34 (mc := 0) (ms := 0) hp (rr hτ.1).1 hq (rr hτ.1).2 hτ.1.1.1.1 ⟨⟨by omega, by omega⟩, i_demand2 (by omega) hp hτ (by decide) (hτ.1.1.2.2.2.2.2.2.1 _ (by omega)) (fun ρ hρ => ?_)⟩
  refine b_H_failsAt_53 (mc := 0) (ms := 0) hp (rr hρ.1).1 hq (rr hρ.1).2 hρ.1.1.1.1 (i_pose2 (by omega) hp hρ (fun π wc rq hP hr _ eg => ?_))
  refine b_H_failsAt_60 (mc := 0) (ms := 0) hp (rr hP.1).1 hq (rr hP.1).2 hP.1.1.1.1 (i_lookW (Pr := Pr) (by omega) hp hP (by omega) (fun v cv => ?_) (fun ν k1 k2 k3 k4 => ?_))
  · have h3 := (EN_at hp hP.1 hP.2.1 cv).2.2.1 x1.toNat (by omega)
    rw [show ((x1.toNat : Nat) : Int) = x1 by omega] at h3
    rw [hPr]
    refine Iff.trans ?_ h3
    rw [e63]
    exact ⟨fun h => by have := h 0 (by decide); rw [up_s] at this; exact this, fun h i hi => by rw [show i = 0 by omega, up_s]; exact h⟩
  · have e := rr k1
    have fin : ∀ b : Int, WTN p S Pr b σ ν → J ω m_H_failsAt (d + 1) 1 6 0 0 107 [] [.int (zI b)] ν Q := fun b hw => b_H_failsAt_107 (mc := 0) (ms := 0) hp e.1 hq e.2 k1.1.1.1 (kk b ν _ k1 k2 k3 hw)
    refine b_H_failsAt_67 (mc := 0) (ms := 0) hp e.1 hq e.2 k1.1.1.1 ?_
    rcases k4 with ⟨f5, no⟩ | ⟨f5, t, t1, t2, t3, t4, t5, t6, t7, t8⟩
    · have go : ∀ y : Int, inR y → J ω m_In_verdict d 0 0 0 0 0 [(0, .ref 47), (1, .int (zI y))] [] ν (q_ki (fun v τ => J ω m_H_failsAt (d + 1) 1 6 0 0 107 [] [.int (zI v)] τ Q)) := fun y iy => i_verdict2 hp k1.1.1.1 k1.1.1.2.1 iy (Or.inl f5) (by rw [f5]; exact fin 0 (Or.inl ⟨rfl, f5, no⟩))
      have g0 := go 0 ⟨by decide, by decide⟩
      have g1 := go 1 ⟨by decide, by decide⟩
      exact ⟨fun _ => g0, fun _ => ⟨r1, fun _ => g0, fun _ => g1⟩⟩
    · have g1 : J ω m_In_verdict d 0 0 0 0 0 [(0, .ref 47), (1, .int (zI 1))] [] ν (q_ki (fun v τ => J ω m_H_failsAt (d + 1) 1 6 0 0 107 [] [.int (zI v)] τ Q)) := i_verdict2 hp k1.1.1.1 k1.1.1.2.1 ⟨by decide, by decide⟩ (Or.inr ⟨f5, by decide⟩) (by rw [f5]; exact fin 1 (Or.inr ⟨rfl, f5, t, t1, t2, t3, t4⟩))
      have t2' := t2
      rw [hPr] at t2'
      exact ⟨fun c => absurd (t5.trans t2'.1) c, fun _ => ⟨r1, fun c => absurd (t6.trans t2'.2) c, fun _ => g1⟩⟩
theorem z88 {f : Nat → Int} {g : Nat → Nat} {v : Nat} (h : nw f = g) (hb : b256 f) (hv : v < 12) : f v = ((g v : Nat) : Int) := by
  have a := congrFun h v
  unfold nw at a
  rw [if_pos hv] at a
  have := (hb v hv).1
  omega
theorem h_differ {x1 x2 : Int} (hd : 9 ≤ d) (hF : FQ p q s0 s V WI S σ) (r1 : inR x1) (r2 : inR x2) (kx : ¬ (0 ≤ x1 ∧ x1 < (V : Int) ∧ 0 ≤ x2 ∧ x2 < (V : Int)) → Q (.inr (q_n σ + 1)) (q_add σ (5, 3))) (kk : 0 ≤ x1 → x1 < (V : Int) → 0 ≤ x2 → x2 < (V : Int) → ∀ b τ s', IS p s0 s' σ τ → EXq p s0 s' V WI S τ → MKq σ τ → WTN p S (fun x => x.1 = 0 ∧ x.2.2 x1.toNat ≠ x.2.2 x2.toNat) b σ τ → Q (.inl (some (.int (zI b)))) τ) : J ω m_H_differ (d + 1) 1 6 0 0 0 [(0, .ref 1), (1, .int (zI x1)), (2, .int (zI x2))] [] σ Q := by
  obtain ⟨hp, hq, r12, r13, h14, hQ, h84, hX, h4, hn⟩ := hF
  have rr : ∀ {τ : q_H} {s' : Nat}, IS p s0 s' σ τ → q_r τ 1 2 = p ∧ q_r τ 1 3 = q := fun h => ⟨by rw [IS_r h]; exact r12, by rw [IS_r h]; exact r13⟩
  have v12 := hQ.2.1.1.2.1
  rw [h4] at v12
  obtain ⟨Pr, hPr⟩ : ∃ Pr : q_Sp → Prop, Pr = fun x => x.1 = 0 ∧ x.2.2 x1.toNat ≠ x.2.2 x2.toNat := ⟨_, rfl⟩
  rw [← hPr] at kk
  refine b_H_differ_0 (mc := 0) (ms := 0) hp r12 hq r13 hQ.1.1 (np_ok hQ.1.1 (by omega) (Or.inl ⟨rfl, ?_⟩))
  by_cases c1 : 0 ≤ x1 ∧ x1 < (V : Int)
  rotate_left
  · exact t_H_differ_4 (by omega) hp r12 hq r13 hQ.1.1 r1 hn (by rw [h4]; exact c1) (kx (by omega))
  refine b_H_differ_4 (mc := 0) (ms := 0) hp r12 hq r13 hQ.1.1 (nv_ok hp r12 hQ.1.1 r1 c1.1 (by omega) (Or.inl ⟨rfl, ?_⟩))
  by_cases c2 : 0 ≤ x2 ∧ x2 < (V : Int)
  rotate_left
  · exact t_H_differ_9 (by omega) hp r12 hq r13 hQ.1.1 r2 hn (by rw [h4]; exact c2) (kx (by omega))
  refine b_H_differ_9 (mc := 0) (ms := 0) hp r12 hq r13 hQ.1.1 (nv_ok hp r12 hQ.1.1 r2 c2.1 (by omega) (Or.inl ⟨rfl, ?_⟩))
  replace kk := kk c1.1 c1.2 c2.1 c2.2
  refine b_H_differ_14 (mc := 0) (ms := 0) hp r12 hq r13 hQ.1.1 (i_open2 (R := fun _ => 0) (by omega) hp hQ h84 hX (fun τ hτ => ?_))
  have e48 : z τ 48 = z σ 48 := (IS_z hp hτ.1).2.2.2.2.1
  refine b_H_differ_21 (mc := 0) (ms := 0) hp (rr hτ.1).1 hq (rr hτ.1).2 hτ.1.1.1.1 (i_demand2 (by omega) hp hτ (by decide) hτ.1.1.2.2.2.2.2.2.2.1 (fun ρ hρ => ?_))
  obtain ⟨a, ha⟩ : ∃ a : Nat, x1 = (a : Int) := ⟨x1.toNat, by omega⟩
  obtain ⟨b, hb⟩ : ∃ b : Nat, x2 = (b : Int) := ⟨x2.toNat, by omega⟩
  subst ha hb
  refine b_H_differ_38 (mc := 0) (ms := 0) hp (rr hρ.1).1 hq (rr hρ.1).2 hρ.1.1.1.1 (i_difference2 (v := a) (w := b) (by omega) hp hρ (by omega) (by omega) (fun y θ s' hθ ly hy => ?_))
  refine b_H_differ_54 (mc := 0) (ms := 0) hp (rr hθ.1).1 hq (rr hθ.1).2 hθ.1.1.1.1 (i_demand3 (by omega) hp hθ (by decide) ly (fun κ hκ fκ => ?_))
  refine b_H_differ_57 (mc := 0) (ms := 0) hp (rr hκ.1).1 hq (rr hκ.1).2 hκ.1.1.1.1 (i_pose2 (by omega) hp hκ (fun π wc rq hP hr _ eg => ?_))
  refine b_H_differ_64 (mc := 0) (ms := 0) hp (rr hP.1).1 hq (rr hP.1).2 hP.1.1.1.1 (i_lookW (Pr := Pr) (by omega) hp hP (by omega) (fun v cv => ?_) (fun ν k1 k2 k3 k4 => ?_))
  · have h3 := EN_at hp hP.1 hP.2.1 cv
    have cθ : CSv s' θ v := CSv_z ((eg 51 (by omega)).trans (fr_zF fκ (by decide))) ((eg 52 (by omega)).trans (fr_zF fκ (by decide))) ((eg 53 (by omega)).trans (fr_zF fκ (by decide))) ((eg 54 (by omega)).trans (fr_zF fκ (by decide))) cv
    have hyv := hy v cθ
    have D : (∀ i, i < 0 + 1 + 1 → lvb v (up (up (fun _ => 0) 0 (z τ 48 4)) (0 + 1) y i) = true) ↔ (lvb v (z σ 48 4) = true ∧ lvb v y = true) := by
      rw [e48]
      constructor
      · intro h
        have q0 := h 0 (by decide)
        have q1 := h 1 (by decide)
        rw [up_n (by decide), up_s] at q0
        rw [show (0 + 1 : Nat) = 1 from rfl, up_s] at q1
        exact ⟨q0, q1⟩
      · rintro ⟨q0, q1⟩ i hi
        rcases (show i = 0 ∨ i = 1 by omega) with e | e
        · rw [e, up_n (by decide), up_s]; exact q0
        · rw [e, show (0 + 1 : Nat) = 1 from rfl, up_s]; exact q1
    rw [hPr]
    refine D.trans ?_
    rw [h3.1, hyv]
    refine and_congr_right (fun he => ?_)
    rw [h3.2.1 he a (by omega), h3.2.1 he b (by omega)]
    exact Iff.rfl
  · have e := rr k1
    have fin : ∀ b : Int, WTN p S Pr b σ ν → J ω m_H_differ (d + 1) 1 6 0 0 113 [] [.int (zI b)] ν Q := fun b hw => b_H_differ_113 (mc := 0) (ms := 0) hp e.1 hq e.2 k1.1.1.1 (kk b ν _ k1 k2 k3 hw)
    refine b_H_differ_71 (mc := 0) (ms := 0) hp e.1 hq e.2 k1.1.1.1 ?_
    rcases k4 with ⟨f5, no⟩ | ⟨f5, t, t1, t2, t3, t4, t5, t6, t7, t8⟩
    · have go : ∀ y : Int, inR y → J ω m_In_verdict d 0 0 0 0 0 [(0, .ref 47), (1, .int (zI y))] [] ν (q_ki (fun v τ => J ω m_H_differ (d + 1) 1 6 0 0 113 [] [.int (zI v)] τ Q)) := fun y iy => i_verdict2 hp k1.1.1.1 k1.1.1.2.1 iy (Or.inl f5) (by rw [f5]; exact fin 0 (Or.inl ⟨rfl, f5, no⟩))
      have g0 := go 0 ⟨by decide, by decide⟩
      have g1 := go 1 ⟨by decide, by decide⟩
      exact ⟨fun _ => g0, fun _ => ⟨⟨by omega, by omega⟩, ⟨by omega, by omega⟩, fun _ => g0, fun _ => g1⟩⟩
    · have g1 : J ω m_In_verdict d 0 0 0 0 0 [(0, .ref 47), (1, .int (zI 1))] [] ν (q_ki (fun v τ => J ω m_H_differ (d + 1) 1 6 0 0 113 [] [.int (zI v)] τ Q)) := i_verdict2 hp k1.1.1.1 k1.1.1.2.1 ⟨by decide, by decide⟩ (Or.inr ⟨f5, by decide⟩) (by rw [f5]; exact fin 1 (Or.inr ⟨rfl, f5, t, t1, t2, t3, t4⟩))
      have t2' := t2
      rw [hPr] at t2'
      refine ⟨fun c => absurd (t5.trans t2'.1) c, fun _ => ⟨⟨by omega, by omega⟩, ⟨by omega, by omega⟩, fun c => ?_, fun _ => g1⟩⟩
      rw [z88 t7 t8 (by omega), z88 t7 t8 (by omega)] at c
      exact absurd (Int.ofNat.inj c) t2'.2
theorem h_can {x1 x2 : Int} (hd : 9 ≤ d) (hF : FQ p q s0 s V WI S σ) (r1 : inR x1) (r2 : inR x2) (kx : ¬ (0 ≤ x1 ∧ x1 < (V : Int)) → Q (.inr (q_n σ + 1)) (q_add σ (5, 3))) (kk : 0 ≤ x1 → x1 < (V : Int) → ∀ b τ s', IS p s0 s' σ τ → EXq p s0 s' V WI S τ → MKq σ τ → WTN p S (fun x => x.1 = 0 ∧ ((x.2.2 x1.toNat : Nat) : Int) = x2) b σ τ → Q (.inl (some (.int (zI b)))) τ) : J ω m_H_can (d + 1) 1 6 0 0 0 [(0, .ref 1), (1, .int (zI x1)), (2, .int (zI x2))] [] σ Q := by
  obtain ⟨hp, hq, r12, r13, h14, hQ, h84, hX, h4, hn⟩ := hF
  have rr : ∀ {τ : q_H} {s' : Nat}, IS p s0 s' σ τ → q_r τ 1 2 = p ∧ q_r τ 1 3 = q := fun h => ⟨by rw [IS_r h]; exact r12, by rw [IS_r h]; exact r13⟩
  have v12 := hQ.2.1.1.2.1
  rw [h4] at v12
  obtain ⟨Pr, hPr⟩ : ∃ Pr : q_Sp → Prop, Pr = fun x => x.1 = 0 ∧ ((x.2.2 x1.toNat : Nat) : Int) = x2 := ⟨_, rfl⟩
  rw [← hPr] at kk
  refine b_H_can_0 (mc := 0) (ms := 0) hp r12 hq r13 hQ.1.1 (np_ok hQ.1.1 (by omega) (Or.inl ⟨rfl, ?_⟩))
  by_cases c1 : 0 ≤ x1 ∧ x1 < (V : Int)
  rotate_left
  · exact t_H_can_4 (by omega) hp r12 hq r13 hQ.1.1 r1 hn (by rw [h4]; exact c1) (kx c1)
  refine b_H_can_4 (mc := 0) (ms := 0) hp r12 hq r13 hQ.1.1 (nv_ok hp r12 hQ.1.1 r1 c1.1 (by omega) (Or.inl ⟨rfl, ?_⟩))
  replace kk := kk c1.1 c1.2
  refine b_H_can_9 (mc := 0) (ms := 0) hp r12 hq r13 hQ.1.1 (i_open2 (R := fun _ => 0) (by omega) hp hQ h84 hX (fun τ hτ => ?_))
  have e48 : z τ 48 = z σ 48 := (IS_z hp hτ.1).2.2.2.2.1
  refine b_H_can_16 (mc := 0) (ms := 0) hp (rr hτ.1).1 hq (rr hτ.1).2 hτ.1.1.1.1 (i_demand2 (by omega) hp hτ (by decide) hτ.1.1.2.2.2.2.2.2.2.1 (fun ρ hρ => ?_))
  obtain ⟨a, ha⟩ : ∃ a : Nat, x1 = (a : Int) := ⟨x1.toNat, by omega⟩
  subst ha
  refine b_H_can_33 (mc := 0) (ms := 0) hp (rr hρ.1).1 hq (rr hρ.1).2 hρ.1.1.1.1 (i_demandWorth2 (v := a) (by omega) hp hρ (by decide) (by omega) r2 (fun κ rc' R' hκ hR' => ?_))
  refine b_H_can_42 (mc := 0) (ms := 0) hp (rr hκ.1).1 hq (rr hκ.1).2 hκ.1.1.1.1 (i_pose2 (by omega) hp hκ (fun π wc rq hP hr _ eg => ?_))
  refine b_H_can_49 (mc := 0) (ms := 0) hp (rr hP.1).1 hq (rr hP.1).2 hP.1.1.1.1 (i_lookW (Pr := Pr) (by omega) hp hP (by omega) (fun v cv => ?_) (fun ν k1 k2 k3 k4 => ?_))
  · have h3 := EN_at hp hP.1 hP.2.1 cv
    have D : (∀ i, i < 0 + 1 → lvb v (up (fun _ => 0) 0 (z τ 48 4) i) = true) ↔ lvb v (z σ 48 4) = true := by
      rw [e48]
      exact ⟨fun h => by have := h 0 (by decide); rw [up_s] at this; exact this, fun h i hi => by rw [show i = 0 by omega, up_s]; exact h⟩
    rw [hPr]
    refine (hR' v cv.1).trans ?_
    rw [D, h3.1]
    refine and_congr_right (fun he => ?_)
    rw [← h3.2.1 he (a : Int).toNat (by omega), Int.toNat_natCast]
    have := nV_lt (v := v) (f := fun j => z σ 62 (8 * a + j)) 8
    omega
  · have e := rr k1
    have fin : ∀ b : Int, WTN p S Pr b σ ν → J ω m_H_can (d + 1) 1 6 0 0 97 [] [.int (zI b)] ν Q := fun b hw => b_H_can_97 (mc := 0) (ms := 0) hp e.1 hq e.2 k1.1.1.1 (kk b ν _ k1 k2 k3 hw)
    refine b_H_can_56 (mc := 0) (ms := 0) hp e.1 hq e.2 k1.1.1.1 ?_
    rcases k4 with ⟨f5, no⟩ | ⟨f5, t, t1, t2, t3, t4, t5, t6, t7, t8⟩
    · have go : ∀ y : Int, inR y → J ω m_In_verdict d 0 0 0 0 0 [(0, .ref 47), (1, .int (zI y))] [] ν (q_ki (fun v τ => J ω m_H_can (d + 1) 1 6 0 0 97 [] [.int (zI v)] τ Q)) := fun y iy => i_verdict2 hp k1.1.1.1 k1.1.1.2.1 iy (Or.inl f5) (by rw [f5]; exact fin 0 (Or.inl ⟨rfl, f5, no⟩))
      have g0 := go 0 ⟨by decide, by decide⟩
      have g1 := go 1 ⟨by decide, by decide⟩
      exact ⟨fun _ => g0, fun _ => ⟨⟨by omega, by omega⟩, r2, fun _ => g0, fun _ => g1⟩⟩
    · have g1 : J ω m_In_verdict d 0 0 0 0 0 [(0, .ref 47), (1, .int (zI 1))] [] ν (q_ki (fun v τ => J ω m_H_can (d + 1) 1 6 0 0 97 [] [.int (zI v)] τ Q)) := i_verdict2 hp k1.1.1.1 k1.1.1.2.1 ⟨by decide, by decide⟩ (Or.inr ⟨f5, by decide⟩) (by rw [f5]; exact fin 1 (Or.inr ⟨rfl, f5, t, t1, t2, t3, t4⟩))
      have t2' := t2
      rw [hPr] at t2'
      refine ⟨fun c => absurd (t5.trans t2'.1) c, fun _ => ⟨⟨by omega, by omega⟩, r2, fun c => ?_, fun _ => g1⟩⟩
      rw [z88 t7 t8 (by omega)] at c
      exact absurd t2'.2 c
theorem h_least {x1 : Int} (hd : 9 ≤ d) (hF : FQ p q s0 s V WI S σ) (r1 : inR x1) (kx : ¬ (0 ≤ x1 ∧ x1 < (V : Int)) → Q (.inr (q_n σ + 1)) (q_add σ (5, 3))) (kk : 0 ≤ x1 → x1 < (V : Int) → ∀ b τ s', IS p s0 s' σ τ → EXq p s0 s' V WI S τ → MKq σ τ → EXT p S x1.toNat (z σ (p + 3) x1.toNat).toNat 0 b σ τ → Q (.inl (some (.int (zI b)))) τ) : J ω m_H_least (d + 1) 1 6 0 0 0 [(0, .ref 1), (1, .int (zI x1))] [] σ Q := by
  obtain ⟨hp, hq, r12, r13, h14, hQ, h84, hX, h4, hn⟩ := hF
  have rr : ∀ {τ : q_H} {s' : Nat}, IS p s0 s' σ τ → q_r τ 1 2 = p ∧ q_r τ 1 3 = q := fun h => ⟨by rw [IS_r h]; exact r12, by rw [IS_r h]; exact r13⟩
  have v12 := hQ.2.1.1.2.1
  rw [h4] at v12
  refine b_H_least_0 (mc := 0) (ms := 0) hp r12 hq r13 hQ.1.1 (np_ok hQ.1.1 (by omega) (Or.inl ⟨rfl, ?_⟩))
  by_cases c1 : 0 ≤ x1 ∧ x1 < (V : Int)
  rotate_left
  · exact t_H_least_4 (by omega) hp r12 hq r13 hQ.1.1 r1 hn (by rw [h4]; exact c1) (kx c1)
  refine b_H_least_4 (mc := 0) (ms := 0) hp r12 hq r13 hQ.1.1 (nv_ok hp r12 hQ.1.1 r1 c1.1 (by omega) (Or.inl ⟨rfl, ?_⟩))
  replace kk := kk c1.1 c1.2
  obtain ⟨a, ha⟩ : ∃ a : Nat, x1 = (a : Int) := ⟨x1.toNat, by omega⟩
  subst ha
  rw [Int.toNat_natCast] at kk
  have w4 := hQ.2.1.1.2.2.2 a (by omega)
  refine b_H_least_9 (mc := 0) (ms := 0) hp r12 hq r13 hQ.1.1 (i_extreme2 (v := a) (wn := (z σ (p + 3) a).toNat) (x2 := 0) hd hp hQ h84 hX (by omega) h4 (by omega) (by omega) (fun b τ k1 k2 k3 k4 => ?_))
  exact b_H_least_18 (mc := 0) (ms := 0) hp (rr k1).1 hq (rr k1).2 k1.1.1.1 (kk b τ _ k1 k2 k3 k4)
theorem h_greatest {x1 : Int} (hd : 9 ≤ d) (hF : FQ p q s0 s V WI S σ) (r1 : inR x1) (kx : ¬ (0 ≤ x1 ∧ x1 < (V : Int)) → Q (.inr (q_n σ + 1)) (q_add σ (5, 3))) (kk : 0 ≤ x1 → x1 < (V : Int) → ∀ b τ s', IS p s0 s' σ τ → EXq p s0 s' V WI S τ → MKq σ τ → EXT p S x1.toNat (z σ (p + 3) x1.toNat).toNat 1 b σ τ → Q (.inl (some (.int (zI b)))) τ) : J ω m_H_greatest (d + 1) 1 6 0 0 0 [(0, .ref 1), (1, .int (zI x1))] [] σ Q := by
  obtain ⟨hp, hq, r12, r13, h14, hQ, h84, hX, h4, hn⟩ := hF
  have rr : ∀ {τ : q_H} {s' : Nat}, IS p s0 s' σ τ → q_r τ 1 2 = p ∧ q_r τ 1 3 = q := fun h => ⟨by rw [IS_r h]; exact r12, by rw [IS_r h]; exact r13⟩
  have v12 := hQ.2.1.1.2.1
  rw [h4] at v12
  refine b_H_greatest_0 (mc := 0) (ms := 0) hp r12 hq r13 hQ.1.1 (np_ok hQ.1.1 (by omega) (Or.inl ⟨rfl, ?_⟩))
  by_cases c1 : 0 ≤ x1 ∧ x1 < (V : Int)
  rotate_left
  · exact t_H_greatest_4 (by omega) hp r12 hq r13 hQ.1.1 r1 hn (by rw [h4]; exact c1) (kx c1)
  refine b_H_greatest_4 (mc := 0) (ms := 0) hp r12 hq r13 hQ.1.1 (nv_ok hp r12 hQ.1.1 r1 c1.1 (by omega) (Or.inl ⟨rfl, ?_⟩))
  replace kk := kk c1.1 c1.2
  obtain ⟨a, ha⟩ : ∃ a : Nat, x1 = (a : Int) := ⟨x1.toNat, by omega⟩
  subst ha
  rw [Int.toNat_natCast] at kk
  have w4 := hQ.2.1.1.2.2.2 a (by omega)
  refine b_H_greatest_9 (mc := 0) (ms := 0) hp r12 hq r13 hQ.1.1 (i_extreme2 (v := a) (wn := (z σ (p + 3) a).toNat) (x2 := 1) hd hp hQ h84 hX (by omega) h4 (by omega) (by omega) (fun b τ k1 k2 k3 k4 => ?_))
  exact b_H_greatest_18 (mc := 0) (ms := 0) hp (rr k1).1 hq (rr k1).2 k1.1.1.1 (kk b τ _ k1 k2 k3 k4)
theorem h_ends (hd : 9 ≤ d) (hF : FQ p q s0 s V WI S σ) (kk : ∀ b τ s', IS p s0 s' σ τ → EXq p s0 s' V WI S τ → MKq σ τ → z τ 47 5 = 0 → b = ((min (cnE (fun t => decide ((rnT p S σ t).1 = 0)) (2 ^ smn (iW p σ) (iN p σ))) 20 : Nat) : Int) → Q (.inl (some (.int (zI b)))) τ) : J ω m_H_ends (d + 1) 1 6 0 0 0 [(0, .ref 1)] [] σ Q := by
  obtain ⟨hp, hq, r12, r13, h14, hQ, h84, hX, h4, hn⟩ := hF
  have rr : ∀ {τ : q_H} {s' : Nat}, IS p s0 s' σ τ → q_r τ 1 2 = p ∧ q_r τ 1 3 = q := fun h => ⟨by rw [IS_r h]; exact r12, by rw [IS_r h]; exact r13⟩
  refine b_H_ends_0 (mc := 0) (ms := 0) hp r12 hq r13 hQ.1.1 (np_ok hQ.1.1 (by omega) (Or.inl ⟨rfl, ?_⟩))
  refine b_H_ends_4 (mc := 0) (ms := 0) hp r12 hq r13 hQ.1.1 (i_tally2 hd hp hQ h84 hX (fun b τ k1 k2 k3 k4 k5 => ?_))
  exact b_H_ends_11 (mc := 0) (ms := 0) hp (rr k1).1 hq (rr k1).2 k1.1.1.1 (kk b τ _ k1 k2 k3 k4 k5)
end FcJ
