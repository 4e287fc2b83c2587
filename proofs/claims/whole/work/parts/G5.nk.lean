/-! NAMES and NUMBERS of a TEXT: what their items keep to -/
theorem lwd_ok : ∀ j : Nat, j < 256 → (1 ≤ lwd (j : Int) ∧ lwd (j : Int) ≤ 8) ∧ j < 2 ^ (lwd (j : Int)).toNat := by decide +kernel
theorem cI_23 {WI WU : Nat → Int} {V : Nat} {v w : Int} (hw : 1 ≤ w ∧ w ≤ 8) (hv : 0 ≤ v ∧ v.toNat < 2 ^ w.toNat) : cI WI WU V (23, v, w) := ⟨hw, fun _ => hv, fun h => absurd (show (23 : Int) = 24 from h) (by decide), fun h => absurd (show (23 : Int) = 25 from h) (by decide)⟩
theorem cI_24 {WI WU : Nat → Int} {V j : Nat} {w : Int} (hw : 1 ≤ w ∧ w ≤ 8) (hj : j < 12) (e : w = WI j) : cI WI WU V (24, (j : Int), w) := ⟨hw, fun h => absurd (show (24 : Int) = 23 from h) (by decide), fun _ => ⟨⟨show (0 : Int) ≤ (j : Int) by omega, show (j : Int) < 12 by omega⟩, show w = WI (j : Int).toNat by rw [Int.toNat_natCast]; exact e⟩, fun h => absurd (show (24 : Int) = 25 from h) (by decide)⟩
theorem cI_25 {WI WU : Nat → Int} {V j : Nat} {w : Int} (hw : 1 ≤ w ∧ w ≤ 8) (hj : j < 12) (hV : j < V) (e : w = WU j) : cI WI WU V (25, (j : Int), w) := ⟨hw, fun h => absurd (show (25 : Int) = 23 from h) (by decide), fun h => absurd (show (25 : Int) = 24 from h) (by decide), fun _ => ⟨⟨show (0 : Int) ≤ (j : Int) by omega, show (j : Int) < 12 by omega⟩, show (j : Int) < (V : Int) by omega, show w = WU (j : Int).toNat by rw [Int.toNat_natCast]; exact e⟩⟩
section NkP
variable {T q : Nat} {σ : q_H} {D : q_Ds} {t0 : Nat}
theorem nm_ok {WI : Nat → Int} (hWI : ∀ j, j < D.1.length → WI j = z σ (q + 1) j) (kt : KT T σ) (dq : DQt q (q_l σ 6) D σ) (dp : DP (z σ 4) (q_l σ 6) t0 D) : ∀ t, t ≤ T → z σ 4 t = 23 ∨ z σ 4 t = 30 → (1 ≤ (nmI q σ t).2.2 ∧ (nmI q σ t).2.2 ≤ 8) ∧ (23 ≤ (nmI q σ t).1 ∧ (nmI q σ t).1 ≤ 25) ∧ cI WI (z σ (q + 3)) D.2.1.length (nmI q σ t) := fun t ht hk => by
  by_cases c : z σ 4 t = 23
  · have b := (kt.2.2 t ht).2.2.2 c
    have e : nmI q σ t = (23, zL (q_l σ 6 t), lwd (zL (q_l σ 6 t))) := by unfold nmI; rw [if_pos c]
    have w := lwd_ok (zL (q_l σ 6 t)).toNat (by omega)
    rw [show (((zL (q_l σ 6 t)).toNat : Nat) : Int) = zL (q_l σ 6 t) by omega] at w
    rw [e]
    exact ⟨w.1, ⟨show (23 : Int) ≤ 23 by decide, show (23 : Int) ≤ 25 by decide⟩, cI_23 w.1 ⟨b.1, w.2⟩⟩
  · have l12 := dp.1
    have v12 := dp.2.1
    rcases fnd_Dt dq dp t with ⟨f, -⟩ | ⟨j, e, g1, -, f⟩ | ⟨j, e, g1, -, f⟩
    · have e : nmI q σ t = (23, 0, 1) := by unfold nmI; rw [if_neg c, if_pos f]
      rw [e]
      exact ⟨⟨by decide, by decide⟩, ⟨by decide, by decide⟩, cI_23 ⟨by decide, by decide⟩ ⟨by decide, by decide⟩⟩
    · obtain ⟨lt, -⟩ := List.getElem?_eq_some_iff.mp g1
      have w := (dp.2.2.1 e (Or.inl (List.mem_of_getElem? g1))).1
      have x := (dq.2.2.2.1 j e g1).1
      have E : nmI q σ t = (24, (j : Int), z σ (q + 1) j) := by unfold nmI; rw [if_neg c, f, if_neg (by omega), if_pos (by omega), Int.toNat_natCast]
      rw [E]
      have wb : 1 ≤ z σ (q + 1) j ∧ z σ (q + 1) j ≤ 8 := by omega
      exact ⟨wb, ⟨show (23 : Int) ≤ 24 by decide, show (24 : Int) ≤ 25 by decide⟩, cI_24 wb (by omega) (by rw [hWI j lt])⟩
    · obtain ⟨lt, -⟩ := List.getElem?_eq_some_iff.mp g1
      have w := (dp.2.2.1 e (Or.inr (List.mem_of_getElem? g1))).1
      have x := (dq.2.2.2.2 j e g1).1
      have E : nmI q σ t = (25, (j : Int), z σ (q + 3) j) := by unfold nmI; rw [if_neg c, f, if_neg (by omega), if_neg (by omega), show (12 + (j : Int) - 12) = (j : Int) by omega, Int.toNat_natCast]
      rw [E]
      have wb : 1 ≤ z σ (q + 3) j ∧ z σ (q + 3) j ≤ 8 := by omega
      exact ⟨wb, ⟨show (23 : Int) ≤ 25 by decide, show (25 : Int) ≤ 25 by decide⟩, cI_25 wb (by omega) lt rfl⟩
theorem nm_25 {WI : Nat → Int} (dq : DQt q (q_l σ 6) D σ) (dp : DP (z σ 4) (q_l σ 6) t0 D) : ∀ t v w, nmI q σ t = (25, v, w) → cI WI (z σ (q + 3)) D.2.1.length (25, v, w) := fun t v w h => by
  have l12 := dp.1
  have v12 := dp.2.1
  have inj : ∀ {a b c a' b' c' : Int}, (a, b, c) = ((a', b', c') : q_It) → a = a' ∧ b = b' ∧ c = c' := fun {a b c a' b' c'} e => ⟨congrArg (·.1) e, congrArg (·.2.1) e, congrArg (·.2.2) e⟩
  unfold nmI at h
  split at h
  · have := (inj h).1; omega
  · split at h
    · have := (inj h).1; omega
    · split at h
      · have := (inj h).1; omega
      · next c1 c2 c3 =>
        obtain ⟨-, e2, e3⟩ := inj h
        rcases fnd_Dt dq dp t with ⟨f, -⟩ | ⟨j, e, g1, -, f⟩ | ⟨j, e, g1, -, f⟩
        · exact absurd f c2
        · obtain ⟨lt, -⟩ := List.getElem?_eq_some_iff.mp g1
          rw [f] at c3; omega
        · obtain ⟨lt, -⟩ := List.getElem?_eq_some_iff.mp g1
          have wd := (dp.2.2.1 e (Or.inr (List.mem_of_getElem? g1))).1
          have x := (dq.2.2.2.2 j e g1).1
          rw [f, show (12 + (j : Int) - 12) = (j : Int) by omega] at e2 e3
          rw [Int.toNat_natCast] at e3
          subst e2 e3
          exact cI_25 (by omega) (by omega) lt rfl
theorem cI_op {WI WU : Nat → Int} {V : Nat} : ∀ u w, 1 ≤ u ∧ u ≤ 22 → 1 ≤ w ∧ w ≤ 8 → cI WI WU V (u, 0, w) := fun u w hu hw =>
  ⟨hw, fun h => absurd (show u = 23 from h) (by omega), fun h => absurd (show u = 24 from h) (by omega), fun h => absurd (show u = 25 from h) (by omega)⟩
/-- what the steps of a TEXT keep to -/
theorem st_ok {WI : Nat → Int} {X : Nat → Nat → q_PR} {m t : Nat} {sm : q_Sm} {t'' : Nat} (hWI : ∀ j, j < D.1.length → WI j = z σ (q + 1) j) (kt : KT T σ) (hT : z σ 4 T = 46) (dq : DQt q (q_l σ 6) D σ) (dp : DP (z σ 4) (q_l σ 6) t0 D) (hX : XO X (z σ 4) (nmI q σ) (nmB q σ) T) (h2 : ∀ dp t, T < t → X dp t = .error t) (hS : pS X (z σ 4) (nmI q σ) (nmB q σ) D.2.1.length m (some ([], 0, none, 0)) 0 0 0 0 t = some (.ok (t'', sm))) : ∀ x, x ∈ sm.1 → gI (cI WI (z σ (q + 3)) D.2.1.length) x.2.2.2 ∧ (x.2.2.2 = [] ∨ ∃ e : q_Ex, e.1 = x.2.2.2 ∧ XG 400 e) := by
  have all := fun dd t t' e h => XO_all (Φ := cI WI (z σ (q + 3)) D.2.1.length) (K := z σ 4) (N := nmI q σ) (B := nmB q σ) (X := X) (T := T) (dp := dd) (t := t) (t' := t') (e := e) hT cI_op (nm_ok hWI kt dq dp) hX h2 h
  have := pS_gen (G := fun l => gI (cI WI (z σ (q + 3)) D.2.1.length) l ∧ (l = [] ∨ ∃ e : q_Ex, e.1 = l ∧ XG 400 e)) ⟨gI_nil, Or.inl rfl⟩ (fun dd t t' e h => ⟨(all dd t t' e h).2, Or.inr ⟨e, rfl, (all dd t t' e h).1⟩⟩) m (some ([], 0, none, 0)) 0 0 0 0 t t'' sm hS (fun a0 q => by cases q; exact fun x hx => by cases hx)
  exact this
theorem itF_len : ∀ (S : List q_St) (x : q_St), x ∈ S → x.2.2.2.length ≤ (itF S).length
  | [], x, h => by cases h
  | y :: S, x, h => by
    show _ ≤ (y.2.2.2 ++ itF S).length
    rw [List.length_append]
    rcases List.mem_cons.mp h with q | q
    · rw [q]; omega
    · have := itF_len S x q; omega
end NkP
/-- kinds that are read have a number in the reference -/
theorem kmp_tk {f : Nat → Int} {n s : Nat} : kmp (tkK f n s) ≠ 0 := by
  by_cases c : s < n
  · exact tkK_P (P := fun v => kmp v ≠ 0) c (by decide) (by decide) (by decide) (by decide)
  · unfold tkK; rw [if_neg c]; decide
