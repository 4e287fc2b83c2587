/-! OVER A TREE: rows of steps, ways that part -/
section TdP
variable {ω : q_W} {d p V : Nat} {σ0 : q_H} {WI WU : Nat → Int} {S : List q_St} {K : q_H → Prop} {ka lam b x y T BUD : Nat}
theorem tt_nil {dp i lp as : Nat} : TCl ω d p V WI WU S σ0 K ka lam b x y T BUD true dp i lp as [] 0 as := by
  refine ⟨fun q => (by cases q), Nat.le_refl _, Nat.le_refl _, fun _ _ _ fm n s σ L dn ot hf hl h hpot hst kk => ?_⟩
  exact kk σ s L dn ot n h (ME_refl h.2.1) ⟨fun _ _ => rfl, fun _ _ => ⟨rfl, rfl, rfl⟩, fun _ _ => rfl, fun v cv => SM_nil⟩ ⟨false, fun _ => ⟨fun _ _ => rfl, fun _ => Nat.le_add_right _ _⟩, by rw [show false.toNat = 0 from rfl, Nat.mul_zero]; omega⟩ (by omega)
theorem t_block {dp i lp as w a1 : Nat} {l : List q_St} (hdp : dp ≤ 30) (h : TCl ω d p V WI WU S σ0 K ka lam b x y T BUD true (dp + 1) i lp as l w a1) : TCl ω d p V WI WU S σ0 K ka lam b x y T BUD false dp i lp as l w a1 := by
  obtain ⟨-, h2, h3, h4⟩ := h
  exact ⟨fun _ => hdp, h2, h3, fun hA hl h5 fm n s σ L dn ot hf hlp hE hpot hst kk => h4 hA hl h5 fm n s σ L dn ot (by omega) (by omega) hE hpot hst kk⟩
theorem TRL_tr {PR : (Nat → Int) → Prop} {fm i j k lp s1 s2 : Nat} {σ τ ρ : q_H} (e61 : z τ 61 = z σ 61) (hm : GM s1 s2 τ ρ) (h : TRL S WU PR fm i j lp σ τ s1) (g : TRL S WU anyR fm j k lp τ ρ s2) : TRL S WU PR fm i k lp σ ρ s2 := by
  obtain ⟨h1, h2, h3, h4⟩ := h
  obtain ⟨g1, g2, g3, g4⟩ := g
  refine ⟨fun q hq => (g1 q hq).trans (h1 q hq), fun q hq => ?_, fun q hq => (g3 q hq).trans (h3 q hq), fun v cv => ?_⟩
  · obtain ⟨a1, a2, a3⟩ := h2 q hq
    obtain ⟨b1, b2, b3⟩ := g2 q hq
    exact ⟨b1.trans a1, b2.trans a2, b3.trans a3⟩
  · have := g4 v cv
    rw [IvN_cg e61] at this
    exact SM_tr (h4 v (CSv_GM cv hm)) this
theorem PTc_tr {s s1 s2 : Nat} {L L1 L2 : q_Lr} {σ τ ρ : q_H} {dn dn1 dn2 : Nat → Bool} {ot ot1 ot2 kw1 kw2 c1 c2 : Nat} (h : PTc V lam b T s L σ dn ot s1 L1 τ dn1 ot1 kw1 c1) (g : PTc V lam b T s1 L1 τ dn1 ot1 s2 L2 ρ dn2 ot2 kw2 c2) : PTc V lam b T s L σ dn ot s2 L2 ρ dn2 ot2 (kw1 + kw2) (c1 + c2) := by
  obtain ⟨b1, h1, h2⟩ := h
  obtain ⟨b2, g1, g2⟩ := g
  refine ⟨b1 || b2, fun q => ?_, ?_⟩
  · obtain ⟨q1, q2⟩ := Bool.or_eq_false_iff.mp q
    obtain ⟨a1, a2⟩ := h1 q1
    obtain ⟨a3, a4⟩ := g1 q2
    exact ⟨fun j hj => (a3 j hj).trans (a1 j hj), fun v1 => by have := a2 v1; have := a4 v1; omega⟩
  · have : T * (b1 || b2).toNat ≤ T * b1.toNat + T * b2.toNat := by
      cases b1 <;> cases b2 <;> simp
    omega
theorem t_seq {dp i lp as w a1 w2 a2 : Nat} {l l2 : List q_St} (h : TCl ω d p V WI WU S σ0 K ka lam b x y T BUD true dp i lp as l w a1) (g : TCl ω d p V WI WU S σ0 K ka lam b x y T BUD false dp (i + l.length) lp a1 l2 w2 a2) : TCl ω d p V WI WU S σ0 K ka lam b x y T BUD true dp i lp as (l ++ l2) (w + w2) a2 := by
  obtain ⟨-, h2, h3, h4⟩ := h
  obtain ⟨-, g2, g3, g4⟩ := g
  refine ⟨fun q => (by cases q), by rw [wWs_app, List.length_append]; omega, by omega, fun hA hl h5 fm n s σ L dn ot hf hlp hE hpot hst kk => ?_⟩
  obtain ⟨A1, A2⟩ := At_app hA
  rw [List.length_append] at hl hst kk hpot
  rw [wWs_app] at hpot kk
  have ea := EB8_add (V := V) (L1 := l.length) (L2 := l2.length) (w1 := w) (w2 := w2)
  have m1 : ka * (w + w2) = ka * w + ka * w2 := Nat.mul_add _ _ _
  have m2 : x * (wWs l + wWs l2) = x * wWs l + x * wWs l2 := Nat.mul_add _ _ _
  have m3 : y * (l.length + l2.length) = y * l.length + y * l2.length := Nat.mul_add _ _ _
  rw [m1, m2, m3] at hpot kk
  refine h4 A1 (by omega) (by omega) fm n s σ L dn ot hf hlp hE (by omega) (by omega) (fun τ s1 L1 dn1 ot1 n1 e1 me1 tr1 pt1 b1 => ?_)
  have pt1' := pt1
  obtain ⟨c1, -, p1⟩ := pt1'
  refine g4 A2 (by omega) h5 fm n1 s1 τ L1 dn1 ot1 hf hlp e1 (by omega) (by omega) (fun ρ s2 L2 dn2 ot2 n2 e2 me2 tr2 pt2 b2 => ?_)
  rw [Nat.add_assoc]
  have t := TRL_tr (by rw [EI_61 e1, EI_61 hE]) me2.2.2 tr1 tr2
  rw [Nat.add_assoc] at t
  have pp := PTc_tr pt1 pt2
  refine kk ρ s2 L2 dn2 ot2 n2 e2 (ME_tr me1 me2) t ?_ (by omega)
  rw [show ka * w + ka * w2 + (x * wWs l + x * wWs l2) + (y * l.length + y * l2.length) = ka * w + x * wWs l + y * l.length + (ka * w2 + x * wWs l2 + y * l2.length) by omega]
  exact pp
/-- the VARIABLES where ways meet -/
theorem U_ite {σ τ ρ : q_H} {v : Nat → Bool} {t : Bool} {g : Nat → Int} (hg : ∀ j, j < 96 → g j = z σ 62 j) (h : ∀ j, j < 96 → lvb v (z ρ 62 j) = if t then lvb v (z τ 62 j) else lvb v (g j)) : UvN ρ v = if t then UvN τ v else UvN σ v := by
  funext k
  cases t with
  | true =>
    rw [if_pos rfl]
    unfold UvN
    by_cases c : k < 12
    · rw [if_pos c, if_pos c]
      exact nV_cg 8 (fun j hj => by have := h (8 * k + j) (by omega); simpa using this)
    · rw [if_neg c, if_neg c]
  | false =>
    rw [if_neg (by decide)]
    unfold UvN
    by_cases c : k < 12
    · rw [if_pos c, if_pos c]
      exact nV_cg 8 (fun j hj => by have := h (8 * k + j) (by omega); rw [hg _ (by omega)] at this; simpa using this)
    · rw [if_neg c, if_neg c]
end TdP
