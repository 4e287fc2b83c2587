/-! The class reads DECLARATIONS as pD does -/
theorem app_get {α : Type} {l : List α} {a e : α} {j : Nat} (h : (l ++ [a])[j]? = some e) : (j < l.length ∧ l[j]? = some e) ∨ (j = l.length ∧ e = a) := by
  by_cases c : j < l.length
  · rw [List.getElem?_append_left c] at h; exact Or.inl ⟨c, h⟩
  · rw [List.getElem?_append_right (by omega)] at h
    by_cases c2 : j = l.length
    · subst c2
      rw [Nat.sub_self] at h
      exact Or.inr ⟨rfl, (Option.some.inj h).symm⟩
    · obtain ⟨k, hk⟩ : ∃ k, j - l.length = k + 1 := ⟨j - l.length - 1, by omega⟩
      rw [hk] at h
      cases h
section DqP
variable {ω : q_W} {d T p : Nat} {σ0 σ : q_H} {P : Nat → Int} {C : Nat → Int64} {t : Nat} {D : q_Ds}
theorem DQ_addI {y w : Nat} (hp : p = 16 ∨ p = 29) (h : DQ p P C t D σ) (hl : D.1.length ≤ 12) (hw : 1 ≤ w ∧ w ≤ 8) (hb : bts D.1 + w ≤ 12) : DQ p P C t (D.1 ++ [(y, w)], D.2.1, D.2.2) (zs (zs (zs (zt σ (p + 2) (z σ p 0).toNat (C y)) (p + 1) (z σ p 0).toNat (w : Int)) p 0 (z σ p 0 + 1)) p 1 (z σ p 1 + (w : Int))) := by
  obtain ⟨h2, h0, h4, h1, hi, hv, hF⟩ := h
  rw [h0, h1, Int.toNat_natCast]
  have o : ∀ a, a ≠ p → a ≠ p + 1 → z (zs (zs (zs (zt σ (p + 2) D.1.length (C y)) (p + 1) D.1.length (w : Int)) p 0 ((D.1.length : Int) + 1)) p 1 ((bts D.1 : Int) + (w : Int))) a = z σ a := fun a h g => by rw [z_oF h, z_oF h, z_oF g]; rfl
  have s : ∀ j, z (zs (zs (zs (zt σ (p + 2) D.1.length (C y)) (p + 1) D.1.length (w : Int)) p 0 ((D.1.length : Int) + 1)) p 1 ((bts D.1 : Int) + (w : Int))) p j = if j = 1 then (bts D.1 : Int) + (w : Int) else if j = 0 then (D.1.length : Int) + 1 else z σ p j := fun j => by
    rw [z_if ⟨by omega, by omega⟩, z_if ⟨by omega, by omega⟩, z_o (by omega), z_t]; simp
  have s1 : z (zs (zs (zs (zt σ (p + 2) D.1.length (C y)) (p + 1) D.1.length (w : Int)) p 0 ((D.1.length : Int) + 1)) p 1 ((bts D.1 : Int) + (w : Int))) (p + 1) = up (z σ (p + 1)) D.1.length (w : Int) := by
    rw [z_oF (by omega), z_oF (by omega), z_up ⟨by omega, by omega⟩]; rfl
  have l2 : q_l (zs (zs (zs (zt σ (p + 2) D.1.length (C y)) (p + 1) D.1.length (w : Int)) p 0 ((D.1.length : Int) + 1)) p 1 ((bts D.1 : Int) + (w : Int))) (p + 2) = q_row (q_l σ (p + 2)) D.1.length (C y) := q_row_s _ _ _
  have l4 : q_l (zs (zs (zs (zt σ (p + 2) D.1.length (C y)) (p + 1) D.1.length (w : Int)) p 0 ((D.1.length : Int) + 1)) p 1 ((bts D.1 : Int) + (w : Int))) (p + 4) = q_l σ (p + 4) := q_row_n _ _ (by omega)
  generalize zs (zs (zs (zt σ (p + 2) D.1.length (C y)) (p + 1) D.1.length (w : Int)) p 0 ((D.1.length : Int) + 1)) p 1 ((bts D.1 : Int) + (w : Int)) = π at *
  refine ⟨by rw [o 2 (by omega) (by omega)]; exact h2, ?_, by rw [s]; exact h4, ?_, fun j e q => ?_, fun j e q => ?_, by rw [s, s]; exact hF⟩
  · rw [s, if_neg (by decide), if_pos rfl]
    show _ = (((D.1 ++ [(y, w)]).length : Nat) : Int)
    rw [List.length_append]; rfl
  · rw [s, if_pos rfl]
    show _ = ((bts (D.1 ++ [(y, w)]) : Nat) : Int)
    rw [bts_app]; rfl
  · rw [s1, l2]
    rcases app_get q with ⟨a, b⟩ | ⟨a, b⟩
    · rw [up_n (by omega), q_row_n _ _ (by omega)]; exact hi j e b
    · subst a b; rw [up_s, q_row_s]; exact ⟨rfl, rfl⟩
  · rw [o (p + 3) (by omega) (by omega), l4]; exact hv j e q
theorem DQ_addV {y w : Nat} (hp : p = 16 ∨ p = 29) (h : DQ p P C t D σ) (hl : D.2.1.length < 12) (hw : 1 ≤ w ∧ w ≤ 8) : DQ p P C t (D.1, D.2.1 ++ [(y, w)], D.2.2) (zs (zs (zt σ (p + 4) (z σ p 4).toNat (C y)) (p + 3) (z σ p 4).toNat (w : Int)) p 4 (z σ p 4 + 1)) := by
  obtain ⟨h2, h0, h4, h1, hi, hv, hF⟩ := h
  rw [h4, Int.toNat_natCast]
  have o : ∀ a, a ≠ p → a ≠ p + 3 → z (zs (zs (zt σ (p + 4) D.2.1.length (C y)) (p + 3) D.2.1.length (w : Int)) p 4 ((D.2.1.length : Int) + 1)) a = z σ a := fun a h g => by rw [z_oF h, z_oF g]; rfl
  have s : ∀ j, z (zs (zs (zt σ (p + 4) D.2.1.length (C y)) (p + 3) D.2.1.length (w : Int)) p 4 ((D.2.1.length : Int) + 1)) p j = if j = 4 then (D.2.1.length : Int) + 1 else z σ p j := fun j => by
    rw [z_if ⟨by omega, by omega⟩, z_o (by omega), z_t]; simp
  have s3 : z (zs (zs (zt σ (p + 4) D.2.1.length (C y)) (p + 3) D.2.1.length (w : Int)) p 4 ((D.2.1.length : Int) + 1)) (p + 3) = up (z σ (p + 3)) D.2.1.length (w : Int) := by
    rw [z_oF (by omega), z_up ⟨by omega, by omega⟩]; rfl
  have l2 : q_l (zs (zs (zt σ (p + 4) D.2.1.length (C y)) (p + 3) D.2.1.length (w : Int)) p 4 ((D.2.1.length : Int) + 1)) (p + 4) = q_row (q_l σ (p + 4)) D.2.1.length (C y) := q_row_s _ _ _
  have l4 : q_l (zs (zs (zt σ (p + 4) D.2.1.length (C y)) (p + 3) D.2.1.length (w : Int)) p 4 ((D.2.1.length : Int) + 1)) (p + 2) = q_l σ (p + 2) := q_row_n _ _ (by omega)
  generalize zs (zs (zt σ (p + 4) D.2.1.length (C y)) (p + 3) D.2.1.length (w : Int)) p 4 ((D.2.1.length : Int) + 1) = π at *
  refine ⟨by rw [o 2 (by omega) (by omega)]; exact h2, by rw [s]; exact h0, ?_, by rw [s]; exact h1, fun j e q => ?_, fun j e q => ?_, by rw [s, s]; exact hF⟩
  · rw [s, if_pos rfl]
    show _ = (((D.2.1 ++ [(y, w)]).length : Nat) : Int)
    rw [List.length_append]; rfl
  · rw [o (p + 1) (by omega) (by omega), l4]; exact hi j e q
  · rw [s3, l2]
    rcases app_get q with ⟨a, b⟩ | ⟨a, b⟩
    · rw [up_n (by omega), q_row_n _ _ (by omega)]; exact hv j e b
    · subst a b; rw [up_s, q_row_s]; exact ⟨rfl, rfl⟩
theorem w_declaration {K : Int → q_H → Prop} (hd : 2 ≤ d) (hp : p = 16 ∨ p = 29) (hx : DX T p σ0 σ) (h : DQ p (z σ0 5) (q_l σ0 6) t D σ) (hk : z σ0 4 t = 39 ∨ z σ0 4 t = 40)
    (k0 : ∀ y τ, ((z σ0 4 (t + 1) ≠ 30 ∧ y = t + 1) ∨ (z σ0 4 (t + 1) = 30 ∧ ((z σ0 4 (t + 2) ≠ 33 ∧ y = t + 2) ∨ (z σ0 4 (t + 2) = 33 ∧ ((z σ0 4 (t + 3) ≠ 23 ∧ y = t + 3) ∨ (z σ0 4 (t + 3) = 23 ∧ z σ0 4 (t + 4) ≠ 32 ∧ y = t + 4)))))) → DX T p σ0 τ → z τ 2 8 = (y : Int) → K 0 τ)
    (k1 : z σ0 4 (t + 1) = 30 → z σ0 4 (t + 2) = 33 → z σ0 4 (t + 3) = 23 → z σ0 4 (t + 4) = 32 → ∀ τ, DX T p σ0 τ → DQ p (z σ0 5) (q_l σ0 6) (t + 5) (dAdd (z σ0 4) (fun i => zL (q_l σ0 6 i)) (q_l σ0 6) t D) τ → K 1 τ) : J ω m_Pa_declaration d 0 0 0 0 0 [(0, .ref 8)] [] σ (q_ki K) := by
  obtain ⟨d, rfl⟩ : ∃ k, d = k + 1 := ⟨d - 1, by omega⟩
  have keep : ∀ {τ : q_H}, DX T p σ0 τ → z τ 4 = z σ0 4 ∧ z τ 5 = z σ0 5 ∧ q_l τ 6 = q_l σ0 6 := fun {τ} ht => ⟨fr_zF ht.2.1 (by simp; omega), fr_zF ht.2.1 (by simp; omega), (ht.2.1.2.2.2 6 (by simp; omega)).2⟩
  have KTk := (keep hx).1 ▸ hx.1.2.1.2.2
  have hc := DX_c hx
  have e8 := h.1
  have tT : t < T := by
    have := (KTk t (by omega)).2.2.1
    omega
  have c2 := hx.1.2.1.2.1
  have T4 := hx.1.2.1.1
  -- behind the five TOKENS
  have g108 : z σ0 4 (t + 1) = 30 → z σ0 4 (t + 2) = 33 → z σ0 4 (t + 3) = 23 → z σ0 4 (t + 4) = 32 → ∀ (τ : q_H) (x1 : Int), x1 = (if z σ0 4 t = 39 then 1 else 0) → DX T p σ0 τ → DQ p (z σ0 5) (q_l σ0 6) (t + 5) D τ → J ω m_Pa_declaration (d + 1) 0 0 0 0 95 [(0, .ref 8), (1, .int (zI x1)), (2, .long (q_l σ0 6 (t + 1))), (4, .int (zI (z σ0 5 (t + 1)))), (5, .int (zI (zL (q_l σ0 6 (t + 3))))), (6, .int (zI (z σ0 5 (t + 3))))] [.int (zI 1)] τ (q_ki K) := fun t1 t2 t3 t4 τ x1 hx1 ht hq => by
    obtain ⟨⟨⟨hE, r0, r1⟩, -, w5, -⟩, -⟩ := id ht
    have w51 := w5.1
    have w52 := w5.2.1
    have q0 := hq.2.1
    have q4 := hq.2.2.1
    have q1 := hq.2.2.2.1
    have b12 := ht.2.2.2.2.1
    have fin := k1 t1 t2 t3 t4
    refine b_Pa_declaration_95 hp r0 r1 hE ⟨⟨by decide, by decide⟩, fun _ => f_find hp hE w5 ?_, fun c => absurd c (by decide)⟩
    have fd := DQ_fnd ht hq (t + 1)
    have fR := fnd_R (p := p) (σ := τ) (q_l σ0 6 (t + 1))
    generalize hfd : fnd p τ (q_l σ0 6 (t + 1)) = F at fd fR
    have Fi : inR F := by
      rcases fR with q | q | q
      · rw [q]; exact ⟨by decide, by decide⟩
      · exact ⟨by omega, by omega⟩
      · exact ⟨by omega, by omega⟩
    have note : ∀ (k : Int) (y : Nat) (pc : Nat) (hpc : ∀ π, DX T p σ0 π → K 1 π → J ω m_Pa_declaration (d + 1) 0 0 0 0 pc [] [] π (q_ki K)), k ≠ 0 → inR k → y = t + 1 ∨ y = t + 3 → dAdd (z σ0 4) (fun i => zL (q_l σ0 6 i)) (q_l σ0 6) t D = (D.1, D.2.1, D.2.2.or (some (k, y))) → J ω m_Pr_note d 0 0 0 0 0 [(0, .ref p), (1, .int (zI k)), (2, .int (zI (z σ0 5 y)))] [] τ (q_kv (fun τ => J ω m_Pa_declaration (d + 1) 0 0 0 0 pc [] [] τ (q_ki K))) := fun k y pc hpc hk0 kR hy he => by
      refine f_note hp hE (fun h9 => hpc τ ht (fin τ ht (by rw [he]; exact DQ_old hq h9))) (fun h9 => hpc _ (DX_note hp ht) (fin _ (DX_note hp ht) (by rw [he]; exact DQ_note hp hq h9 hk0 kR (z_R _ _ _))))
    have pc122 : ∀ π, DX T p σ0 π → K 1 π → J ω m_Pa_declaration (d + 1) 0 0 0 0 122 [] [] π (q_ki K) := fun π hπ hK => by
      obtain ⟨⟨⟨hE2, r02, r12⟩, -⟩, -⟩ := id hπ
      exact b_Pa_declaration_122 hp r02 r12 hE2 ⟨1, ⟨by decide, by decide⟩, rfl, hK⟩
    have pc148 : ∀ π, DX T p σ0 π → K 1 π → J ω m_Pa_declaration (d + 1) 0 0 0 0 148 [] [] π (q_ki K) := fun π hπ hK => by
      obtain ⟨⟨⟨hE2, r02, r12⟩, -⟩, -⟩ := id hπ
      exact b_Pa_declaration_148 hp r02 r12 hE2 ⟨1, ⟨by decide, by decide⟩, rfl, hK⟩
    have pc195 : ∀ π, DX T p σ0 π → K 1 π → J ω m_Pa_declaration (d + 1) 0 0 0 0 195 [] [] π (q_ki K) := fun π hπ hK => by
      obtain ⟨⟨⟨hE2, r02, r12⟩, -⟩, -⟩ := id hπ
      exact b_Pa_declaration_195 hp r02 r12 hE2 ⟨1, ⟨by decide, by decide⟩, rfl, hK⟩
    refine b_Pa_declaration_108 hp r0 r1 hE ⟨Fi, fun c => ?_, fun c => ?_⟩
    · have nd : ¬ (dupB (q_l σ0 6) D.1 (t + 1) || dupB (q_l σ0 6) D.2.1 (t + 1)) = true := by rw [fd.mp c]; decide
      have bad5 : (zL (q_l σ0 6 (t + 3)) < 1 ∨ 8 < zL (q_l σ0 6 (t + 3))) → J ω m_Pa_declaration (d + 1) 0 0 0 0 138 [(0, .ref 8), (6, .int (zI (z σ0 5 (t + 3))))] [] τ (q_ki K) := fun q => by
        refine b_Pa_declaration_138 hp r0 r1 hE (note 5 (t + 3) 148 pc148 (by decide) ⟨by decide, by decide⟩ (Or.inr rfl) ?_)
        unfold dAdd
        rw [if_neg nd, if_pos q]
      refine ⟨inR_of _, fun c1 => bad5 (Or.inl c1), fun c1 => ⟨fun c8 => ?_, fun c8 => bad5 (Or.inr c8)⟩⟩
      have nb : ¬ (zL (q_l σ0 6 (t + 3)) < 1 ∨ 8 < zL (q_l σ0 6 (t + 3))) := by omega
      obtain ⟨w, hw⟩ : ∃ w : Nat, zL (q_l σ0 6 (t + 3)) = (w : Int) := ⟨(zL (q_l σ0 6 (t + 3))).toNat, by omega⟩
      have hw' : (zL (q_l σ0 6 (t + 3))).toNat = w := by omega
      rw [hw]
      have dE : dAdd (z σ0 4) (fun i => zL (q_l σ0 6 i)) (q_l σ0 6) t D = if z σ0 4 t = 39 then (if 12 < bts D.1 + w then (D.1, D.2.1, D.2.2.or (some (6, t + 1))) else (D.1 ++ [(t + 1, w)], D.2.1, D.2.2)) else if 12 ≤ D.2.1.length then (D.1, D.2.1, D.2.2.or (some (6, t + 1))) else (D.1, D.2.1 ++ [(t + 1, w)], D.2.2) := by
        unfold dAdd
        dsimp only
        rw [if_neg nd, if_neg nb, hw']
      refine ⟨by rw [hx1]; split <;> exact ⟨by decide, by decide⟩, fun cv => ?_, fun ci => ?_⟩
      · have nk : ¬ z σ0 4 t = 39 := fun q => by rw [if_pos q] at hx1; omega
        rw [if_neg nk] at dE
        refine b_Pr_addVariable_0 hp hE ⟨fun c12 => ⟨⟨by omega, by omega⟩, 1, ⟨by decide, by decide⟩, rfl, ?_⟩, fun c12 => ⟨0, ⟨by decide, by decide⟩, rfl, ?_⟩⟩
        · have hπ := DX_addV (x1 := q_l σ0 6 (t + 1)) (x3 := (w : Int)) hp ht ⟨by omega, by omega⟩ c12
          have hqπ := DQ_addV (y := t + 1) (w := w) hp hq (by omega) ⟨by omega, by omega⟩
          obtain ⟨⟨⟨hE2, r02, r12⟩, -⟩, -⟩ := id hπ
          refine b_Pa_declaration_181 hp r02 r12 hE2 ⟨⟨by decide, by decide⟩, fun _ => ⟨1, ⟨by decide, by decide⟩, rfl, fin _ hπ ?_⟩, fun c => absurd c (by decide)⟩
          rw [dE, if_neg (by omega)]; exact hqπ
        · refine b_Pa_declaration_181 hp r0 r1 hE ⟨⟨by decide, by decide⟩, fun c => absurd rfl c, fun _ => note 6 (t + 1) 195 pc195 (by decide) ⟨by decide, by decide⟩ (Or.inl rfl) ?_⟩
          rw [dE, if_pos (by omega)]
      · have nk : z σ0 4 t = 39 := Decidable.byContradiction fun q => by rw [if_neg q] at hx1; exact ci hx1
        rw [if_pos nk] at dE
        refine b_Pr_addInput_0 hp hE ⟨⟨by omega, by omega⟩, fun c12 => ⟨⟨by omega, by omega⟩, 1, ⟨by decide, by decide⟩, rfl, ?_⟩, fun c12 => ⟨0, ⟨by decide, by decide⟩, rfl, ?_⟩⟩
        · have hπ := DX_addI (x1 := q_l σ0 6 (t + 1)) (x3 := (w : Int)) hp ht ⟨by omega, by omega⟩ c12
          have hqπ := DQ_addI (y := t + 1) (w := w) hp hq (by omega) ⟨by omega, by omega⟩ (by omega)
          obtain ⟨⟨⟨hE2, r02, r12⟩, -⟩, -⟩ := id hπ
          refine b_Pa_declaration_165 hp r02 r12 hE2 ⟨⟨by decide, by decide⟩, fun c => absurd c (by decide), fun _ => ⟨1, ⟨by decide, by decide⟩, rfl, fin _ hπ ?_⟩⟩
          rw [dE, if_neg (by omega)]; exact hqπ
        · refine b_Pa_declaration_165 hp r0 r1 hE ⟨⟨by decide, by decide⟩, fun _ => note 6 (t + 1) 195 pc195 (by decide) ⟨by decide, by decide⟩ (Or.inl rfl) ?_, fun c => absurd rfl c⟩
          rw [dE, if_pos (by omega)]
    · refine note 3 (t + 1) 122 pc122 (by decide) ⟨by decide, by decide⟩ (Or.inl rfl) ?_
      unfold dAdd
      rw [if_pos (by
        have : ¬ (dupB (q_l σ0 6) D.1 (t + 1) || dupB (q_l σ0 6) D.2.1 (t + 1)) = false := fun q => c (fd.mpr q)
        revert this
        cases (dupB (q_l σ0 6) D.1 (t + 1) || dupB (q_l σ0 6) D.2.1 (t + 1)) <;> simp)]
  have g17 : ∀ x1 : Int, x1 = (if z σ0 4 t = 39 then 1 else 0) → J ω m_Pa_declaration (d + 1) 0 0 0 0 17 [(0, .ref 8)] [.int (zI x1)] σ (q_ki K) := fun x1 hx1 => by
    obtain ⟨⟨⟨hE, r0, r1⟩, -⟩, -⟩ := id hx
    refine b_Pa_declaration_17 hp r0 r1 hE (b_Sc_advance_0 hE ?_)
    rw [c2, e8]
    refine ⟨⟨by omega, by omega⟩, fun q => absurd q (by omega), fun _ => ⟨rfl, ?_⟩⟩
    have ex : (t : Int) + 1 = ((t + 1 : Nat) : Int) := by omega
    rw [ex]
    have h1 := DX_28 (c := ((t + 1 : Nat) : Int)) hp hx (by omega) (by omega)
    have q1 : DQ p (z σ0 5) (q_l σ0 6) (t + 1) D (zs σ 2 8 ((t + 1 : Nat) : Int)) := DQ_t hp h (by omega)
    generalize zs σ 2 8 ((t + 1 : Nat) : Int) = τ1 at h1 q1
    obtain ⟨k4, k5, k6⟩ := keep h1
    have hc1 := DX_c h1
    obtain ⟨⟨⟨E1, r01, r11⟩, -⟩, -⟩ := id h1
    refine b_Pa_declaration_25 hp r01 r11 E1 ⟨⟨by omega, by omega⟩, ?_⟩
    rw [q1.1, Int.toNat_natCast, k5, k6]
    refine w_acc (by omega) hp h1 q1 ⟨by decide, by decide⟩ (fun c => b_Pa_declaration_48 hp r01 r11 E1 ⟨⟨by decide, by decide⟩, fun _ => ⟨0, ⟨by decide, by decide⟩, rfl, k0 (t + 1) τ1 (Or.inl ⟨by rw [← k4]; exact c, rfl⟩) h1 q1.1⟩, fun c => absurd rfl c⟩) (by decide) (fun t1 τ2 h2 q2 => ?_)
    rw [k4] at t1
    obtain ⟨k4', -, -⟩ := keep h2
    obtain ⟨⟨⟨E2, r02, r12⟩, -⟩, -⟩ := id h2
    refine b_Pa_declaration_48 hp r02 r12 E2 ⟨⟨by decide, by decide⟩, fun c => absurd c (by decide), fun _ => w_acc (by omega) hp h2 q2 ⟨by decide, by decide⟩ (fun c => b_Pa_declaration_57 hp r02 r12 E2 ⟨⟨by decide, by decide⟩, fun c => absurd rfl c, fun _ => ⟨0, ⟨by decide, by decide⟩, rfl, k0 (t + 2) τ2 (Or.inr ⟨t1, Or.inl ⟨by rw [← k4']; exact c, rfl⟩⟩) h2 q2.1⟩⟩) (by decide) (fun t2 τ3 h3 q3 => ?_)⟩
    rw [k4'] at t2
    obtain ⟨k4'', k5'', k6''⟩ := keep h3
    have hc3 := DX_c h3
    obtain ⟨⟨⟨E3, r03, r13⟩, -⟩, -⟩ := id h3
    refine b_Pa_declaration_57 hp r03 r13 E3 ⟨⟨by decide, by decide⟩, fun _ => ⟨⟨by omega, by omega⟩, ?_⟩, fun c => absurd c (by decide)⟩
    rw [q3.1, Int.toNat_natCast, k5'', k6'']
    refine w_acc (by omega) hp h3 q3 ⟨by decide, by decide⟩ (fun c => b_Pa_declaration_86 hp r03 r13 E3 ⟨⟨by decide, by decide⟩, fun _ => ⟨0, ⟨by decide, by decide⟩, rfl, k0 (t + 3) τ3 (Or.inr ⟨t1, Or.inr ⟨t2, Or.inl ⟨by rw [← k4'']; exact c, rfl⟩⟩⟩) h3 q3.1⟩, fun c => absurd rfl c⟩) (by decide) (fun t3 τ4 h4 q4 => ?_)
    rw [k4''] at t3
    obtain ⟨k4a, -, -⟩ := keep h4
    obtain ⟨⟨⟨E4, r04, r14⟩, -⟩, -⟩ := id h4
    refine b_Pa_declaration_86 hp r04 r14 E4 ⟨⟨by decide, by decide⟩, fun c => absurd c (by decide), fun _ => w_acc (by omega) hp h4 q4 ⟨by decide, by decide⟩ (fun c => b_Pa_declaration_95 hp r04 r14 E4 ⟨⟨by decide, by decide⟩, fun c => absurd rfl c, fun _ => ⟨0, ⟨by decide, by decide⟩, rfl, k0 (t + 4) τ4 (Or.inr ⟨t1, Or.inr ⟨t2, Or.inr ⟨t3, by rw [← k4a]; exact c, rfl⟩⟩⟩) h4 q4.1⟩⟩) (by decide) (fun t4 τ5 h5 q5 => ?_)⟩
    rw [k4a] at t4
    exact g108 t1 t2 t3 t4 τ5 x1 hx1 h5 q5
  obtain ⟨⟨⟨hE, r0, r1⟩, -⟩, -⟩ := id hx
  refine b_Pa_declaration_0 hp r0 r1 hE ?_
  rw [e8, Int.toNat_natCast, (keep hx).1]
  exact ⟨⟨by omega, by omega⟩, fun c => g17 0 (by rw [if_neg c]), fun c => g17 1 (by rw [if_pos c])⟩
theorem w_declarations {K : Int → q_H → Prop} {r : Except Nat (Nat × q_Ds)} (hd : 3 ≤ d) (hp : p = 16 ∨ p = 29)
    (k0 : ∀ y, r = .error y → ∀ τ, DX T p σ0 τ → z τ 2 8 = (y : Int) → K 0 τ) (k1 : ∀ t' D', r = .ok (t', D') → ∀ τ, DX T p σ0 τ → DQ p (z σ0 5) (q_l σ0 6) t' D' τ → K 1 τ) :
    ∀ (n i t : Nat) (D : q_Ds) (σ : q_H), pD (z σ0 4) (fun i => zL (q_l σ0 6 i)) (q_l σ0 6) n t D = some r → DX T p σ0 σ → DQ p (z σ0 5) (q_l σ0 6) t D σ → i ≤ t → J ω m_Pa_declarations (d + 1) 0 0 0 0 4 [(0, .ref 8), (1, .int (zI 1)), (2, .int (zI (i : Int)))] [] σ (q_ki K) := by
  intro n
  induction n with
  | zero => intro i t D σ h; cases h
  | succ n ih =>
    intro i t D σ h hx hq hi
    have k4 : z σ 4 = z σ0 4 := fr_zF hx.2.1 (by simp; omega)
    have hc := DX_c hx
    have T4 := hx.1.2.1.1
    have e8 := hq.1
    obtain ⟨⟨⟨hE, r0, r1⟩, ⟨-, -, c3⟩, -⟩, -⟩ := id hx
    rw [pD_s] at h
    have nx : t < T → (z σ0 4 t = 39 ∨ z σ0 4 t = 40) → J ω m_Pa_declaration d 0 0 0 0 0 [(0, .ref 8)] [] σ (q_ki (fun v τ => J ω m_Pa_declarations (d + 1) 0 0 0 0 45 [(0, .ref 8), (2, .int (zI (i : Int)))] [.int (zI v)] τ (q_ki K))) := fun lt hk => by
      rw [if_pos hk] at h
      refine w_declaration (by omega) hp hx hq hk (fun y τ hy ht e => ?_) (fun t1 t2 t3 t4 τ ht hq2 => ?_)
      · have hr : r = .error y := by
          rcases hy with ⟨a, b⟩ | ⟨a, ⟨b, c⟩ | ⟨b, ⟨c, e⟩ | ⟨c, e, f⟩⟩⟩
          · rw [if_neg a] at h; rw [b]; exact (Option.some.inj h).symm
          · rw [if_pos a, if_neg b] at h; rw [c]; exact (Option.some.inj h).symm
          · rw [if_pos a, if_pos b, if_neg c] at h; rw [e]; exact (Option.some.inj h).symm
          · rw [if_pos a, if_pos b, if_pos c, if_neg e] at h; rw [f]; exact (Option.some.inj h).symm
        obtain ⟨⟨⟨hE2, r02, r12⟩, -⟩, -⟩ := id ht
        refine b_Pa_declarations_45 hp r02 r12 hE2 (b_Pa_declarations_4 hp r02 r12 hE2 ⟨⟨by omega, by omega⟩, fun _ => ⟨Or.inl rfl, 0, ⟨by decide, by decide⟩, rfl, k0 y hr τ ht e⟩, fun _ => ⟨⟨by decide, by decide⟩, fun _ => ⟨Or.inl rfl, 0, ⟨by decide, by decide⟩, rfl, k0 y hr τ ht e⟩, fun c => absurd rfl c⟩⟩)
      · rw [if_pos t1, if_pos t2, if_pos t3, if_pos t4] at h
        obtain ⟨⟨⟨hE2, r02, r12⟩, -⟩, -⟩ := id ht
        refine b_Pa_declarations_45 hp r02 r12 hE2 ?_
        rw [show (i : Int) + 1 = ((i + 1 : Nat) : Int) by omega]
        exact ih (i + 1) (t + 5) _ τ h ht hq2 (by omega)
    have lt : (z σ0 4 t = 39 ∨ z σ0 4 t = 40) → t < T := fun q => by
      have := (c3 t (by omega)).2.2.1
      rw [k4] at this
      omega
    have out : ¬ (z σ0 4 t = 39 ∨ z σ0 4 t = 40) → K 1 σ := fun q => by
      rw [if_neg q] at h
      exact k1 t D (Option.some.inj h).symm σ hx hq
    refine b_Pa_declarations_4 hp r0 r1 hE ?_
    rw [e8, Int.toNat_natCast, k4]
    refine ⟨⟨by omega, by omega⟩, fun c => ⟨Or.inr rfl, 1, ⟨by decide, by decide⟩, rfl, out (fun q => by have := lt q; omega)⟩, fun c => ⟨⟨by decide, by decide⟩, fun q => absurd q (by decide), fun _ => ⟨⟨by omega, by omega⟩, fun q => nx (lt (Or.inl q)) (Or.inl q), fun q1 => ⟨fun q => nx (lt (Or.inr q)) (Or.inr q), fun q2 => ⟨1, ⟨by decide, by decide⟩, rfl, out (fun q => q.elim q1 q2)⟩⟩⟩⟩⟩
end DqP
