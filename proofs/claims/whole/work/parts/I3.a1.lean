/-! THE CALLS THAT ASK -/
theorem sl_o {ρ : q_H} {yy : Int64} {o : Nat} (h : o ≠ 132) : q_l (q_setl ρ 132 0 yy) o = q_l ρ o := q_row_n _ _ h
theorem ex_zI (a : Int32) : ∃ x : Int, inR x ∧ a = zI x := ⟨a.toInt, inR_of a, zI_of a⟩
/-- what a call of the reference comes to -/
def K0 (n : Nat) (b y : Int) (π : q_H) (v : Int) (τ : q_H) : Prop := q_E τ ∧ z τ 94 0 = y ∧ (y = 0 → v = b ∧ q_l τ 132 = q_l π 132) ∧ Inv n τ
theorem flp_le {x2 sg : Int} {wn a b : Nat} (hx : (x2 = 0 ∧ sg = 1) ∨ (x2 = 1 ∧ sg = -1)) (ha : a < 2 ^ wn) (hb : b < 2 ^ wn) : (flp x2 wn a ≤ flp x2 wn b ↔ sg * (a : Int) ≤ sg * (b : Int)) ∧ (flp x2 wn a < flp x2 wn b ↔ sg * (a : Int) < sg * (b : Int)) := by
  unfold flp
  generalize 2 ^ wn = M at ha hb ⊢
  rcases hx with ⟨e1, e2⟩ | ⟨e1, e2⟩
  · rw [if_pos e1, if_pos e1, e2]; omega
  · rw [if_neg (by omega), if_neg (by omega), e2]; omega
section AkP
variable {ω : q_W} {μ : q_M} {L : List (Nat × Value)} {n m p q s u w as s0 s1 s' : Nat} {D : q_Ds} {S : List q_St} {Nt : Nat → q_It} {σ ρ π τ : q_H} {b b' x y : Int} {P : q_H → Prop}
theorem end0 (h0 : q_l π 132 0 = (zI b).toInt64) (hP : ∀ τ, Inv n τ → P τ) (h : J ω μ 2000 0 0 0 0 0 L [] π (q_ki (K0 n b 0 π))) : J ω μ 2000 0 0 0 0 0 L [] π (fun r2 τ2 => ∃ bv : Int32, r2 = .inl (some (.int bv)) ∧ q_E τ2 ∧ q_i τ2 94 0 = 0 ∧ ((0 : Int32) = 0 → q_l τ2 132 0 = bv.toInt64) ∧ P τ2) := by
  refine j_mono (fun r τ hk => ?_) h
  obtain ⟨v, vR, e, k1, k2, k3, k4⟩ := hk
  obtain ⟨k3, k5⟩ := k3 rfl
  exact ⟨zI v, e, k1, by rw [q_of_z k2]; decide, fun _ => by rw [k5, h0, k3], hP τ k4⟩
theorem end2 (hP : ∀ τ, Inv n τ → P τ) (h : J ω μ 2000 0 0 0 0 0 L [] π (q_ki (K0 n b 2 π))) : J ω μ 2000 0 0 0 0 0 L [] π (fun r2 τ2 => ∃ bv : Int32, r2 = .inl (some (.int bv)) ∧ q_E τ2 ∧ q_i τ2 94 0 = 2 ∧ ((2 : Int32) = 0 → q_l τ2 132 0 = bv.toInt64) ∧ P τ2) := by
  refine j_mono (fun r τ hk => ?_) h
  obtain ⟨v, vR, e, k1, k2, k3, k4⟩ := hk
  exact ⟨zI v, e, k1, by rw [q_of_z k2]; decide, fun c => absurd c (by decide), hP τ k4⟩
theorem wr_x {ks : List (Nat × Int32)} {Q : q_R → q_H → Prop} (hE : q_E σ) (hk : ((3 : Nat), (2 : Int32)) ∈ ks) (h : Q (.inl (some (.int 2))) (q_add σ (5, 3))) : q_wr ks Q (.inr (q_n σ + 1)) (q_add σ (5, 3)) := ⟨q_E_ex hE, (q_exT (5, 3)).1, (3, 2), hk, (q_exT (5, 3)).2, h⟩
theorem wv_x {ks : List (Nat × Int32)} {Q : q_R → q_H → Prop} (hE : q_E σ) (hk : ((3 : Nat), (2 : Int32)) ∈ ks) (h : Q (.inl (some (.int 2))) (q_add σ (5, 3))) : q_wv ks Q (.inr (q_n σ + 1)) (q_add σ (5, 3)) := ⟨q_E_ex hE, (q_exT (5, 3)).1, (3, 2), hk, (q_exT (5, 3)).2, h⟩
theorem un_x (t : Nat × Nat) (hB : Bas n p q s u m σ) (hX : Ex1 p σ) : Inv (n + 1) (q_seti (q_add σ t) 94 0 1) := by
  have e : q_seti (q_add σ t) 94 0 1 = zs (q_add σ t) 94 0 1 := by
    unfold zs
    rw [show zI 1 = (1 : Int32) by decide]
  rw [e]
  exact Inv_x (t := t) hB hX (fr_s fr_refl (by simp)) (fun k hk => by rw [z_k hk, ex_z hB.1.1 _ (by decide)])
theorem ask_eq {Pr : q_Sp → Prop} (h : WTN p S Pr b σ ρ) (g : MWT p S Pr b' x σ) : b' = b ∧ ((z ρ 47 5 = 0 ∧ x = -1) ∨ (z ρ 47 5 = 1 ∧ ∃ t : Nat, x = (t : Int) ∧ t < 2 ^ smn (iW p σ) (iN p σ) ∧ ∀ i, i < iN p σ → z ρ 91 i = ((spr (iW p σ) (iN p σ) t i : Nat) : Int))) := by
  rcases h with ⟨h1, h2, h3⟩ | ⟨h1, h2, t, t1, t2, t3, t4⟩
  · rcases g with ⟨g1, g2, g3⟩ | ⟨g1, t, g2, g3, g4, g5⟩
    · exact ⟨by rw [h1, g1], Or.inl ⟨h2, g2⟩⟩
    · exact absurd g4 (h3 t)
  · rcases g with ⟨g1, g2, g3⟩ | ⟨g1, t', g2, g3, g4, g5⟩
    · exact absurd t2 (g3 t t1)
    · have e : t' = t := by
        rcases Nat.lt_trichotomy t' t with c | c | c
        · exact absurd g4 (t3 t' c)
        · exact c
        · exact absurd t2 (g5 t c)
      subst e
      exact ⟨by rw [h1, g1], Or.inr ⟨h2, t', g2, g3, t4⟩⟩
theorem ext_eq {v wn : Nat} {x2 sg : Int} (hx : (x2 = 0 ∧ sg = 1) ∨ (x2 = 1 ∧ sg = -1)) (hv : ∀ t, (rnT p S σ t).1 = 0 → (rnT p S σ t).2.2 v < 2 ^ wn) (h : EXT p S v wn x2 b σ ρ) (g : EXM p S v sg b' x σ (2 ^ smn (iW p σ) (iN p σ))) : b' = b ∧ ((z ρ 47 5 = 0 ∧ x = -1) ∨ (z ρ 47 5 = 1 ∧ ∃ t : Nat, x = (t : Int) ∧ t < 2 ^ smn (iW p σ) (iN p σ) ∧ ∀ i, i < iN p σ → z ρ 91 i = ((spr (iW p σ) (iN p σ) t i : Nat) : Int))) := by
  rcases h with ⟨h1, h2, h3⟩ | ⟨h2, t, t1, t2, t3, t4, t5, t6⟩
  · rcases g with ⟨g1, g2, g3⟩ | ⟨t, g2, g3, g4, g5, g6⟩
    · exact ⟨by rw [h1, g1], Or.inl ⟨h2, g2⟩⟩
    · exact absurd g4 (h3 t)
  · rcases g with ⟨g1, g2, g3⟩ | ⟨t', g2, g3, g4, g5, g6, g7⟩
    · exact absurd t2 (g3 t t1)
    · have e : t' = t := by
        have F1 := flp_le hx (hv t t2) (hv t' g4)
        have F2 := flp_le hx (hv t' g4) (hv t t2)
        rcases Nat.lt_trichotomy t' t with c | c | c
        · have a1 := F1.2.mp (t5 t' c g4)
          have a2 := g6 t t1 t2
          omega
        · exact c
        · have a1 := F1.1.mp (t4 t' g4)
          have a2 := g7 t c t2
          omega
      subst e
      exact ⟨by rw [t3, g5], Or.inr ⟨h2, t', g2, g3, t6⟩⟩
theorem MWT_z {Pr : q_Sp → Prop} (e : rnT p S π = rnT p S σ ∧ iW p π = iW p σ ∧ iN p π = iN p σ) (g : MWT p S Pr b x π) : MWT p S Pr b x σ := by
  unfold MWT at g ⊢
  rw [e.1, e.2.1, e.2.2] at g
  exact g
theorem EXM_z {v B : Nat} {sg : Int} (e : rnT p S π = rnT p S σ ∧ iW p π = iW p σ ∧ iN p π = iN p σ) (g : EXM p S v sg b x π B) : EXM p S v sg b x σ B := by
  unfold EXM at g ⊢
  rw [e.1] at g
  exact g
theorem FQ_of (hn5 : n ≤ 600) (hB : Bas n p q s u m σ) (hX : Ex1 p σ) (h14 : z σ 1 4 = 1) (hG : PGb p s D S w as s0 s1 Nt σ) : FQ p q s0 s1 D.2.1.length (wI6 D (z σ (p + 1))) S σ := by
  have hpq := hB.2.1.2.2
  have := hB.1.2
  exact ⟨by omega, by omega, hB.2.1.1, hB.2.1.2.1, h14, hG.2.1, hB.2.2.2.2.1, PGb_EX hG hX.1.1, hG.2.2.2.1.2.1.1, by omega⟩
theorem Bas_31 (hB : Bas n p q s u m σ) (h14 : z σ 1 4 = 1) : z σ 94 31 = 1 := by
  rcases hB.2.2.2.2.2.2.2.2.2.2 with ⟨a, -⟩ | ⟨-, b, -⟩
  · omega
  · exact b
/-- the reference finds its PROGRAM as it was -/
theorem RF_pi (hB : Bas n p q s u m σ) (hX : Ex1 p σ) (h14 : z σ 1 4 = 1) (hG : PGb p s D S w as s0 s1 Nt σ) (hIQ : QS p s0 s' ρ) (hIz : ∀ a, a ∉ SQ → a ∉ [42, 43, 44, 45, 46] → z ρ a = z σ a) (hIr : q_r ρ 94 = q_r σ 94) (hXq : EXq p s0 s' D.2.1.length (wI6 D (z σ (p + 1))) S ρ) (hE : q_E π) (er : ∀ o, o ≤ 132 → q_r π o = q_r ρ o) (ez : ∀ o, o ≤ 132 → z π o = z ρ o) : RF p s D.2.1.length (wI6 D (z π (p + 1))) Nt S w π ∧ (rnT p S π = rnT p S σ ∧ iW p π = iW p σ ∧ iN p π = iN p σ) := by
  have hpq := hB.2.1.2.2
  have hp : p = 16 ∨ p = 29 := by omega
  have hs := hB.2.2.2.2.2.2.2.1.1.1.1
  have e : ∀ a, a ≤ 132 → a ∉ SQ → a ∉ [42, 43, 44, 45, 46] → z π a = z σ a := fun a h1 ha hb => by rw [ez a h1]; exact hIz a ha hb
  have pz : ∀ o, p ≤ o → o ≤ p + 12 → z π o = z σ o := fun o a b => e o (by omega) (by unfold SQ; simp; omega) (by simp; omega)
  have e94 := e 94 (by decide) (by decide) (by decide)
  have hπ : PGb p s D S w as s0 s' Nt π := PGb_to hs hp hG (QS_cong hp hIQ hE (by rw [er 47 (by decide)]) (by rw [er 48 (by decide)]) (fun o a b => ez o (by omega)) (fun o a b => ez o (by omega))) (HI_z (fun o a b => ez o (by omega)) hXq.1) (by
      rw [ez (p + 3) (by omega)]
      exact ENs_cong hXq.2.1 (ez 48 (by decide)) (ez 51 (by decide)) (ez 52 (by decide)) (ez 53 (by decide)) (ez 54 (by decide)) (ez 61 (by decide)) (ez 62 (by decide)) (ez 63 (by decide))) pz (fun o ho => e o (by omega) (by unfold SQ; simp; omega) (by simp; omega)) (e 106 (by decide) (by decide) (by decide)) (e 107 (by decide) (by decide) (by decide)) (fun k _ => by rw [e94]) (by rw [e 126 (by decide) (by decide) (by decide), pz (p + 1) (by omega) (by omega)]; exact hG.2.2.2.2.2.2.2.2.1) (by rw [e94]; exact hG.2.2.2.2.2.2.2.2.2.1) (TBq_cg hG.2.2.2.2.2.2.2.2.2.2.2.2.2 (pz p (by omega) (by omega)) (pz (p + 1) (by omega) (by omega)) (pz (p + 3) (by omega) (by omega)) (by rw [e94]) (fun o ho => e o (by simp at ho; omega) (by unfold SQ; simp at ho ⊢; omega) (by simp at ho ⊢; omega)))
  have hV := RV_c (τ := π) hB.2.2.2.2.2.2.2.1 (by rw [er 94 (by decide)]; exact hIr) hE
  refine ⟨PGb_RF hπ hV.1 (by rw [e94]; exact hB.2.2.2.2.2.2.2.2.1) (by rw [e94]; exact Bas_31 hB h14) (by rw [e 125 (by decide) (by decide) (by decide)]; exact hX.1.2.1), rnT_z (pz p (by omega) (by omega)) (pz (p + 1) (by omega) (by omega)) (pz (p + 3) (by omega) (by omega)), iW_z (pz (p + 1) (by omega) (by omega)), iN_z (pz p (by omega) (by omega))⟩
theorem fin0 (hn5 : n ≤ 600) (hB : Bas n p q s u m σ) (hX : Ex1 p σ) (h14 : z σ 1 4 = 1) (hG : PGb p s D S w as s0 s1 Nt σ) (hI : IS p s0 s' σ ρ) (hXq : EXq p s0 s' D.2.1.length (wI6 D (z σ (p + 1))) S ρ) (hM : MKq σ ρ) {yy : Int64} (hQ : MQa p D.2.1.length S 0 x (q_setl ρ 132 0 yy) τ) (hw : b' = b ∧ ((z ρ 47 5 = 0 ∧ x = -1) ∨ (z ρ 47 5 = 1 ∧ ∃ t : Nat, x = (t : Int) ∧ t < 2 ^ smn (iW p σ) (iN p σ) ∧ ∀ i, i < iN p σ → z ρ 91 i = ((spr (iW p σ) (iN p σ) t i : Nat) : Int)))) : K0 (n + 1) b 0 (q_setl ρ 132 0 yy) b' τ := by
  have hE : q_E (q_setl ρ 132 0 yy) := q_E_l hI.1.1.1
  refine ⟨fr_E hQ.1 hE, hQ.2.2.1, fun _ => ⟨hw.1, (hQ.1.2.2.2 132 (by decide)).2⟩, Inv_q hB hX h14 hG hI.1 hI.2.1 hI.2.2.2 hXq hM ?_ hE (fun _ _ => rfl) (sl_o (by decide)) (fun _ _ => rfl) hQ hw.2⟩
  show q_n ρ ≤ _
  rw [hI.2.2.2.1]
  have := hB.1.2
  omega
theorem fin2 (hn5 : n ≤ 600) (hB : Bas n p q s u m σ) (hX : Ex1 p σ) (h14 : z σ 1 4 = 1) (hG : PGb p s D S w as s0 s1 Nt σ) (hQ : MQa p D.2.1.length S 2 (z (q_add σ (5, 3)) 94 62) (q_add σ (5, 3)) τ) : K0 (n + 1) 0 2 (q_add σ (5, 3)) 0 τ := by
  have E := hB.1.1
  have hE : q_E (q_add σ (5, 3)) := q_E_ex E
  refine ⟨fr_E hQ.1 hE, hQ.2.2.1, fun c => absurd c (by decide), Inv_q hB hX h14 hG hG.2.1 hB.2.2.2.2.1 fq_refl (PGb_EX hG hX.1.1) MKq_refl ?_ hE (fun o ho => ex_r E _ ho) (ex_l E _ (by decide)) (fun o ho => ex_z E _ ho) hQ ?_⟩
  · show q_n σ + 1 ≤ _
    have := hB.1.2
    omega
  · rw [ex_z E _ (by decide)]
    rcases hX.2.2.2.2.2 with a | ⟨a, t, c, d⟩
    · exact Or.inl a
    · refine Or.inr ⟨a, t, c, ?_, d⟩
      have w4 := (PGb_RWd hG).2.2.2.1
      have n4 := hG.2.2.2.1.2.2.1.2
      have eb : smn (iW p σ) (iN p σ) = bts D.1 := by omega
      have h62 := hG.2.2.2.2.2.2.2.2.2.1.2
      have ep : ((2 ^ bts D.1 : Nat) : Int) = (2 : Int) ^ bts D.1 := by simp
      rw [eb]
      omega
theorem RF_x (hB : Bas n p q s u m σ) (hX : Ex1 p σ) (h14 : z σ 1 4 = 1) (hG : PGb p s D S w as s0 s1 Nt σ) : RF p s D.2.1.length (wI6 D (z (q_add σ (5, 3)) (p + 1))) Nt S w (q_add σ (5, 3)) :=
  (RF_pi hB hX h14 hG hG.2.1 (fun _ _ _ => rfl) rfl (PGb_EX hG hX.1.1) (q_E_ex hB.1.1) (fun o ho => ex_r hB.1.1 _ ho) (fun o ho => ex_z hB.1.1 _ ho)).1
theorem RF_l {yy : Int64} (hB : Bas n p q s u m σ) (hX : Ex1 p σ) (h14 : z σ 1 4 = 1) (hG : PGb p s D S w as s0 s1 Nt σ) (hI : IS p s0 s' σ ρ) (hXq : EXq p s0 s' D.2.1.length (wI6 D (z σ (p + 1))) S ρ) : RF p s D.2.1.length (wI6 D (z (q_setl ρ 132 0 yy) (p + 1))) Nt S w (q_setl ρ 132 0 yy) ∧ (rnT p S (q_setl ρ 132 0 yy) = rnT p S σ ∧ iW p (q_setl ρ 132 0 yy) = iW p σ ∧ iN p (q_setl ρ 132 0 yy) = iN p σ) :=
  RF_pi hB hX h14 hG hI.1 (fun a ha _ => fq_z hI.2.2.2 ha) (funext fun k => frE_r hI.2.2.2 (by simp)) hXq (q_E_l hI.1.1.1) (fun _ _ => rfl) (fun _ _ => rfl)
theorem ok_fails (hn5 : n ≤ 600) (hB : Bas n p q s u m σ) (hX : Ex1 p σ) (hP : ∀ τ, Inv (n + 1) τ → P τ) : q_okI (fun Qx => J ω m_L_fails 2000 1 6 0 0 0 [(0, .ref 1), (1, .ref 132)] [] σ Qx) (fun τ Qx => J ω m_M_fails 2000 0 0 0 0 0 [(0, .ref 94)] [] τ Qx) P := by
  have hE := hB.1.1
  have bn := hB.1.2
  have hp : p = 16 ∨ p = 29 := by have := hB.2.1.2.2; omega
  rcases hB.2.2.2.2.2.2.2.2.2.2 with ⟨a, b, c⟩ | ⟨a, b, c⟩
  · exact tk_fails hE (by omega) (by rw [q_of_z a]; decide) (by rw [q_of_z b]; decide) (hP _ (un_x (5, 2) hB hX))
  obtain ⟨D, S, w, as, s0, s1, Nt, hG⟩ := PG_b.mp c
  have hF := FQ_of hn5 hB hX a hG
  refine c_L_fails (d := 1999) hE (h_fails (d := 1998) (by decide) hF (fun b ρ s' k1 k2 k3 k4 => ⟨k1.1.1.1, 0, rfl, q_E_l k1.1.1.1, ?_⟩))
  obtain ⟨R1, R2⟩ := RF_l (yy := (zI b).toInt64) hB hX a hG k1 k2
  exact end0 (b := b) q_sl_s hP (m_fails (by decide) hp R1 (fun b' x τ hM hw => fin0 hn5 hB hX a hG k1 k2 k3 hM (ask_eq k4 (MWT_z R2 hw))))
theorem ok_failsAt {a0 : Int32} (hn5 : n ≤ 600) (hB : Bas n p q s u m σ) (hX : Ex1 p σ) (hP : ∀ τ, Inv (n + 1) τ → P τ) : q_okI (fun Qx => J ω m_L_failsAt 2000 1 6 0 0 0 [(0, .ref 1), (1, .int a0), (2, .ref 132)] [] σ Qx) (fun τ Qx => J ω m_M_failsAt 2000 0 0 0 0 0 [(0, .ref 94), (1, .int a0)] [] τ Qx) P := by
  have hE := hB.1.1
  have bn := hB.1.2
  have hp : p = 16 ∨ p = 29 := by have := hB.2.1.2.2; omega
  rcases hB.2.2.2.2.2.2.2.2.2.2 with ⟨a, b, c⟩ | ⟨a, b, c⟩
  · exact tk_failsAt hE (by omega) (by rw [q_of_z a]; decide) (by rw [q_of_z b]; decide) (hP _ (un_x (5, 2) hB hX))
  obtain ⟨D, S, w, as, s0, s1, Nt, hG⟩ := PG_b.mp c
  have hF := FQ_of hn5 hB hX a hG
  obtain ⟨x1, r1, e1⟩ := ex_zI a0
  subst e1
  have n7 := hG.2.2.2.1.2.2.2.1
  have x94 : z (q_add σ (5, 3)) 94 28 = z σ p 7 := by rw [ex_z hE _ (by decide), n7.1, n7.2]
  refine c_L_failsAt (d := 1999) hE (h_failsAt (d := 1998) (by decide) hF r1 (fun c => wr_x hE (by simp) ⟨2, rfl, q_E_ex hE, ?_⟩) (fun c0 c1 b ρ s' k1 k2 k3 k4 => ⟨k1.1.1.1, 0, rfl, q_E_l k1.1.1.1, ?_⟩))
  · exact end2 (b := 0) hP (m_failsAt (by decide) hp (RF_x hB hX a hG) r1 (fun _ τ hM => fin2 hn5 hB hX a hG hM) (fun c0 c1 => absurd ⟨c0, by rw [← x94]; exact c1⟩ c))
  · obtain ⟨R1, R2⟩ := RF_l (yy := (zI b).toInt64) hB hX a hG k1 k2
    have l94 : z (q_setl ρ 132 0 (zI b).toInt64) 94 28 = z σ p 7 := by
      show z ρ 94 28 = _
      rw [fq_z k1.2.2.2 (show 94 ∉ SQ by decide), n7.1, n7.2]
    exact end0 (b := b) q_sl_s hP (m_failsAt (by decide) hp R1 r1 (fun c => absurd ⟨c0, by rw [l94]; exact c1⟩ c) (fun _ _ b' x τ hM hw => fin0 hn5 hB hX a hG k1 k2 k3 hM (ask_eq k4 (MWT_z R2 hw))))
theorem ok_differ {a0 a1 : Int32} (hn5 : n ≤ 600) (hB : Bas n p q s u m σ) (hX : Ex1 p σ) (hP : ∀ τ, Inv (n + 1) τ → P τ) : q_okI (fun Qx => J ω m_L_differ 2000 1 6 0 0 0 [(0, .ref 1), (1, .int a0), (2, .int a1), (3, .ref 132)] [] σ Qx) (fun τ Qx => J ω m_M_differ 2000 0 0 0 0 0 [(0, .ref 94), (1, .int a0), (2, .int a1)] [] τ Qx) P := by
  have hE := hB.1.1
  have bn := hB.1.2
  have hp : p = 16 ∨ p = 29 := by have := hB.2.1.2.2; omega
  rcases hB.2.2.2.2.2.2.2.2.2.2 with ⟨a, b, c⟩ | ⟨a, b, c⟩
  · exact tk_differ hE (by omega) (by rw [q_of_z a]; decide) (by rw [q_of_z b]; decide) (hP _ (un_x (5, 2) hB hX))
  obtain ⟨D, S, w, as, s0, s1, Nt, hG⟩ := PG_b.mp c
  have hF := FQ_of hn5 hB hX a hG
  obtain ⟨x1, r1, e1⟩ := ex_zI a0
  subst e1
  obtain ⟨x2, r2, e2⟩ := ex_zI a1
  subst e2
  refine c_L_differ (d := 1999) hE (h_differ (d := 1998) (by decide) hF r1 r2 (fun c => wr_x hE (by simp) ⟨2, rfl, q_E_ex hE, ?_⟩) (fun c0 c1 c2 c3 b ρ s' k1 k2 k3 k4 => ⟨k1.1.1.1, 0, rfl, q_E_l k1.1.1.1, ?_⟩))
  · exact end2 (b := 0) hP (m_differ (by decide) hp (RF_x hB hX a hG) r1 r2 (fun _ τ hM => fin2 hn5 hB hX a hG hM) (fun c0 c1 c2 c3 => absurd ⟨c0, c1, c2, c3⟩ c))
  · obtain ⟨R1, R2⟩ := RF_l (yy := (zI b).toInt64) hB hX a hG k1 k2
    exact end0 (b := b) q_sl_s hP (m_differ (by decide) hp R1 r1 r2 (fun c => absurd ⟨c0, c1, c2, c3⟩ c) (fun _ _ _ _ b' x τ hM hw => fin0 hn5 hB hX a hG k1 k2 k3 hM (ask_eq k4 (MWT_z R2 hw))))
theorem ok_can {a0 a1 : Int32} (hn5 : n ≤ 600) (hB : Bas n p q s u m σ) (hX : Ex1 p σ) (hP : ∀ τ, Inv (n + 1) τ → P τ) : q_okI (fun Qx => J ω m_L_can 2000 1 6 0 0 0 [(0, .ref 1), (1, .int a0), (2, .int a1), (3, .ref 132)] [] σ Qx) (fun τ Qx => J ω m_M_can 2000 0 0 0 0 0 [(0, .ref 94), (1, .int a0), (2, .int a1)] [] τ Qx) P := by
  have hE := hB.1.1
  have bn := hB.1.2
  have hp : p = 16 ∨ p = 29 := by have := hB.2.1.2.2; omega
  rcases hB.2.2.2.2.2.2.2.2.2.2 with ⟨a, b, c⟩ | ⟨a, b, c⟩
  · exact tk_can hE (by omega) (by rw [q_of_z a]; decide) (by rw [q_of_z b]; decide) (hP _ (un_x (5, 2) hB hX))
  obtain ⟨D, S, w, as, s0, s1, Nt, hG⟩ := PG_b.mp c
  have hF := FQ_of hn5 hB hX a hG
  obtain ⟨x1, r1, e1⟩ := ex_zI a0
  subst e1
  obtain ⟨x2, r2, e2⟩ := ex_zI a1
  subst e2
  refine c_L_can (d := 1999) hE (h_can (d := 1998) (by decide) hF r1 r2 (fun c => wr_x hE (by simp) ⟨2, rfl, q_E_ex hE, ?_⟩) (fun c0 c1 b ρ s' k1 k2 k3 k4 => ⟨k1.1.1.1, 0, rfl, q_E_l k1.1.1.1, ?_⟩))
  · exact end2 (b := 0) hP (m_can (by decide) hp (RF_x hB hX a hG) r1 r2 (fun _ τ hM => fin2 hn5 hB hX a hG hM) (fun c0 c1 => absurd ⟨c0, c1⟩ c))
  · obtain ⟨R1, R2⟩ := RF_l (yy := (zI b).toInt64) hB hX a hG k1 k2
    exact end0 (b := b) q_sl_s hP (m_can (by decide) hp R1 r1 r2 (fun c => absurd ⟨c0, c1⟩ c) (fun _ _ b' x τ hM hw => fin0 hn5 hB hX a hG k1 k2 k3 hM (ask_eq k4 (MWT_z R2 hw))))
theorem ok_least {a0 : Int32} (hn5 : n ≤ 600) (hB : Bas n p q s u m σ) (hX : Ex1 p σ) (hP : ∀ τ, Inv (n + 1) τ → P τ) : q_okI (fun Qx => J ω m_L_least 2000 1 6 0 0 0 [(0, .ref 1), (1, .int a0), (2, .ref 132)] [] σ Qx) (fun τ Qx => J ω m_M_least 2000 0 0 0 0 0 [(0, .ref 94), (1, .int a0)] [] τ Qx) P := by
  have hE := hB.1.1
  have bn := hB.1.2
  have hp : p = 16 ∨ p = 29 := by have := hB.2.1.2.2; omega
  rcases hB.2.2.2.2.2.2.2.2.2.2 with ⟨a, b, c⟩ | ⟨a, b, c⟩
  · exact tk_least hE (by omega) (by rw [q_of_z a]; decide) (by rw [q_of_z b]; decide) (hP _ (un_x (5, 2) hB hX))
  obtain ⟨D, S, w, as, s0, s1, Nt, hG⟩ := PG_b.mp c
  have hF := FQ_of hn5 hB hX a hG
  obtain ⟨x1, r1, e1⟩ := ex_zI a0
  subst e1
  refine c_L_least (d := 1999) hE (h_least (d := 1998) (by decide) hF r1 (fun c => wr_x hE (by simp) ⟨2, rfl, q_E_ex hE, ?_⟩) (fun c0 c1 b ρ s' k1 k2 k3 k4 => ⟨k1.1.1.1, 0, rfl, q_E_l k1.1.1.1, ?_⟩))
  · exact end2 (b := 0) hP (m_least (by decide) hp (RF_x hB hX a hG) r1 (fun _ τ hM => fin2 hn5 hB hX a hG hM) (fun c0 c1 => absurd ⟨c0, c1⟩ c))
  · obtain ⟨R1, R2⟩ := RF_l (yy := (zI b).toInt64) hB hX a hG k1 k2
    refine end0 (b := b) q_sl_s hP (m_least (by decide) hp R1 r1 (fun c => absurd ⟨c0, c1⟩ c) (fun _ _ b' x τ hM hw => fin0 hn5 hB hX a hG k1 k2 k3 hM (ext_eq (Or.inl ⟨rfl, rfl⟩) (fun t ht => ?_) k4 ?_)))
    · rcases (PGb_run hG (spr (iW p σ) (iN p σ) t)).1 with q | q
      · exact q.2.2 x1.toNat (by have := hG.1.2.1; omega)
      · have ht' : (runF S (z σ (p + 3)) (spr (iW p σ) (iN p σ) t)).1 = 0 := ht
        unfold vf at q; omega
    · rw [R2.2.1, R2.2.2] at hw
      exact EXM_z R2 hw
theorem ok_greatest {a0 : Int32} (hn5 : n ≤ 600) (hB : Bas n p q s u m σ) (hX : Ex1 p σ) (hP : ∀ τ, Inv (n + 1) τ → P τ) : q_okI (fun Qx => J ω m_L_greatest 2000 1 6 0 0 0 [(0, .ref 1), (1, .int a0), (2, .ref 132)] [] σ Qx) (fun τ Qx => J ω m_M_greatest 2000 0 0 0 0 0 [(0, .ref 94), (1, .int a0)] [] τ Qx) P := by
  have hE := hB.1.1
  have bn := hB.1.2
  have hp : p = 16 ∨ p = 29 := by have := hB.2.1.2.2; omega
  rcases hB.2.2.2.2.2.2.2.2.2.2 with ⟨a, b, c⟩ | ⟨a, b, c⟩
  · exact tk_greatest hE (by omega) (by rw [q_of_z a]; decide) (by rw [q_of_z b]; decide) (hP _ (un_x (5, 2) hB hX))
  obtain ⟨D, S, w, as, s0, s1, Nt, hG⟩ := PG_b.mp c
  have hF := FQ_of hn5 hB hX a hG
  obtain ⟨x1, r1, e1⟩ := ex_zI a0
  subst e1
  refine c_L_greatest (d := 1999) hE (h_greatest (d := 1998) (by decide) hF r1 (fun c => wr_x hE (by simp) ⟨2, rfl, q_E_ex hE, ?_⟩) (fun c0 c1 b ρ s' k1 k2 k3 k4 => ⟨k1.1.1.1, 0, rfl, q_E_l k1.1.1.1, ?_⟩))
  · exact end2 (b := 0) hP (m_greatest (by decide) hp (RF_x hB hX a hG) r1 (fun _ τ hM => fin2 hn5 hB hX a hG hM) (fun c0 c1 => absurd ⟨c0, c1⟩ c))
  · obtain ⟨R1, R2⟩ := RF_l (yy := (zI b).toInt64) hB hX a hG k1 k2
    refine end0 (b := b) q_sl_s hP (m_greatest (by decide) hp R1 r1 (fun c => absurd ⟨c0, c1⟩ c) (fun _ _ b' x τ hM hw => fin0 hn5 hB hX a hG k1 k2 k3 hM (ext_eq (Or.inr ⟨rfl, rfl⟩) (fun t ht => ?_) k4 ?_)))
    · rcases (PGb_run hG (spr (iW p σ) (iN p σ) t)).1 with q | q
      · exact q.2.2 x1.toNat (by have := hG.1.2.1; omega)
      · have ht' : (runF S (z σ (p + 3)) (spr (iW p σ) (iN p σ) t)).1 = 0 := ht
        unfold vf at q; omega
    · rw [R2.2.1, R2.2.2] at hw
      exact EXM_z R2 hw
theorem ok_ends (hn5 : n ≤ 600) (hB : Bas n p q s u m σ) (hX : Ex1 p σ) (hP : ∀ τ, Inv (n + 1) τ → P τ) : q_okI (fun Qx => J ω m_L_ends 2000 1 6 0 0 0 [(0, .ref 1), (1, .ref 132)] [] σ Qx) (fun τ Qx => J ω m_M_ends 2000 0 0 0 0 0 [(0, .ref 94)] [] τ Qx) P := by
  have hE := hB.1.1
  have bn := hB.1.2
  have hp : p = 16 ∨ p = 29 := by have := hB.2.1.2.2; omega
  rcases hB.2.2.2.2.2.2.2.2.2.2 with ⟨a, b, c⟩ | ⟨a, b, c⟩
  · exact tk_ends hE (by omega) (by rw [q_of_z a]; decide) (by rw [q_of_z b]; decide) (hP _ (un_x (5, 2) hB hX))
  obtain ⟨D, S, w, as, s0, s1, Nt, hG⟩ := PG_b.mp c
  have hF := FQ_of hn5 hB hX a hG
  refine c_L_ends (d := 1999) hE (h_ends (d := 1998) (by decide) hF (fun b ρ s' k1 k2 k3 k4 k5 => ⟨k1.1.1.1, 0, rfl, q_E_l k1.1.1.1, ?_⟩))
  obtain ⟨R1, R2⟩ := RF_l (yy := (zI b).toInt64) hB hX a hG k1 k2
  refine end0 (b := b) q_sl_s hP (m_ends (by decide) hp R1 (fun b' τ hM hw => fin0 hn5 hB hX a hG k1 k2 k3 hM ⟨?_, Or.inl ⟨k4, rfl⟩⟩))
  rw [R2.1, R2.2.1, R2.2.2] at hw
  rw [hw, k5]
end AkP
