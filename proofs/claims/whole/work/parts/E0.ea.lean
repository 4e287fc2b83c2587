/-! The reference works an EXPR out -/
def SZ (s : Nat) (So A Bc Cc Nx Wd I U : Nat → Int) (σ : q_H) : Prop := RQ s σ ∧ z σ s = So ∧ z σ (s + 1) = A ∧ z σ (s + 2) = Bc ∧ z σ (s + 3) = Cc ∧ z σ (s + 4) = Nx ∧ z σ (s + 5) = Wd ∧ z σ 125 = I ∧ z σ 128 = U
def SE (σ τ : q_H) : Prop := fr [94, 130] σ τ ∧ (∀ k, z τ 94 k = z σ 94 k) ∧ ∀ i : Nat, (i : Int) < z σ 94 65 → z τ 130 i = z σ 130 i
def nv (I : Nat → Int) (i : Nat) : Nat := (I i).toNat
def n16 (I : Nat → Int) : Prop := ∀ i, i < 16 → 0 ≤ I i
theorem zXor_n1 : ∀ x : Nat, x < 256 → zXor (x : Int) (-1) = -(x : Int) - 1 := by decide +kernel
theorem not_mod {x w : Nat} (h : x < 2 ^ w) : (-(x : Int) - 1) % ((2 ^ w : Nat) : Int) = ((2 ^ w - 1 - x : Nat) : Int) := by
  generalize 2 ^ w = M at h
  rw [show -(x : Int) - 1 = ((M - 1 - x : Nat) : Int) + (M : Int) * (-1) by omega, Int.add_mul_emod_self_left, Int.emod_eq_of_lt (by omega) (by omega)]
theorem le256 {x : Nat} {w : Int} (hw : 1 ≤ w ∧ w ≤ 8) (h : x < 2 ^ w.toNat) : x < 256 := Nat.lt_of_lt_of_le h (Nat.pow_le_pow_right (n := 2) (by decide) (show w.toNat ≤ 8 by omega))
section EaP
variable {ω : q_W} {s N : Nat} {So A Bc Cc Nx Wd I U : Nat → Int}
theorem SE_refl {σ : q_H} : SE σ σ := ⟨fr_refl, fun _ => rfl, fun _ _ => rfl⟩
theorem SE_trans {σ τ ρ : q_H} (h : SE σ τ) (g : SE τ ρ) : SE σ ρ := ⟨fr_trans h.1 g.1, fun k => (g.2.1 k).trans (h.2.1 k), fun i hi => (g.2.2 i (by rw [h.2.1]; exact hi)).trans (h.2.2 i hi)⟩
theorem SZ_f {σ τ : q_H} (h : SZ s So A Bc Cc Nx Wd I U σ) (g : fr [94, 130] σ τ) : SZ s So A Bc Cc Nx Wd I U τ := by
  obtain ⟨⟨⟨a, r⟩, hE⟩, h0, h1, h2, h3, h4, h5, hI, hU⟩ := h
  have nn : ∀ o, (o = s ∨ o = s + 1 ∨ o = s + 2 ∨ o = s + 3 ∨ o = s + 4 ∨ o = s + 5 ∨ o = 125 ∨ o = 128) → o ∉ [94, 130] := fun o ho => by simp; omega
  refine ⟨⟨⟨a, ?_⟩, fr_E g hE⟩, (fr_zF g (nn _ (by omega))).trans h0, (fr_zF g (nn _ (by omega))).trans h1, (fr_zF g (nn _ (by omega))).trans h2, (fr_zF g (nn _ (by omega))).trans h3, (fr_zF g (nn _ (by omega))).trans h4, (fr_zF g (nn _ (by omega))).trans h5, (fr_zF g (nn _ (by omega))).trans hI, (fr_zF g (nn _ (by omega))).trans hU⟩
  rw [fr_r g, fr_r g, fr_r g, fr_r g, fr_r g, fr_r g]
  exact r
/-- what is to be shown, for EXPRS of depth k -/
def VX (ω : q_W) (s N : Nat) (So A Bc Cc Nx Wd I U : Nat → Int) (k : Nat) : Prop := ∀ (σ : q_H) (n : Nat) (e : q_Ex) (d : Nat) (Kk : Int → q_H → Prop), SZ s So A Bc Cc Nx Wd I U σ → NE N So A Bc Cc Wd k n e → wI e.1 → vI (nv I) (nv U) e.1 → 0 ≤ z σ 94 65 → z σ 94 65 + e.1.length ≤ 8900 → 2 * k + 4 ≤ d → (∀ (v : Nat) (τ : q_H), SE σ τ → EV (nv I) (nv U) e.1 v → v < 2 ^ e.2.1.toNat → Kk (v : Int) τ) → J ω m_M_eval d 0 0 0 0 0 [(0, .ref 94), (1, .int (zI (n : Int)))] [] σ (q_ki Kk)
theorem e_other {k n d : Nat} {e : q_Ex} {σ : q_H} {Kk : Int → q_H → Prop} (wx : VX ω s N So A Bc Cc Nx Wd I U k) (hI : n16 I) (hU : n16 U) (hN : N ≤ 4097) (hb : SZ s So A Bc Cc Nx Wd I U σ) (h : NEb N So A Bc Cc Wd (NE N So A Bc Cc Wd k) n e) (hw : wI e.1) (hv : vI (nv I) (nv U) e.1) (h0 : 0 ≤ z σ 94 65) (h1 : z σ 94 65 + e.1.length ≤ 8900) (hd : 2 * k + 5 ≤ d) (kk : ∀ (v : Nat) (τ : q_H), SE σ τ → EV (nv I) (nv U) e.1 v → v < 2 ^ e.2.1.toNat → Kk (v : Int) τ) : J ω m_M_other d 0 0 0 0 0 [(0, .ref 94), (1, .int (zI (n : Int)))] [] σ (q_ki Kk) := by
  obtain ⟨d, rfl⟩ : ∃ k, d = k + 1 := ⟨d - 1, by omega⟩
  have ew := NEb_w h hw
  obtain ⟨⟨⟨hs, r0, r1, r2, r3, r4, r5⟩, hE⟩, z0, z1, z2, z3, z4, z5, zi, zu⟩ := id hb
  have ev := NEb_ev (I := nv I) (U := nv U) (fun n e q w v => NE_ev k n e q w v) h hw hv
  obtain ⟨hn, hwd, h⟩ := h
  refine b_M_other_0 hs r0 r1 r2 r3 r4 r5 hE ?_
  rw [Int.toNat_natCast, z0, z1, z2, z5, zi, zu]
  refine ⟨⟨by omega, by omega⟩, ?_⟩
  rcases h with ⟨a, b, c⟩ | ⟨a, b, c⟩ | ⟨u, n1, e1, hu, a, b, f, g⟩ | ⟨n1, n2, n3, e1, e2, e3, a, b, c, f, g1, g2, g3, g⟩
  · clear ev
    rw [a]
    refine ⟨fun q => absurd q (by decide), fun q => absurd q (by decide), fun q => absurd q (by decide), fun _ => ?_, fun q => absurd q (by decide), fun q => absurd rfl q.2.2.2.1⟩
    have e1 : e.1 = [(23, A n, e.2.1)] := by rw [c]
    have v1 := (hv (23, A n, e.2.1) (by rw [e1]; exact List.mem_singleton.mpr rfl)).1 rfl
    have := kk (A n).toNat σ SE_refl (by rw [e1]; exact EV_num) v1.2
    rw [show (((A n).toNat : Nat) : Int) = A n by omega] at this
    exact ⟨_, ⟨by omega, by omega⟩, rfl, this⟩
  · clear ev
    rw [a]
    have b' : 0 ≤ A n ∧ A n < 16 := by omega
    refine ⟨fun q => absurd q (by decide), fun q => absurd q (by decide), fun _ => ⟨fun q => ⟨b', ?_⟩, fun q => ⟨b', ?_⟩⟩, fun q => absurd q (by decide), fun q => absurd q (by decide), fun q => absurd rfl q.2.2.1⟩
    · rcases c with c | c
      · exact absurd c.1 q
      · have e1 : e.1 = [(25, A n, e.2.1)] := by rw [c.2]
        have v1 := (hv (25, A n, e.2.1) (by rw [e1]; exact List.mem_singleton.mpr rfl)).2.2 rfl
        have := kk (nv U (A n).toNat) σ SE_refl (by rw [e1]; exact EV_var) v1
        have p := hU (A n).toNat (by omega)
        have r := le256 ew v1
        unfold nv at this r
        rw [show (((U (A n).toNat).toNat : Nat) : Int) = U (A n).toNat by omega] at this
        exact ⟨U (A n).toNat, by rw [← zu]; exact z_R _ _ _, rfl, this⟩
    · rcases c with c | c
      · have e1 : e.1 = [(24, A n, e.2.1)] := by rw [c.2]
        have v1 := (hv (24, A n, e.2.1) (by rw [e1]; exact List.mem_singleton.mpr rfl)).2.1 rfl
        have := kk (nv I (A n).toNat) σ SE_refl (by rw [e1]; exact EV_inp) v1
        have p := hI (A n).toNat (by omega)
        have r := le256 ew v1
        unfold nv at this r
        rw [show (((I (A n).toNat).toNat : Nat) : Int) = I (A n).toNat by omega] at this
        exact ⟨I (A n).toNat, by rw [← zi]; exact z_R _ _ _, rfl, this⟩
      · exact absurd (c.1.symm.trans q) (by decide)
  · have cu : u = 19 ∨ u = 20 ∨ u = 21 := by omega
    subst g
    have w1 := (wI_app.mp hw).1
    have v1 := (vI_app.mp hv).1
    have b1 := NE_w k n1 e1 f w1
    have l1 : z σ 94 65 + e1.1.length ≤ 8900 := by
      have : (eU u e1).1.length = e1.1.length + 1 := by unfold eU; simp
      omega
    have ev2 : ∀ x, EV (nv I) (nv U) e1.1 x → EV (nv I) (nv U) (eU u e1).1 (op1 u (uW u e1.2.1).toNat x) := fun x hx => EV_one hx hu
    have lt2 : ∀ x, x < 2 ^ e1.2.1.toNat → op1 u (uW u e1.2.1).toNat x < 2 ^ (eU u e1).2.1.toNat := fun x hx => op1_lt b1 hx
    clear ev
    rcases cu with q | q | q <;> subst q
    · rw [a, b, show kmp 19 = 33 by decide]
      refine ⟨fun _ => ?_, fun q => absurd q (by decide), fun q => absurd q (by decide), fun q => absurd q (by decide), fun q => absurd q (by decide), fun q => absurd rfl q.1⟩
      refine wx σ n1 e1 d _ hb f w1 v1 h0 l1 (by omega) (fun x τ ht hx lx => ?_)
      have hb' := SZ_f hb ht.1
      obtain ⟨⟨⟨-, r0, r1, r2, r3, r4, r5⟩, hE⟩, -⟩ := id hb'
      have r := le256 b1 lx
      have K := kk _ τ ht (ev2 x hx) (lt2 x lx)
      refine b_M_other_154 hs r0 r1 r2 r3 r4 r5 hE ⟨⟨by omega, by omega⟩, fun c => ⟨0, ⟨by decide, by decide⟩, rfl, ?_⟩, fun c => ⟨1, ⟨by decide, by decide⟩, rfl, ?_⟩⟩
      · have : op1 19 (uW 19 e1.2.1).toNat x = 0 := by
          unfold op1 tru; rw [if_pos rfl, if_neg (by omega)]
        rw [this] at K; exact K
      · have : op1 19 (uW 19 e1.2.1).toNat x = 1 := by
          unfold op1 tru; rw [if_pos rfl, if_pos (by omega)]
        rw [this] at K; exact K
    · rw [a, b, hwd, show kmp 20 = 126 by decide]
      refine ⟨fun q => absurd q (by decide), fun _ => ?_, fun q => absurd q (by decide), fun q => absurd q (by decide), fun q => absurd q (by decide), fun q => absurd rfl q.2.1⟩
      refine wx σ n1 e1 d _ hb f w1 v1 h0 l1 (by omega) (fun x τ ht hx lx => ?_)
      have hb' := SZ_f hb ht.1
      obtain ⟨⟨⟨-, r0, r1, r2, r3, r4, r5⟩, hE⟩, -⟩ := id hb'
      have r := le256 b1 lx
      have K := kk _ τ ht (ev2 x hx) (lt2 x lx)
      have ee : (eU 20 e1).2.1 = ((e1.2.1.toNat : Nat) : Int) := by
        show uW 20 e1.2.1 = _
        unfold uW; rw [if_neg (by decide)]; omega
      rw [ee]
      have cv : zAnd (zXor (x : Int) (-1)) (zShl 1 ((e1.2.1.toNat : Nat) : Int) - 1) = ((op1 20 (uW 20 e1.2.1).toNat x : Nat) : Int) := by
        rw [zXor_n1 x r, cutN (by omega), not_mod lx]
        rfl
      refine b_M_other_173 hs r0 r1 r2 r3 r4 r5 hE ⟨⟨by omega, by omega⟩, zAnd (zXor (x : Int) (-1)) (zShl 1 ((e1.2.1.toNat : Nat) : Int) - 1), inR_of _, rfl, ?_⟩
      rw [cv]; exact K
    · rw [a, b, hwd, show kmp 21 = 278 by decide]
      refine ⟨fun q => absurd q (by decide), fun q => absurd q (by decide), fun q => absurd q (by decide), fun q => absurd q (by decide), fun q => absurd q (by decide), fun _ => ?_⟩
      refine wx σ n1 e1 d _ hb f w1 v1 h0 l1 (by omega) (fun x τ ht hx lx => ?_)
      have hb' := SZ_f hb ht.1
      obtain ⟨⟨⟨-, r0, r1, r2, r3, r4, r5⟩, hE⟩, -⟩ := id hb'
      have r := le256 b1 lx
      have K := kk _ τ ht (ev2 x hx) (lt2 x lx)
      have ee : (eU 21 e1).2.1 = ((e1.2.1.toNat : Nat) : Int) := by
        show uW 21 e1.2.1 = _
        unfold uW; rw [if_neg (by decide)]; omega
      rw [ee]
      have cv : zAnd (-(x : Int)) (zShl 1 ((e1.2.1.toNat : Nat) : Int) - 1) = ((op1 21 (uW 21 e1.2.1).toNat x : Nat) : Int) := by
        have q := sub_mod (x := 0) (y := x) (w := e1.2.1.toNat) (Nat.le_of_lt lx)
        rw [show ((0 : Nat) : Int) - (x : Int) = -(x : Int) by omega, Nat.zero_add] at q
        rw [cutN (by omega), q]
        rfl
      refine b_M_other_190 hs r0 r1 r2 r3 r4 r5 hE ⟨⟨by omega, by omega⟩, ⟨by omega, by omega⟩, zAnd (-(x : Int)) (zShl 1 ((e1.2.1.toNat : Nat) : Int) - 1), inR_of _, rfl, ?_⟩
      rw [cv]; exact K
  · subst g
    have w0 := wI_app.mp (wI_app.mp hw).1
    have v0 := vI_app.mp (vI_app.mp hv).1
    have w12 := wI_app.mp w0.1
    have v12 := vI_app.mp v0.1
    have b1 := NE_w k n1 e1 g1 w12.1
    have b2 := NE_w k n2 e2 g2 w12.2
    have b3 := NE_w k n3 e3 g3 w0.2
    have le : (eC e1 e2 e3).1.length = e1.1.length + e2.1.length + e3.1.length + 1 := by unfold eC; simp; omega
    obtain ⟨-, y, hy, ly⟩ := NE_ev (I := nv I) (U := nv U) k n2 e2 g2 w12.2 v12.2
    obtain ⟨-, c', hc, lc⟩ := NE_ev (I := nv I) (U := nv U) k n3 e3 g3 w0.2 v0.2
    clear ev
    rw [a, b]
    refine ⟨fun q => absurd q (by decide), fun q => absurd q (by decide), fun q => absurd q (by decide), fun q => absurd q (by decide), fun _ => ?_, fun q => absurd rfl q.2.2.2.2⟩
    refine wx σ n1 e1 d _ hb g1 w12.1 v12.1 h0 (by omega) (by omega) (fun x τ ht hx lx => ?_)
    have hb' := SZ_f hb ht.1
    obtain ⟨⟨⟨-, r0, r1, r2, r3, r4, r5⟩, hE⟩, -, -, z2', z3', -⟩ := id hb'
    have r := le256 b1 lx
    have et : ∀ v, v = (if x ≠ 0 then y else c') → EV (nv I) (nv U) (eC e1 e2 e3).1 v ∧ v < 2 ^ (eC e1 e2 e3).2.1.toNat := fun v hv => by
      subst hv
      refine ⟨EV_cho hx hy hc, ?_⟩
      show (if x ≠ 0 then y else c') < 2 ^ (max e2.2.1 e3.2.1).toNat
      split
      · exact Nat.lt_of_lt_of_le ly (Nat.pow_le_pow_right (by decide) (by omega))
      · exact Nat.lt_of_lt_of_le lc (Nat.pow_le_pow_right (by decide) (by omega))
    refine b_M_other_117 hs r0 r1 r2 r3 r4 r5 hE ?_
    rw [Int.toNat_natCast, z2', z3', c, f]
    refine ⟨⟨by omega, by omega⟩, fun q => ⟨⟨by omega, by omega⟩, ?_⟩, fun q => ⟨⟨by omega, by omega⟩, ?_⟩⟩
    · refine wx τ n3 e3 d _ hb' g3 w0.2 v0.2 (by rw [ht.2.1]; exact h0) (by rw [ht.2.1]; omega) (by omega) (fun v ρ hr hv' lv => ?_)
      have hb2 := SZ_f hb' hr.1
      obtain ⟨⟨⟨-, r0, r1, r2, r3, r4, r5⟩, hE⟩, -⟩ := id hb2
      have E := EV_fun hv' hc
      have t := et v (by rw [if_neg (by omega)]; exact E)
      have := le256 b3 lv
      exact b_M_other_143 hs r0 r1 r2 r3 r4 r5 hE ⟨_, ⟨by omega, by omega⟩, rfl, kk v ρ (SE_trans ht hr) t.1 t.2⟩
    · refine wx τ n2 e2 d _ hb' g2 w12.2 v12.2 (by rw [ht.2.1]; exact h0) (by rw [ht.2.1]; omega) (by omega) (fun v ρ hr hv' lv => ?_)
      have hb2 := SZ_f hb' hr.1
      obtain ⟨⟨⟨-, r0, r1, r2, r3, r4, r5⟩, hE⟩, -⟩ := id hb2
      have E := EV_fun hv' hy
      have t := et v (by rw [if_pos (by omega)]; exact E)
      have := le256 b2 lv
      exact b_M_other_130 hs r0 r1 r2 r3 r4 r5 hE ⟨_, ⟨by omega, by omega⟩, rfl, kk v ρ (SE_trans ht hr) t.1 t.2⟩
theorem l_eval {k d : Nat} {F : Int} {Kk : Int → q_H → Prop} (wx : VX ω s N So A Bc Cc Nx Wd I U k) (hI : n16 I) (hU : n16 U) (hN : N ≤ 4097) (hd : 2 * k + 5 ≤ d) (hF : inR F) : ∀ (m n : Nat) (e : q_Ex) (σ : q_H), NEs N So A Bc Cc Wd (NE N So A Bc Cc Wd k) m n e → SZ s So A Bc Cc Nx Wd I U σ → wI e.1 → vI (nv I) (nv U) e.1 → 0 ≤ z σ 94 65 → z σ 94 65 + e.1.length ≤ 8900 → F ≤ z σ 94 65 → (∀ (v : Nat) (τ : q_H), SE σ τ → EV (nv I) (nv U) e.1 v → v < 2 ^ e.2.1.toNat → J ω m_M_eval (d + 1) 0 0 0 0 52 [(0, .ref 94), (2, .int (zI F)), (4, .int (zI (v : Int)))] [] τ (q_ki Kk)) → J ω m_M_eval (d + 1) 0 0 0 0 7 [(0, .ref 94), (2, .int (zI F)), (3, .int (zI (n : Int)))] [] σ (q_ki Kk) := by
  intro m
  induction m with
  | zero =>
    intro n e σ h hb hw hv h0 h1 hf kk
    obtain ⟨⟨⟨hs, r0, r1, r2, r3, r4, r5⟩, hE⟩, z0, z1, z2, z3, z4, z5, zi, zu⟩ := id hb
    have hn : n < N := h.1
    obtain ⟨ku, hku, hsu, h00⟩ : ∃ ku : Int, (0 ≤ ku ∧ ku ≤ 47) ∧ z σ s n = kmp ku ∧ sgL ku = 0 := by
      rw [z0]
      obtain ⟨-, -, q | q | ⟨u, n1, e1, a, b, -⟩ | ⟨n1, n2, n3, e1, e2, e3, a, -⟩⟩ := id h
      · exact ⟨23, by decide, q.1.trans (by decide), by decide⟩
      · exact ⟨30, by decide, q.1.trans (by decide), by decide⟩
      · exact ⟨u, by omega, b, sgL_0.mpr (by omega)⟩
      · exact ⟨22, by decide, a.trans (by decide), by decide⟩
    refine b_M_eval_7 hs r0 r1 r2 r3 r4 r5 hE (k_isTwo (by omega) hb.1 (by omega) hku hsu (fun _ => ?_) (fun q => absurd h00 q))
    refine b_M_eval_12 hs r0 r1 r2 r3 r4 r5 hE ⟨⟨by decide, by decide⟩, fun _ => e_other wx hI hU hN hb h hw hv h0 h1 hd (fun v τ ht hv lv => ?_), fun q => absurd rfl q⟩
    obtain ⟨⟨⟨-, r0, r1, r2, r3, r4, r5⟩, hE⟩, -⟩ := SZ_f hb ht.1
    exact b_M_eval_50 hs r0 r1 r2 r3 r4 r5 hE (kk v τ ht hv lv)
  | succ m ih =>
    intro n e σ h hb hw hv h0 h1 hf kk
    obtain ⟨⟨⟨hs, r0, r1, r2, r3, r4, r5⟩, hE⟩, z0, z1, z2, z3, z4, z5, zi, zu⟩ := id hb
    obtain ⟨hn, hwd, u, n1, n2, e1, e2, hu, hsu, ha, hbb, g1, g2, ge⟩ := h
    obtain ⟨j, rfl⟩ : ∃ j : Nat, u = (j : Int) := ⟨u.toNat, by omega⟩
    obtain ⟨-, -, p3⟩ := kmp_pr j (by omega) (by omega)
    subst ge
    have w0 := wI_app.mp (wI_app.mp hw).1
    have v0 := vI_app.mp (vI_app.mp hv).1
    have b1 := NEs_w m n1 e1 g1 w0.1
    have b2 := NE_w k n2 e2 g2 w0.2
    have le : (eB (j : Int) e1 e2).1.length = e1.1.length + e2.1.length + 1 := by unfold eB; simp; omega
    have ew : 1 ≤ oW (j : Int) e1.2.1 e2.2.1 ∧ oW (j : Int) e1.2.1 e2.2.1 ≤ 8 := by
      unfold oW
      split
      · omega
      · split <;> omega
    obtain ⟨c, hc⟩ : ∃ c : Nat, z σ 94 65 = (c : Int) := ⟨(z σ 94 65).toNat, by omega⟩
    refine b_M_eval_7 hs r0 r1 r2 r3 r4 r5 hE (k_isTwo (by omega) hb.1 (by omega) (k := (j : Int)) ⟨by omega, by omega⟩ (by rw [z0]; exact hsu) (fun q => absurd q (by omega)) (fun _ => ?_))
    refine b_M_eval_12 hs r0 r1 r2 r3 r4 r5 hE ⟨⟨by decide, by decide⟩, fun q => absurd q (by decide), fun _ => ⟨⟨by omega, by omega⟩, ⟨by omega, by omega⟩, ?_⟩⟩
    rw [z1, Int.toNat_natCast, ha, hc, Int.toNat_natCast]
    have f1 : fr [94, 130] σ (zs (zs σ 130 c (n : Int)) 94 65 ((c : Int) + 1)) := fr_s (fr_s fr_refl (by simp)) (by simp)
    have x1 : ∀ k, z (zs (zs σ 130 c (n : Int)) 94 65 ((c : Int) + 1)) 94 k = if k = 65 then (c : Int) + 1 else z σ 94 k := fun k => by
      rw [z_if ⟨by omega, by omega⟩, z_o (by decide)]
      by_cases q : k = 65
      · rw [if_pos ⟨rfl, q⟩, if_pos q]
      · rw [if_neg (fun c => q c.2), if_neg q]
    have y1 : ∀ i, z (zs (zs σ 130 c (n : Int)) 94 65 ((c : Int) + 1)) 130 i = if i = c then (n : Int) else z σ 130 i := fun i => by
      rw [z_o (by decide), z_if ⟨by omega, by omega⟩]
      by_cases q : i = c
      · rw [if_pos ⟨rfl, q⟩, if_pos q]
      · rw [if_neg (fun c => q c.2), if_neg q]
    generalize zs (zs σ 130 c (n : Int)) 94 65 ((c : Int) + 1) = σ1 at f1 x1 y1
    have c1 : z σ1 94 65 = (c : Int) + 1 := by rw [x1, if_pos rfl]
    refine ih n1 e1 σ1 g1 (SZ_f hb f1) w0.1 v0.1 (by omega) (by omega) (by omega) (fun v1 τ ht hv1 lv1 => ?_)
    have hb1 := SZ_f (SZ_f hb f1) ht.1
    obtain ⟨⟨⟨-, r0, r1, r2, r3, r4, r5⟩, hE⟩, z0', z1', z2', z3', z4', z5', zi', zu'⟩ := id hb1
    have ct : z τ 94 65 = (c : Int) + 1 := by rw [ht.2.1, c1]
    have nt : z τ 130 c = (n : Int) := by rw [ht.2.2 c (by omega), y1, if_pos rfl]
    refine b_M_eval_52 hs r0 r1 r2 r3 r4 r5 hE ?_
    rw [ct, show (c : Int) + 1 - 1 = (c : Int) by omega, Int.toNat_natCast, nt, Int.toNat_natCast, z2', z5', z0', hbb, hwd, hsu]
    refine ⟨hF, fun q => absurd q (by omega), fun _ => ⟨⟨by omega, by omega⟩, ⟨by omega, by omega⟩, ?_⟩⟩
    have f2 : fr [94, 130] τ (zs τ 94 65 (c : Int)) := fr_s fr_refl (by simp)
    have x2 : ∀ k, z (zs τ 94 65 (c : Int)) 94 k = z σ 94 k := fun k => by
      rw [z_if ⟨by omega, by omega⟩]
      by_cases q : k = 65
      · rw [if_pos ⟨rfl, q⟩, q, hc]
      · rw [if_neg (fun c => q c.2), ht.2.1, x1, if_neg q]
    have y2 : ∀ i : Nat, (i : Int) < (c : Int) → z (zs τ 94 65 (c : Int)) 130 i = z σ 130 i := fun i hi => by
      rw [z_o (by decide), ht.2.2 i (by omega), y1, if_neg (by omega)]
    generalize zs τ 94 65 (c : Int) = σ2 at f2 x2 y2
    refine wx σ2 n2 e2 d _ (SZ_f hb1 f2) g2 w0.2 v0.2 (by rw [x2]; omega) (by rw [x2]; omega) (by omega) (fun v2 ρ hr hv2 lv2 => ?_)
    have hb2 := SZ_f (SZ_f hb1 f2) hr.1
    obtain ⟨⟨⟨-, r0, r1, r2, r3, r4, r5⟩, hE⟩, -⟩ := id hb2
    have sr : SE σ ρ := by
      refine ⟨fr_trans (fr_trans (fr_trans f1 ht.1) f2) hr.1, fun k => by rw [hr.2.1, x2], fun i hi => ?_⟩
      rw [hr.2.2 i (by rw [x2]; exact hi), y2 i (by omega)]
    have me : (eB (j : Int) e1 e2).2.1 = (((oW (j : Int) e1.2.1 e2.2.1).toNat : Nat) : Int) := by
      show oW (j : Int) e1.2.1 e2.2.1 = _
      omega
    rw [me]
    refine b_M_eval_108 hs r0 r1 r2 r3 r4 r5 hE (m_two (by omega) hE ⟨by omega, by omega⟩ ⟨by omega, by omega⟩ (le256 b1 lv1) (le256 b2 lv2) (fun q => ?_) ?_)
    · subst q
      have : oW ((15 : Nat) : Int) e1.2.1 e2.2.1 = max e1.2.1 e2.2.1 := by
        unfold oW
        rw [if_neg (by decide), if_neg (by decide)]
      rw [this]
      exact Nat.le_of_lt (Nat.lt_of_lt_of_le lv2 (Nat.pow_le_pow_right (by decide) (by omega)))
    · refine b_M_eval_111 hs r0 r1 r2 r3 r4 r5 hE (kk _ ρ sr (EV_two hv1 hv2 hu) (op2_lt b1 b2 hu lv1 lv2))
theorem k_eval (hI : n16 I) (hU : n16 U) (hN : N ≤ 4097) (k : Nat) : VX ω s N So A Bc Cc Nx Wd I U k := by
  induction k with
  | zero => intro σ n e d Kk _ h; exact False.elim h
  | succ k ih =>
    intro σ n e d Kk hb h hw hv h0 h1 hd kk
    obtain ⟨d, rfl⟩ : ∃ k, d = k + 1 := ⟨d - 1, by omega⟩
    obtain ⟨⟨⟨hs, r0, r1, r2, r3, r4, r5⟩, hE⟩, -⟩ := id hb
    have ew := NE_w (k + 1) n e h hw
    obtain ⟨m, h⟩ := h
    refine b_M_eval_0 hs r0 r1 r2 r3 r4 r5 hE (l_eval ih hI hU hN (by omega) (z_R _ _ _) m n e σ h hb hw hv h0 h1 (Int.le_refl _) (fun v τ ht hv lv => ?_))
    obtain ⟨⟨⟨-, r0, r1, r2, r3, r4, r5⟩, hE⟩, -⟩ := SZ_f hb ht.1
    have := le256 ew lv
    refine b_M_eval_52 hs r0 r1 r2 r3 r4 r5 hE ⟨z_R _ _ _, fun _ => ⟨_, ⟨by omega, by omega⟩, rfl, kk v τ ht hv lv⟩, fun q => absurd q ?_⟩
    rw [ht.2.1]; omega
end EaP
