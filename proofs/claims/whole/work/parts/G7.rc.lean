/-! The reference builds: as the class -/
/-- the nodes of a PROGRAM: its steps, WORK w -/
def ND2 (Nt : Nat → q_It) (V s : Nat) (σ : q_H) (S : List q_St) (w : Nat) : Prop := ∃ ns : List Nat, (∀ y, y ∈ ns → y ≤ 4096) ∧ lnk (z σ (s + 4)) ns (z σ 94 45) ∧ NSs (fun m i l w => NS Nt V s σ 0 32 m i 0 l w) ns 0 S w
/-- behind a good build -/
def RG (u : Nat) (σ τ : q_H) (D : q_Ds) (w as : Nat) : Prop :=
  (z τ 94 0 = 0 ∧ z τ 94 2 = 0 ∧ z τ 94 31 = 1 ∧ z τ 94 30 = (w : Int) ∧ z τ 94 26 = (D.1.length : Int) ∧ z τ 94 27 = (D.2.1.length : Int) ∧ z τ 94 28 = (as : Int) ∧ z τ 94 29 = (bts D.1 : Int) ∧ z τ 94 62 = -1 ∧ z τ 94 63 = -1 ∧ z τ 94 55 = 0) ∧
  (∀ k, k ∉ KF ++ [0, 2, 26, 27, 28, 29, 30, 31, 45, 55, 62, 63] → z τ 94 k = z σ 94 k) ∧ (∀ j e, D.1[j]? = some e → z τ 106 j = (e.2 : Int)) ∧ (∀ j e, D.2.1[j]? = some e → z τ 107 j = (e.2 : Int)) ∧ (∀ j, j < 16 → z τ 126 j = 0) ∧ ∀ j, j < 16 → z τ 129 j = 0
section RcP
variable {ω : q_W} {d u s n : Nat} {Kk : Int → q_H → Prop} {D : q_Ds} {t : Nat} {C : Nat → Int64} {K : Nat → Int}
/-- the last loop -/
theorem r_tail {σ1 : q_H} {as : Int} (V1 : RV u s σ1) (e28 : z σ1 94 28 = as)
    (kk : ∀ ρ, RV u s ρ → fr [94, 106, 107, 126, 129] σ1 ρ → (∀ k, z ρ 94 k = if k = 55 then 0 else if k = 63 then -1 else if k = 62 then -1 else z σ1 94 k) → (∀ j, j < 16 → z ρ 106 j = z σ1 108 j ∧ z ρ 107 j = z σ1 109 j ∧ z ρ 126 j = 0 ∧ z ρ 129 j = 0) → Kk as ρ) :
    ∀ (m y : Nat) (π : q_H), y + m = 16 → fr [106, 107, 126, 129] σ1 π → (∀ j, j < y → z π 106 j = z σ1 108 j ∧ z π 107 j = z σ1 109 j ∧ z π 126 j = 0 ∧ z π 129 j = 0) → J ω m_M_build (d + 1) 0 0 0 0 133 [(0, .ref 94), (4, .int (zI (y : Int)))] [] π (q_ki Kk) := by
  have R0 : inR 0 := ⟨by decide, by decide⟩
  intro m
  induction m with
  | zero =>
    intro y π hy f hz
    obtain ⟨⟨⟨hs, q0, q1, q2, q3, q4, q5⟩, hE2⟩, ⟨hu, w0, w1, w2, w3, w4, w5⟩, -⟩ := RV_i V1 f.2.2.1 (fr_E f V1.1.2)
    have p94 : z π 94 = z σ1 94 := fr_zF f (by decide)
    refine b_M_build_133 hs q0 q1 q2 q3 q4 q5 hu w0 w1 w2 w3 w4 w5 hE2 ⟨⟨by omega, by omega⟩, fun _ => ?_, fun c => absurd c (by omega)⟩
    rw [show z π 94 28 = as by rw [p94]; exact e28]
    refine ⟨as, by rw [← e28]; exact z_R _ _ _, rfl, ?_⟩
    have Rm : inR (-1) := ⟨by decide, by decide⟩
    refine kk _ (RV_i V1 f.2.2.1 (zs_E (zs_E (zs_E hE2)))) (fr_s (fr_s (fr_s (fr_mono f (by simp)) (by simp)) (by simp)) (by simp)) (fun k => ?_) (fun j hj => ?_)
    · rw [z_if R0, z_if Rm, z_if Rm, p94]
      simp only [true_and]
    · rw [z_o (by decide), z_o (by decide), z_o (by decide), z_o (by decide), z_o (by decide), z_o (by decide), z_o (by decide), z_o (by decide), z_o (by decide), z_o (by decide), z_o (by decide), z_o (by decide)]
      exact hz j (by omega)
  | succ m ih =>
    intro y π hy f hz
    obtain ⟨⟨⟨hs, q0, q1, q2, q3, q4, q5⟩, hE2⟩, ⟨hu, w0, w1, w2, w3, w4, w5⟩, -⟩ := RV_i V1 f.2.2.1 (fr_E f V1.1.2)
    refine b_M_build_133 hs q0 q1 q2 q3 q4 q5 hu w0 w1 w2 w3 w4 w5 hE2 ⟨⟨by omega, by omega⟩, fun c => absurd c (by omega), fun _ => ⟨⟨by omega, by omega⟩, ?_⟩⟩
    have p8 : z π 108 = z σ1 108 := fr_zF f (by decide)
    have p9 : z π 109 = z σ1 109 := fr_zF f (by decide)
    rw [show (y : Int) + 1 = ((y + 1 : Nat) : Int) by omega, Int.toNat_natCast, p8, p9]
    refine ih (y + 1) _ (by omega) (fr_s (fr_s (fr_s (fr_s f (by simp)) (by simp)) (by simp)) (by simp)) (fun j hj => ?_)
    have e106 : z (zs (zs (zs (zs π 106 y (z σ1 108 y)) 107 y (z σ1 109 y)) 126 y 0) 129 y 0) 106 j = if j = y then z σ1 108 y else z π 106 j := by
      rw [z_o (by decide), z_o (by decide), z_o (by decide), z_if (z_R _ _ _)]; simp only [true_and]
    have e107 : z (zs (zs (zs (zs π 106 y (z σ1 108 y)) 107 y (z σ1 109 y)) 126 y 0) 129 y 0) 107 j = if j = y then z σ1 109 y else z π 107 j := by
      rw [z_o (by decide), z_o (by decide), z_if (z_R _ _ _), z_o (by decide)]; simp only [true_and]
    have e126 : z (zs (zs (zs (zs π 106 y (z σ1 108 y)) 107 y (z σ1 109 y)) 126 y 0) 129 y 0) 126 j = if j = y then 0 else z π 126 j := by
      rw [z_o (by decide), z_if R0, z_o (by decide), z_o (by decide)]; simp only [true_and]
    have e129 : z (zs (zs (zs (zs π 106 y (z σ1 108 y)) 107 y (z σ1 109 y)) 126 y 0) 129 y 0) 129 j = if j = y then 0 else z π 129 j := by
      rw [z_if R0, z_o (by decide), z_o (by decide), z_o (by decide)]; simp only [true_and]
    rw [e106, e107, e126, e129]
    by_cases c : j = y
    · rw [if_pos c, if_pos c, if_pos c, if_pos c, c]; exact ⟨rfl, rfl, rfl, rfl⟩
    · rw [if_neg c, if_neg c, if_neg c, if_neg c]; exact hz j (by omega)
/-- what is written when it is good -/
theorem r_put {τ : q_H} {a b c e g y : Int} (yR : inR y) (aR : inR a) (bR : inR b) (cR : inR c) (eR : inR e) (gR : inR g) : ∃ σ1, σ1 = zs (zs (zs (zs (zs (zs (zs (zs (zs τ 94 0 0) 94 2 0) 94 31 1) 94 45 y) 94 30 a) 94 26 b) 94 27 c) 94 28 e) 94 29 g ∧ fr [94] τ σ1 ∧ (∀ k, z σ1 94 k = if k = 29 then g else if k = 28 then e else if k = 27 then c else if k = 26 then b else if k = 30 then a else if k = 45 then y else if k = 31 then 1 else if k = 2 then 0 else if k = 0 then 0 else z τ 94 k) := by
  have R0 : inR 0 := ⟨by decide, by decide⟩
  have R1 : inR 1 := ⟨by decide, by decide⟩
  refine ⟨_, rfl, fr_s (fr_s (fr_s (fr_s (fr_s (fr_s (fr_s (fr_s (fr_s fr_refl (by simp)) (by simp)) (by simp)) (by simp)) (by simp)) (by simp)) (by simp)) (by simp)) (by simp), fun k => ?_⟩
  rw [z_if gR, z_if eR, z_if cR, z_if bR, z_if aR, z_if yR, z_if R1, z_if R0, z_if R0]
  simp only [true_and]
/-- from the WORK that was counted to the end -/
theorem r_good {Nt : Nat → q_It} {τ : q_H} {S : List q_St} {w as V : Nat} {ns : List Nat} {y2 : Int} {v : Int64} (hV : RV u s τ) (hw : w ≤ 1500) (hv : v.toInt = ((min w 1000000 : Nat) : Int)) (hr : DR D τ) (hp : DP K C t D) (h21 : z τ 94 21 = (as : Int)) (hns : ∀ y, y ∈ ns → y ≤ 4096) (hl : lnk (z τ (u + 4)) ns y2) (hN : NSs (fun m i l w => NS Nt V u τ 0 32 m i 0 l w) ns 0 S w) (yR : inR y2)
    (kk : ∀ ρ, RV u s ρ → fr [94, 106, 107, 126, 129] τ ρ → RG u τ ρ D w as → ND2 Nt V u ρ S w → Kk (as : Int) ρ) : J ω m_M_build (d + 1) 0 0 0 0 52 [(0, .ref 94), (1, .int (zI y2))] [.long v] τ (q_ki Kk) := by
  obtain ⟨⟨⟨hs, r0, r1, r2, r3, r4, r5⟩, hE⟩, ⟨hu, v0, v1, v2, v3, v4, v5⟩, ne⟩ := id hV
  have e15 : (1500 : Int64).toInt = 1500 := by decide
  have wm : min w 1000000 = w := by omega
  rw [wm] at hv
  have nv : ¬ v > 1500 := fun q => by
    have := Int64.lt_iff_toInt_lt.mp q
    rw [e15, hv] at this
    omega
  have zv : zL v = (w : Int) := by
    unfold zL
    rw [Int64.toInt_toInt32, hv]
    exact Int.bmod_eq_of_le (by omega) (by omega)
  obtain ⟨⟨h17, h18, h19, h20⟩, -, -, h108, h109⟩ := id hr
  have l12 := hp.1
  have v12 := hp.2.1
  have nu : ∀ o, (o = u ∨ o = u + 1 ∨ o = u + 2 ∨ o = u + 3 ∨ o = u + 4 ∨ o = u + 5) → o ∉ [94, 106, 107, 126, 129] := fun o ho => by
    clear kk hN hl hns hr hp l12 v12
    simp; omega
  refine b_M_build_52 hs r0 r1 r2 r3 r4 r5 hu v0 v1 v2 v3 v4 v5 hE ⟨fun _ => ?_, fun q => absurd q nv⟩
  rw [zv, h18, h19, h20, h21]
  obtain ⟨σ1, es, f1, x1⟩ := r_put (τ := τ) (a := (w : Int)) (b := (D.1.length : Int)) (c := (D.2.1.length : Int)) (e := (as : Int)) (g := (bts D.1 : Int)) yR ⟨by omega, by omega⟩ ⟨by omega, by omega⟩ ⟨by omega, by omega⟩ (by rw [← h21]; exact z_R _ _ _) ⟨by omega, by omega⟩
  rw [← es]
  clear es
  have V1 : RV u s σ1 := RV_i hV f1.2.2.1 (fr_E f1 hE)
  have e28 : z σ1 94 28 = (as : Int) := by rw [x1]; rfl
  refine r_tail V1 e28 (fun ρ hρ F2 x2 hc => ?_) 16 0 σ1 (by omega) fr_refl (fun j hj => absurd hj (by omega))
  have F3 : fr [94, 106, 107, 126, 129] τ ρ := fr_trans (fr_mono f1 (by simp)) F2
  have z8 : z σ1 108 = z τ 108 := fr_zF f1 (by decide)
  have z9 : z σ1 109 = z τ 109 := fr_zF f1 (by decide)
  have nn : ∀ o, (o = u ∨ o = u + 1 ∨ o = u + 2 ∨ o = u + 3 ∨ o = u + 4 ∨ o = u + 5) → z ρ o = z τ o := fun o ho => fr_zF F3 (nu o ho)
  refine kk ρ hρ F3 ⟨⟨?_, ?_, ?_, ?_, ?_, ?_, ?_, ?_, ?_, ?_, ?_⟩, fun k hk => ?_, fun j e q => ?_, fun j e q => ?_, fun j hj => (hc j hj).2.2.1, fun j hj => (hc j hj).2.2.2⟩ ⟨ns, hns, ?_, NSs_mono ns _ _ _ hN (fun m _ i l w q => NS_mono 32 m i 0 l w q (KM_eq nn m))⟩
  · rw [x2, x1]; rfl
  · rw [x2, x1]; rfl
  · rw [x2, x1]; rfl
  · rw [x2, x1]; rfl
  · rw [x2, x1]; rfl
  · rw [x2, x1]; rfl
  · rw [x2, x1]; rfl
  · rw [x2, x1]; rfl
  · rw [x2]; rfl
  · rw [x2]; rfl
  · rw [x2]; rfl
  · have hk' : k ≠ 55 ∧ k ≠ 63 ∧ k ≠ 62 ∧ k ≠ 29 ∧ k ≠ 28 ∧ k ≠ 27 ∧ k ≠ 26 ∧ k ≠ 30 ∧ k ≠ 45 ∧ k ≠ 31 ∧ k ≠ 2 ∧ k ≠ 0 := by
      unfold KF at hk
      simp at hk
      omega
    obtain ⟨c1, c2, c3, c4, c5, c6, c7, c8, c9, c10, c11, c12⟩ := hk'
    rw [x2, x1, if_neg c1, if_neg c2, if_neg c3, if_neg c4, if_neg c5, if_neg c6, if_neg c7, if_neg c8, if_neg c9, if_neg c10, if_neg c11, if_neg c12]
  · obtain ⟨lt, -⟩ := List.getElem?_eq_some_iff.mp q
    rw [(hc j (by omega)).1, z8]; exact h108 j e q
  · obtain ⟨lt, -⟩ := List.getElem?_eq_some_iff.mp q
    rw [(hc j (by omega)).2.1, z9]; exact h109 j e q
  · rw [nn (u + 4) (by omega), x2, x1]; exact hl
end RcP
