/-! THE OTHER CALLS -/
theorem PG_126 {p s : Nat} {σ : q_H} (h : PG p s σ) : (∀ j, j < 16 → 0 ≤ z σ 126 j) ∧ ∀ j, j < iN p σ → z σ 126 j < 2 ^ (z σ (p + 1) j).toNat := by
  obtain ⟨D, S, w, as, s0, s1, Nt, hG⟩ := PG_b.mp h
  have L := (PGb_L hG).2.2.1
  have q := hG.2.2.2.2.2.2.2.2.1
  exact ⟨q.1, fun j hj => q.2 j (by omega)⟩
def KV (n : Nat) (y : Int) (τ : q_H) : Prop := q_E τ ∧ z τ 94 0 = y ∧ Inv n τ
theorem zAm {x : Int} {e : Nat} (he : e ≤ 8) : zAnd x (zShl 1 (e : Int) - 1) = x % ((2 ^ e : Nat) : Int) := by
  rw [zShl_1 e (by omega)]
  have p2 := Nat.two_pow_pos e
  have q : ((2 ^ e - 1 : Nat) : Int) = (2 : Int) ^ e - 1 := by
    have : ((2 ^ e : Nat) : Int) = (2 : Int) ^ e := by simp
    omega
  rw [← q]
  exact zAnd_mod (by omega)
section OtP
variable {ω : q_W} {μ : q_M} {L : List (Nat × Value)} {n m m' p q s u : Nat} {σ ρ π τ : q_H} {P : q_H → Prop}
theorem endV0 (hP : ∀ τ, Inv n τ → P τ) (h : J ω μ 2000 0 0 0 0 0 L [] π (q_kv (KV n 0))) : J ω μ 2000 0 0 0 0 0 L [] π (fun r2 τ2 => r2 = .inl none ∧ q_E τ2 ∧ q_i τ2 94 0 = 0 ∧ P τ2) := by
  refine j_mono (fun r τ hk => ?_) h
  obtain ⟨e, k1, k2, k4⟩ := hk
  exact ⟨e, k1, by rw [q_of_z k2]; decide, hP τ k4⟩
theorem endV2 (hP : ∀ τ, Inv n τ → P τ) (h : J ω μ 2000 0 0 0 0 0 L [] π (q_kv (KV n 2))) : J ω μ 2000 0 0 0 0 0 L [] π (fun r2 τ2 => r2 = .inl none ∧ q_E τ2 ∧ q_i τ2 94 0 = 2 ∧ P τ2) := by
  refine j_mono (fun r τ hk => ?_) h
  obtain ⟨e, k1, k2, k4⟩ := hk
  exact ⟨e, k1, by rw [q_of_z k2]; decide, hP τ k4⟩
/-- the PROGRAM stays, INPUTS and VALUES may change -/
theorem Inv_g (hB : Bas n p q s u m σ) (hE : q_E τ) (hn : q_n τ ≤ 132 + (n + 1)) (hr : ∀ o k, o = 1 ∨ o = 47 ∨ o = 48 ∨ o = 94 → q_r τ o k = q_r σ o k) (l7 : q_l τ 7 = q_l σ 7) (hz : ∀ o, o ≤ 132 → o ∉ [2, 3, 42, 43, 44, 45, 46, 94, 95, 125, 126, 127, 128, 129, 130] → z τ o = z σ o) (hk : ∀ k, k ∉ [0, 2, 61, 63] → z τ 94 k = z σ 94 k) (hTX : TXe m' τ) (h126 : PG p s σ → (∀ j, j < 16 → 0 ≤ z τ 126 j) ∧ ∀ j, j < iN p σ → z τ 126 j < 2 ^ (z σ (p + 1) j).toNat) (hX : Ex1 p τ) : Inv (n + 1) τ := by
  have hpq := hB.2.1.2.2
  have hp : p = 16 ∨ p = 29 := by omega
  have hs := hB.2.2.2.2.2.2.2.1.1.1.1
  have pz : ∀ o, p ≤ o → o ≤ p + 12 → z τ o = z σ o := fun o a b => hz o (by omega) (by simp; omega)
  have cz : ∀ o, 48 ≤ o → o ≤ 69 → z τ o = z σ o := fun o a b => hz o (by omega) (by simp; omega)
  refine ⟨p, q, s, u, m', Bas_to hB hE hn (hr 1 2 (by omega)) (hr 1 3 (by omega)) (funext fun k => hr 94 k (by omega)) l7 (fun o ho => hz o (by omega) (by simp; omega)) (fun g => by rw [hz 84 (by decide) (by decide)]; exact hB.2.2.2.2.1 g) (by rw [hz 47 (by decide) (by decide)]; exact hB.2.2.2.2.2.1) hTX (fun k h => hk k (by simp at h ⊢; omega)) ⟨fun _ h => ?_, fun _ h => ?_⟩, hX⟩
  · unfold PN at h ⊢
    rw [hk 26 (by decide), hk 27 (by decide), hk 28 (by decide), hk 30 (by decide), hk 62 (by decide), hz 47 (by decide) (by decide)]
    exact h
  · have h6 := h126 h
    obtain ⟨D, S, w, as, s0, s1, Nt, hG⟩ := PG_b.mp h
    have L := (PGb_L hG).2.2.1
    have p1 := pz (p + 1) (by omega) (by omega)
    have p3 := pz (p + 3) (by omega) (by omega)
    refine PG_b.mpr ⟨D, S, w, as, s0, s1, Nt, PGb_to hs hp hG (QS_cong hp hG.2.1 hE (hr 47 2 (by omega)) (hr 48 1 (by omega)) pz cz) (HI_z (fun o a b => cz o (by omega) (by omega)) hG.2.2.2.2.2.2.2.2.2.2.2.1) ?_ pz (fun o ho => hz o (by omega) (by simp; omega)) (hz 106 (by decide) (by decide)) (hz 107 (by decide) (by decide)) (fun k h => hk k (by simp at h ⊢; omega)) ⟨h6.1, fun j hj => by rw [p1]; exact h6.2 j (by omega)⟩ (by rw [hk 62 (by decide)]; exact hG.2.2.2.2.2.2.2.2.2.1) (TBq_cg hG.2.2.2.2.2.2.2.2.2.2.2.2.2 (pz p (by omega) (by omega)) p1 p3 (hk 55 (by decide)) (fun o ho => hz o (by simp at ho; omega) (by simp at ho ⊢; omega)))⟩
    rw [p3]
    exact ENs_cong hG.2.2.2.2.2.2.2.2.2.2.2.2.1 (cz 48 (by decide) (by decide)) (cz 51 (by decide) (by decide)) (cz 52 (by decide) (by decide)) (cz 53 (by decide) (by decide)) (cz 54 (by decide) (by decide)) (cz 61 (by decide) (by decide)) (cz 62 (by decide) (by decide)) (cz 63 (by decide) (by decide))
/-- nothing but the reference's words, and what lies in 127 -/
theorem Inv_r (hB : Bas n p q s u m σ) (hX : Ex1 p σ) (hE : q_E τ) (hn : q_n τ ≤ 132 + (n + 1)) (hr : ∀ o k, o ≤ 132 → q_r τ o k = q_r σ o k) (l7 : q_l τ 7 = q_l σ 7) (hz : ∀ o, o ≤ 132 → o ≠ 94 → o ≠ 127 → z τ o = z σ o) (hk : ∀ k, k ≠ 0 → z τ 94 k = z σ 94 k) : Inv (n + 1) τ := by
  have hpq := hB.2.1.2.2
  have hp : p = 16 ∨ p = 29 := by omega
  refine Inv_g hB hE hn (fun o k ho => hr o k (by omega)) l7 (fun o h1 h2 => hz o h1 (by simp at h2; omega) (by simp at h2; omega)) (fun k h => hk k (by simp at h; omega)) (TXe_z hB.2.2.2.2.2.2.1 (by rw [hz 2 (by decide) (by decide) (by decide)]) (hk 2 (by decide)) (hz 3 (by decide) (by decide) (by decide)) (hz 95 (by decide) (by decide) (by decide))) (fun h => by rw [hz 126 (by decide) (by decide) (by decide)]; exact PG_126 h) (Ex1_z hX hp (fun o ho => ?_) (fun k h => hk k (by rintro rfl; simp at h)))
  simp only [List.mem_cons, List.not_mem_nil, or_false] at ho
  exact hz o (by omega) (by omega) (by omega)
theorem Inv_l {yy : Int64} (hB : Bas n p q s u m σ) (hX : Ex1 p σ) {F : List Nat} (hF : ∀ a ∈ F, a = 94 ∨ a = 127) (f : fr F (q_setl σ 132 0 yy) τ) (hk : ∀ k, k ≠ 0 → z τ 94 k = z σ 94 k) : Inv (n + 1) τ := by
  refine Inv_r hB hX (fr_E f (q_E_l hB.1.1)) ?_ (fun o k _ => by rw [fr_r f]; rfl) ?_ (fun o _ h1 h2 => ?_) hk
  · rw [f.1]
    show q_n σ ≤ _
    have := hB.1.2
    omega
  · rw [(f.2.2.2 7 (fun c => by have := hF 7 c; omega)).2]
    exact sl_o (by decide)
  · rw [fr_zF f (fun c => by have := hF o c; omega)]; rfl
theorem ok_value {a0 : Int32} (hn5 : n ≤ 600) (hB : Bas n p q s u m σ) (hX : Ex1 p σ) (hP : ∀ τ, Inv (n + 1) τ → P τ) : q_okI (fun Qx => J ω m_L_value 2000 1 6 0 0 0 [(0, .ref 1), (1, .int a0), (2, .ref 132)] [] σ Qx) (fun τ Qx => J ω m_M_value 2000 0 0 0 0 0 [(0, .ref 94), (1, .int a0)] [] τ Qx) P := by
  have hE := hB.1.1
  have bn := hB.1.2
  have hpq := hB.2.1.2.2
  have hp : p = 16 ∨ p = 29 := by omega
  rcases hB.2.2.2.2.2.2.2.2.2.2 with ⟨a, b, c⟩ | ⟨a, b, c⟩
  · exact tk_value hE (by omega) (by rw [q_of_z a]; decide) (by rw [q_of_z b]; decide) (hP _ (un_x (5, 2) hB hX))
  obtain ⟨D, S, w, as, s0, s1, Nt, hG⟩ := PG_b.mp c
  obtain ⟨x1, r1, e1⟩ := ex_zI a0
  subst e1
  have hV := hG.1.2.1
  have n4 := hG.2.2.2.1.2.1
  have hR := hB.2.2.2.2.2.2.2.1.1
  refine c_L_value (d := 1999) hE (h_value (d := 1998) (by decide) hp (by omega) hB.2.1.1 hB.2.1.2.1 hE a n4.1 hV (by omega) r1 (fun c => wr_x hE (by simp) ⟨2, rfl, q_E_ex hE, ?_⟩) (fun c0 c1 => ⟨hE, 0, rfl, q_E_l hE, ?_⟩))
  · have Rx : RQ s (q_add σ (5, 3)) := (RV_c hB.2.2.2.2.2.2.2.1 (ex_r hE _ (by decide)) (q_E_ex hE)).1
    refine end2 (b := 0) hP (m_value (V := D.2.1.length) (by decide) Rx (by rw [ex_z hE _ (by decide)]; omega) (by rw [ex_z hE _ (by decide)]; exact n4.2) hV r1 (fun c0 c1 => absurd ⟨c0, c1⟩ c) (fun _ => ⟨zs_E (q_E_ex hE), z_s ⟨by decide, by decide⟩, fun c => absurd c (by decide), Inv_x hB hX (fr_s fr_refl (by simp)) (fun k hk => by rw [z_k hk, ex_z hE _ (by decide)])⟩))
  · refine end0 (b := z σ 44 x1.toNat) q_sl_s hP (m_value (V := D.2.1.length) (s := s) (by decide) ⟨hR.1, q_E_l hE⟩ (show z σ 94 31 ≠ 0 by omega) n4.2 hV r1 (fun _ _ => ⟨zs_E (q_E_l hE), z_s ⟨by decide, by decide⟩, fun _ => ⟨?_, rfl⟩, Inv_l hB hX (F := [94]) (by simp) (fr_s fr_refl (by simp)) (fun k hk => by rw [z_k hk]; rfl)⟩) (fun c => absurd ⟨c0, c1⟩ c))
    show z σ 129 x1.toNat = _
    exact (hX.2.2.2.2.1 x1.toNat (by omega) (by omega)).symm
theorem ok_witness {a0 : Int32} (hn5 : n ≤ 600) (hB : Bas n p q s u m σ) (hX : Ex1 p σ) (hP : ∀ τ, Inv (n + 1) τ → P τ) : q_okI (fun Qx => J ω m_L_witness 2000 1 6 0 0 0 [(0, .ref 1), (1, .int a0), (2, .ref 132)] [] σ Qx) (fun τ Qx => J ω m_M_witness 2000 0 0 0 0 0 [(0, .ref 94), (1, .int a0)] [] τ Qx) P := by
  have hE := hB.1.1
  have bn := hB.1.2
  have hpq := hB.2.1.2.2
  have hp : p = 16 ∨ p = 29 := by omega
  rcases hB.2.2.2.2.2.2.2.2.2.2 with ⟨a, b, c⟩ | ⟨a, b, c⟩
  · exact tk_witness hE (by omega) (by rw [q_of_z a]; decide) (by rw [q_of_z b]; decide) (hP _ (un_x (5, 2) hB hX))
  obtain ⟨D, S, w, as, s0, s1, Nt, hG⟩ := PG_b.mp c
  obtain ⟨x1, r1, e1⟩ := ex_zI a0
  subst e1
  have n0 := hG.2.2.2.1.1
  have L := PGb_L hG
  have hR := hB.2.2.2.2.2.2.2.1.1
  have hW := PGb_RWd hG
  have h62 : z σ 94 62 < 4096 := by
    have q := hG.2.2.2.2.2.2.2.2.2.1.2
    have ep : ((2 ^ bts D.1 : Nat) : Int) = (2 : Int) ^ bts D.1 := by simp
    have b12 : 2 ^ bts D.1 ≤ 2 ^ 12 := Nat.pow_le_pow_right (by decide) hG.1.1.2
    omega
  refine c_L_witness (d := 1999) hE (h_witness (d := 1998) (by decide) hp (by omega) hB.2.1.1 hB.2.1.2.1 hE a (by omega) (by omega) r1 (fun c => wr_x hE (by simp) ⟨2, rfl, q_E_ex hE, ?_⟩) (fun c5 c0 c1 => ⟨hE, 0, rfl, q_E_l hE, ?_⟩))
  · have Rx : RQ s (q_add σ (5, 3)) := (RV_c hB.2.2.2.2.2.2.2.1 (ex_r hE _ (by decide)) (q_E_ex hE)).1
    have ez : ∀ o, o ≤ 132 → z (q_add σ (5, 3)) o = z σ o := fun o ho => ex_z hE _ ho
    have e94 := ez 94 (by decide)
    refine end2 (b := 0) hP (m_witness (p := p) (by decide) hp Rx (by rw [e94]; omega) (RWd_z hW (ez p (by omega)) (ez (p + 1) (by omega)) (ez 106 (by decide)) (by rw [e94]) (by rw [e94])) (by rw [e94]; exact h62) r1 (fun t ht c0 c1 => ?_) (fun _ => ⟨zs_E (q_E_ex hE), z_s ⟨by decide, by decide⟩, fun c => absurd c (by decide), Inv_x hB hX (fr_s fr_refl (by simp)) (fun k hk => by rw [z_k hk, e94])⟩))
    rw [e94] at ht c1
    refine absurd ⟨?_, c0, by omega⟩ c
    rcases hX.2.2.2.2.2 with ⟨-, q⟩ | ⟨q, -⟩
    · omega
    · omega
  · refine end0 (b := z σ 91 x1.toNat) q_sl_s hP (m_witness (p := p) (s := s) (by decide) hp ⟨hR.1, q_E_l hE⟩ (show z σ 94 31 ≠ 0 by omega) (RWd_z hW rfl rfl rfl rfl rfl) h62 r1 (fun t ht _ _ τ f k0 kk => ⟨fr_E f (q_E_l hE), k0, fun _ => ⟨?_, (f.2.2.2 132 (by decide)).2⟩, Inv_l hB hX (by simp) f (fun k hk => by rw [kk k hk]; rfl)⟩) (fun c => ?_))
    · have ht' : z σ 94 62 = (t : Int) := ht
      rcases hX.2.2.2.2.2 with ⟨q, -⟩ | ⟨q, t', q2, q3⟩
      · omega
      · have : t' = t := by omega
        subst this
        exact (q3 x1.toNat (by omega)).symm
    · refine absurd (show 0 ≤ z σ 94 62 ∧ 0 ≤ x1 ∧ x1 < z σ 94 26 from ⟨?_, c0, by omega⟩) c
      rcases hX.2.2.2.2.2 with ⟨q, -⟩ | ⟨q, t', q2, q3⟩
      · omega
      · omega
theorem ok_set {a0 a1 : Int32} (hn5 : n ≤ 600) (hB : Bas n p q s u m σ) (hX : Ex1 p σ) (hP : ∀ τ, Inv (n + 1) τ → P τ) : q_okV (fun Qx => J ω m_L_set 2000 1 6 0 0 0 [(0, .ref 1), (1, .int a0), (2, .int a1)] [] σ Qx) (fun τ Qx => J ω m_M_set 2000 0 0 0 0 0 [(0, .ref 94), (1, .int a0), (2, .int a1)] [] τ Qx) P := by
  have hE := hB.1.1
  have bn := hB.1.2
  have hpq := hB.2.1.2.2
  have hp : p = 16 ∨ p = 29 := by omega
  rcases hB.2.2.2.2.2.2.2.2.2.2 with ⟨a, b, c⟩ | ⟨a, b, c⟩
  · exact tk_set hE (by omega) (by rw [q_of_z a]; decide) (by rw [q_of_z b]; decide) (hP _ (un_x (5, 2) hB hX))
  obtain ⟨D, S, w, as, s0, s1, Nt, hG⟩ := PG_b.mp c
  obtain ⟨x1, r1, e1⟩ := ex_zI a0
  subst e1
  obtain ⟨x2, r2, e2⟩ := ex_zI a1
  subst e2
  have n0 := hG.2.2.2.1.1
  have L := PGb_L hG
  have hR := hB.2.2.2.2.2.2.2.1.1
  refine c_L_set (d := 1999) hE (h_set (d := 1998) (by decide) hp (by omega) hB.2.1.1 hB.2.1.2.1 hE a (by omega) (by omega) r1 (fun c => wv_x hE (by simp) ⟨2, rfl, q_E_ex hE, ?_⟩) (fun c0 c1 => ⟨zs_E hE, 0, rfl, zs_E hE, ?_⟩))
  · have Rx : RQ s (q_add σ (5, 3)) := (RV_c hB.2.2.2.2.2.2.2.1 (ex_r hE _ (by decide)) (q_E_ex hE)).1
    have e94 : z (q_add σ (5, 3)) 94 = z σ 94 := ex_z hE _ (by decide)
    refine endV2 hP (m_set (by decide) Rx (by rw [e94]; omega) (by rw [e94]; omega) r1 r2 (fun c0 c1 => absurd ⟨c0, by rw [e94] at c1; omega⟩ c) (fun _ => ⟨zs_E (q_E_ex hE), z_s ⟨by decide, by decide⟩, Inv_x hB hX (fr_s fr_refl (by simp)) (fun k hk => by rw [z_k hk, e94])⟩))
  · obtain ⟨j, hj⟩ : ∃ j : Nat, x1 = (j : Int) := ⟨x1.toNat, by omega⟩
    subst hj
    rw [Int.toNat_natCast]
    obtain ⟨e, e1, e2, e3, e4⟩ := L.2.2.2.2 j (by omega)
    rw [e1, zAm e4]
    have p2 := Nat.two_pow_pos e
    have b8 : 2 ^ e ≤ 2 ^ 8 := Nat.pow_le_pow_right (by decide) e4
    have v0 : 0 ≤ x2 % ((2 ^ e : Nat) : Int) := Int.emod_nonneg _ (by omega)
    have v1 : x2 % ((2 ^ e : Nat) : Int) < ((2 ^ e : Nat) : Int) := Int.emod_lt_of_pos _ (by omega)
    generalize hv : x2 % ((2 ^ e : Nat) : Int) = v at v0 v1 ⊢
    have iv : inR v := ⟨by omega, by omega⟩
    refine endV0 hP (m_set (s := s) (by decide) ⟨hR.1, zs_E hE⟩ (by rw [z_o (by decide)]; omega) (by rw [z_o (by decide)]; omega) r1 r2 (fun _ _ => ?_) (fun c => absurd ⟨c0, by rw [z_o (by decide)]; omega⟩ c))
    rw [Int.toNat_natCast, z_o (by decide), e2, zAm e4, hv]
    have F : fr [42, 94, 126] σ (zs (zs (zs σ 42 j v) 94 0 0) 126 j v) := fr_s (fr_s (fr_s fr_refl (by simp)) (by simp)) (by simp)
    have z42 : z (zs (zs (zs σ 42 j v) 94 0 0) 126 j v) 42 = up (z σ 42) j v := by rw [z_oF (by decide), z_oF (by decide), z_up iv]
    have z126 : z (zs (zs (zs σ 42 j v) 94 0 0) 126 j v) 126 = up (z σ 126) j v := by rw [z_up iv, z_oF (by decide), z_oF (by decide)]
    have zk : ∀ k, k ≠ 0 → z (zs (zs (zs σ 42 j v) 94 0 0) 126 j v) 94 k = z σ 94 k := fun k hk => by rw [z_o (by decide), z_k hk, z_o (by decide)]
    have z0 : z (zs (zs (zs σ 42 j v) 94 0 0) 126 j v) 94 0 = 0 := by rw [z_o (by decide)]; exact z_s ⟨by decide, by decide⟩
    generalize zs (zs (zs σ 42 j v) 94 0 0) 126 j v = θ at F z42 z126 zk z0 ⊢
    have ez : ∀ o, o ∉ [42, 94, 126] → z θ o = z σ o := fun o ho => fr_zF F ho
    refine ⟨fr_E F hE, z0, Inv_g hB (fr_E F hE) (by rw [F.1]; omega) (fun o k _ => by rw [fr_r F]) (F.2.2.2 7 (by decide)).2 (fun o _ h2 => ez o (by simp at h2 ⊢; omega)) (fun k h => zk k (by simp at h; omega)) (TXe_z hB.2.2.2.2.2.2.1 (by rw [ez 2 (by decide)]) (zk 2 (by decide)) (ez 3 (by decide)) (ez 95 (by decide))) (fun h => ?_) ?_⟩
    · have q := PG_126 h
      rw [z126]
      refine ⟨fun i hi => ?_, fun i hi => ?_⟩
      · by_cases c : i = j
        · rw [c, up_s]; exact v0
        · rw [up_n c]; exact q.1 i hi
      · by_cases c : i = j
        · rw [c, up_s, e1, Int.toNat_natCast]
          have : ((2 ^ e : Nat) : Int) = (2 : Int) ^ e := by simp
          omega
        · rw [up_n c]; exact q.2 i hi
    · obtain ⟨⟨y1, y2, y3⟩, y4, y5, y6, y7, -⟩ := id hX
      refine ⟨⟨by rw [ez 91 (by decide)]; exact y1, by rw [ez 125 (by decide)]; exact y2, ?_⟩, by rw [ez 47 (by decide), ez 75 (by decide), ez 71 (by decide), ez 50 (by decide)]; exact y4, by rw [ez 43 (by decide), zk 63 (by decide)]; exact y5, fun i hi => ?_, by rw [ez 44 (by decide), ez 129 (by decide), ez p (by simp; omega)]; exact y7, ?_⟩
      · intro i hi
        rw [z42]
        by_cases c : i = j
        · rw [c, up_s]; omega
        · rw [up_n c]; exact y3 i hi
      · rw [z42, z126]
        by_cases c : i = j
        · rw [c, up_s, up_s]
        · rw [up_n c, up_n c]; exact y6 i hi
      · rw [ez 47 (by decide), zk 62 (by decide), ez 91 (by decide), iN_z (ez p (by simp; omega)), iW_z (ez (p + 1) (by simp; omega))]
        exact hX.2.2.2.2.2
theorem ok_take (hn5 : n ≤ 600) (hB : Bas n p q s u m σ) (hX : Ex1 p σ) (hP : ∀ τ, Inv (n + 1) τ → P τ) : q_okV (fun Qx => J ω m_L_take 2000 1 6 0 0 0 [(0, .ref 1)] [] σ Qx) (fun τ Qx => J ω m_M_take 2000 0 0 0 0 0 [(0, .ref 94)] [] τ Qx) P := by
  have hE := hB.1.1
  have bn := hB.1.2
  have hpq := hB.2.1.2.2
  have hp : p = 16 ∨ p = 29 := by omega
  rcases hB.2.2.2.2.2.2.2.2.2.2 with ⟨a, b, c⟩ | ⟨a, b, c⟩
  · exact tk_take hE (by omega) (by rw [q_of_z a]; decide) (by rw [q_of_z b]; decide) (hP _ (un_x (5, 2) hB hX))
  obtain ⟨D, S, w, as, s0, s1, Nt, hG⟩ := PG_b.mp c
  have n0 := hG.2.2.2.1.1
  have L := PGb_L hG
  have hR := hB.2.2.2.2.2.2.2.1.1
  have hW := PGb_RWd hG
  have h62 : z σ 94 62 < 4096 := by
    have q := hG.2.2.2.2.2.2.2.2.2.1.2
    have ep : ((2 ^ bts D.1 : Nat) : Int) = (2 : Int) ^ bts D.1 := by simp
    have b12 : 2 ^ bts D.1 ≤ 2 ^ 12 := Nat.pow_le_pow_right (by decide) hG.1.1.2
    omega
  refine c_L_take (d := 1999) hE (h_take (d := 1998) (by decide) hp (by omega) hB.2.1.1 hB.2.1.2.1 hE a (by omega) (by omega) (fun c => wv_x hE (by simp) ⟨2, rfl, q_E_ex hE, ?_⟩) (fun c5 => ⟨zcp_E hE, 0, rfl, zcp_E hE, ?_⟩))
  · have Rx : RQ s (q_add σ (5, 3)) := (RV_c hB.2.2.2.2.2.2.2.1 (ex_r hE _ (by decide)) (q_E_ex hE)).1
    have ez : ∀ o, o ≤ 132 → z (q_add σ (5, 3)) o = z σ o := fun o ho => ex_z hE _ ho
    have e94 := ez 94 (by decide)
    refine endV2 hP (m_take (p := p) (by decide) hp Rx (by rw [e94]; omega) (RWd_z hW (ez p (by omega)) (ez (p + 1) (by omega)) (ez 106 (by decide)) (by rw [e94]) (by rw [e94])) (by rw [e94]; exact h62) (fun t ht => ?_) (fun _ => ⟨zs_E (q_E_ex hE), z_s ⟨by decide, by decide⟩, Inv_x hB hX (fr_s fr_refl (by simp)) (fun k hk => by rw [z_k hk, e94])⟩))
    rw [e94] at ht
    rcases hX.2.2.2.2.2 with ⟨-, q⟩ | ⟨q, -⟩
    · exact absurd ht (by omega)
    · exact absurd q (by omega)
  · have F : fr [42] σ (zcp σ 91 0 42 0 (z σ p 0).toNat) := ⟨rfl, rfl, rfl, fun o ho => ⟨funext fun k => zcp_o (fun e => ho (by rw [e]; simp)), rfl⟩⟩
    have zi : ∀ i, i < iN p σ → z (zcp σ 91 0 42 0 (z σ p 0).toNat) 42 i = z σ 91 i := fun i hi => by
      rw [z_cp_in ⟨by omega, by unfold iN at hi; omega⟩, Nat.zero_add, Nat.sub_zero]
    have zo : ∀ i, iN p σ ≤ i → z (zcp σ 91 0 42 0 (z σ p 0).toNat) 42 i = z σ 42 i := fun i hi => z_cp_out (by unfold iN at hi; omega)
    generalize zcp σ 91 0 42 0 (z σ p 0).toNat = π at F zi zo ⊢
    have ezπ : ∀ o, o ∉ [42] → z π o = z σ o := fun o ho => fr_zF F ho
    refine endV0 hP (m_take (p := p) (s := s) (by decide) hp (RQ_f hR F) (by rw [ezπ 94 (by decide)]; omega) (RWd_z hW (ezπ p (by simp; omega)) (ezπ (p + 1) (by simp; omega)) (ezπ 106 (by decide)) (by rw [ezπ 94 (by decide)]) (by rw [ezπ 94 (by decide)])) (by rw [ezπ 94 (by decide)]; exact h62) (fun t ht τ f k0 kk s1 s2 => ?_) (fun q => ?_))
    · rw [ezπ 94 (by decide)] at ht kk
      rw [iN_z (ezπ p (by simp; omega)), iW_z (ezπ (p + 1) (by simp; omega))] at s1
      rw [iN_z (ezπ p (by simp; omega)), ezπ 126 (by decide)] at s2
      have G : fr [42, 94, 126] σ τ := fr_trans (fr_mono F (by simp)) (fr_mono f (by simp))
      have ez : ∀ o, o ∉ [42, 94, 126] → z τ o = z σ o := fun o ho => fr_zF G ho
      have z42 : z τ 42 = z π 42 := fr_zF f (by decide)
      refine ⟨fr_E G hE, k0, Inv_g hB (fr_E G hE) (by rw [G.1]; omega) (fun o k _ => by rw [fr_r G]) (G.2.2.2 7 (by decide)).2 (fun o _ h2 => ez o (by simp at h2 ⊢; omega)) (fun k h => kk k (by simp at h; omega)) (TXe_z hB.2.2.2.2.2.2.1 (by rw [ez 2 (by decide)]) (kk 2 (by decide)) (ez 3 (by decide)) (ez 95 (by decide))) (fun h => ?_) ?_⟩
      · have q := PG_126 h
        refine ⟨fun i hi => ?_, fun i hi => ?_⟩
        · by_cases c : i < iN p σ
          · rw [s1 i c]; omega
          · rw [s2 i (by omega)]; exact q.1 i hi
        · rw [s1 i hi]
          have := spr_lt (w := iW p σ) (iN p σ) t i hi
          have e : ((2 ^ (z σ (p + 1) i).toNat : Nat) : Int) = (2 : Int) ^ (z σ (p + 1) i).toNat := by simp
          have e' : 2 ^ iW p σ i = 2 ^ (z σ (p + 1) i).toNat := rfl
          omega
      · obtain ⟨⟨y1, y2, y3⟩, y4, y5, y6, y7, -⟩ := id hX
        refine ⟨⟨by rw [ez 91 (by decide)]; exact y1, by rw [ez 125 (by decide)]; exact y2, ?_⟩, by rw [ez 47 (by decide), ez 75 (by decide), ez 71 (by decide), ez 50 (by decide)]; exact y4, by rw [ez 43 (by decide), kk 63 (by decide)]; exact y5, fun i hi => ?_, by rw [ez 44 (by decide), ez 129 (by decide), ez p (by simp; omega)]; exact y7, ?_⟩
        · intro i hi
          rw [z42]
          by_cases c : i < iN p σ
          · rw [zi i c]; exact y1 i hi
          · rw [zo i (by omega)]; exact y3 i hi
        · rw [z42]
          by_cases c : i < iN p σ
          · rw [zi i c, s1 i c]
            rcases hX.2.2.2.2.2 with ⟨q, -⟩ | ⟨q, t', q2, q3⟩
            · exact absurd q c5
            · have : t' = t := by omega
              subst this
              exact q3 i c
          · rw [zo i (by omega), s2 i (by omega)]; exact y6 i hi
        · rw [ez 47 (by decide), kk 62 (by decide), ez 91 (by decide), iN_z (ez p (by simp; omega)), iW_z (ez (p + 1) (by simp; omega))]
          exact hX.2.2.2.2.2
    · rw [ezπ 94 (by decide)] at q
      rcases hX.2.2.2.2.2 with ⟨y, -⟩ | ⟨y, t', q2, q3⟩
      · exact absurd y c5
      · omega
theorem ok_run (hn5 : n ≤ 600) (hB : Bas n p q s u m σ) (hX : Ex1 p σ) (hP : ∀ τ, Inv (n + 1) τ → P τ) : q_okI (fun Qx => J ω m_L_run 2000 1 6 0 0 0 [(0, .ref 1), (1, .ref 132)] [] σ Qx) (fun τ Qx => J ω m_M_run 2000 0 0 0 0 0 [(0, .ref 94)] [] τ Qx) P := by
  have hE := hB.1.1
  have bn := hB.1.2
  have hpq := hB.2.1.2.2
  have hp : p = 16 ∨ p = 29 := by omega
  rcases hB.2.2.2.2.2.2.2.2.2.2 with ⟨a, b, c⟩ | ⟨a, b, c⟩
  · exact tk_run hE (by omega) (by rw [q_of_z a]; decide) (by rw [q_of_z b]; decide) (hP _ (un_x (5, 2) hB hX))
  have c126 := PG_126 c
  obtain ⟨D, S, w, as, s0, s1, Nt, hG⟩ := PG_b.mp c
  have n0 := hG.2.2.2.1.1
  have n4 := hG.2.2.2.1.2.1
  have L := PGb_L hG
  have en : nw (z σ 42) = nw (z σ 126) := funext fun i => by
    unfold nw
    by_cases q : i < 12
    · rw [if_pos q, if_pos q, hX.2.2.2.1 i q]
    · rw [if_neg q, if_neg q]
  have hIo : uO (wI6 D (z σ (p + 1))) (nw (z σ 42)) := fun i hi => by
    have hb := hX.1.2.2 i hi
    unfold nw
    rw [if_pos hi]
    rcases PGb_WI hG i hi with ⟨q1, q2⟩ | q1
    · rw [q2]
      have q3 := c126.2 i (by unfold iN; omega)
      rw [← hX.2.2.2.1 i hi] at q3
      have e : ((2 ^ (z σ (p + 1) i).toNat : Nat) : Int) = (2 : Int) ^ (z σ (p + 1) i).toNat := by simp
      omega
    · have p9 : 2 ^ 9 ≤ 2 ^ (wI6 D (z σ (p + 1)) i).toNat := Nat.pow_le_pow_right (by decide) (by omega)
      omega
  have hrn := PGb_run hG (nw (z σ 42))
  refine c_L_run (d := 1999) hE (h_run (d := 1998) (by decide) hp (by omega) hB.2.1.1 hB.2.1.2.1 hE a hG.2.2.1 hX.1.2.2 hIo (hrn.2 _) (fun r ρ er G Eρ v1 v2 v3 => ⟨Eρ, 0, rfl, q_E_l Eρ, ?_⟩))
  rw [← er] at hrn
  have eρ : ∀ o, o ∉ [43, 44, 45, 46] → z ρ o = z σ o := fun o ho => frE_z G ho
  have hQρ : QS p s0 s1 ρ := QS_cong hp hG.2.1 Eρ (frE_r G (by simp)) (frE_r G (by simp)) (fun o a b => eρ o (by simp; omega)) (fun o a b => eρ o (by simp; omega))
  have hXρ := EXq_cg (τ := ρ) hp (PGb_EX hG hX.1.1) (fun o ho => eρ o (by simp; omega)) (by rw [eρ 91 (by decide)]; exact hX.1.1)
  obtain ⟨R1, -⟩ := RF_pi (π := q_setl ρ 132 0 (zI r.1).toInt64) hB hX a hG hQρ (fun o _ h2 => eρ o (by simp at h2 ⊢; omega)) (funext fun k => frE_r G (by simp)) hXρ (q_E_l Eρ) (fun _ _ => rfl) (fun _ _ => rfl)
  refine end0 (b := r.1) q_sl_s hP (mm_run (by decide) hp R1.1 R1.2.1 R1.2.2.1 (show n16 (z ρ 126) by rw [eρ 126 (by decide)]; exact c126.1) (fun i hi => ?_) (fun r' τ er' f kk k0 kn k63 k129 => ?_))
  · have hi' : (i : Int) < z σ p 0 := by
      have : z (q_setl ρ 132 0 (zI r.1).toInt64) p 0 = z σ p 0 := by
        show z ρ p 0 = _
        rw [eρ p (by simp; omega)]
      rw [← this]; exact hi
    show z ρ 126 i < 2 ^ (z ρ (p + 1) i).toNat
    rw [eρ 126 (by decide), eρ (p + 1) (by simp; omega)]
    exact c126.2 i (by unfold iN; omega)
  · have e1 : r' = runF S (z ρ (p + 3)) (nw (z ρ 126)) := er'
    rw [eρ (p + 3) (by simp; omega), eρ 126 (by decide), ← en, ← er] at e1
    subst e1
    have eτ : ∀ o, o ≤ 132 → o ∉ [94, 125, 128, 129, 130] → z τ o = z ρ o := fun o _ ho => by rw [fr_zF f ho]; rfl
    have eσ : ∀ o, o ≤ 132 → o ∉ [43, 44, 45, 46, 94, 125, 128, 129, 130] → z τ o = z σ o := fun o h1 ho => by rw [eτ o h1 (by simp at ho ⊢; omega), eρ o (by simp at ho ⊢; omega)]
    have k94 : ∀ k, k ∉ [0, 61, 63] → z τ 94 k = z σ 94 k := fun k hk => by
      rw [kk k hk]
      show z ρ 94 k = _
      rw [eρ 94 (by decide)]
    have Eτ := fr_E f (q_E_l Eρ)
    have v12 := hG.1.2.1
    refine ⟨Eτ, k0, fun _ => ⟨rfl, (f.2.2.2 132 (by decide)).2⟩, Inv_g hB Eτ ?_ (fun o k ho => ?_) ?_ (fun o h1 h2 => eσ o h1 (by simp at h2 ⊢; omega)) (fun k h => k94 k (by simp at h ⊢; omega)) (TXe_z hB.2.2.2.2.2.2.1 (by rw [eσ 2 (by decide) (by decide)]) (k94 2 (by decide)) (eσ 3 (by decide) (by decide)) (eσ 95 (by decide) (by decide))) (fun _ => by rw [eσ 126 (by decide) (by decide)]; exact c126) ?_⟩
    · rw [f.1]
      show q_n ρ ≤ _
      rw [G.1]; omega
    · rw [fr_r f]
      show q_r ρ o k = _
      exact frE_r G (by simp; omega)
    · rw [(f.2.2.2 7 (by decide)).2]
      rw [sl_o (by decide)]
      exact (G.2.2.2 7 (by decide)).2
    · obtain ⟨⟨y1, y2, y3⟩, y4, y5, y6, y7, -⟩ := id hX
      refine ⟨⟨by rw [eσ 91 (by decide) (by decide)]; exact y1, kn, by rw [eσ 42 (by decide) (by decide)]; exact y3⟩, by rw [eσ 47 (by decide) (by decide), eσ 75 (by decide) (by decide), eσ 71 (by decide) (by decide), eσ 50 (by decide) (by decide)]; exact y4, ?_, by rw [eσ 42 (by decide) (by decide), eσ 126 (by decide) (by decide)]; exact y6, fun j hj hjV => ?_, ?_⟩
      · rw [eτ 43 (by decide) (by decide), v1, k63]
        by_cases c : r'.1 = 1
        · rw [if_pos c]
        · rw [if_neg c]
          rcases hrn.1 with q | q
          · exact q.2.1
          · unfold vf at q; omega
      · rw [eσ p (by omega) (by simp; omega)] at hjV
        rw [eτ 44 (by decide) (by decide), k129 j (by omega)]
        exact nw_v v2 (v3 j hj).1 hj
      · rw [eσ 47 (by decide) (by decide), k94 62 (by decide), eσ 91 (by decide) (by decide), iN_z (eσ p (by omega) (by simp; omega)), iW_z (eσ (p + 1) (by omega) (by simp; omega))]
        exact hX.2.2.2.2.2
end OtP
