/-! THE ENCODER, all of it -/
theorem wl_len {V : Nat} {Ex : q_Ex → Prop} {bb : Bool} {dp i lp as w a1 : Nat} {l : List q_St} (h : TS V Ex bb dp i lp as l w a1) : 3 * wWs l ≤ l.length := by
  refine h (fun bb dp i lp as l w a1 => 3 * wWs l ≤ l.length) ⟨?_, ?_, ?_, ?_, ?_, ?_, ?_, ?_, ?_⟩
  · intro dp i lp as v e _ _ _; rw [wWs_1 (by decide)]; omega
  · intro dp i lp as e _ _; rw [wWs_1 (by decide)]; omega
  · intro dp i lp as e _ _; rw [wWs_1 (by decide)]; omega
  · intro dp i lp as e l1 w1 a1 _ _ h1
    show 3 * ((if (4 : Int) = 8 then 1 else 0) + wWs (l1 ++ [(6, 0, 0, [])])) ≤ _
    rw [wWs_app, wWs_1 (by decide), if_neg (by decide)]; simp; omega
  · intro dp i lp as e l1 w1 a1 l2 w2 a2 _ _ h1 h2
    show 3 * ((if (4 : Int) = 8 then 1 else 0) + wWs (l1 ++ _ :: (l2 ++ [(6, 0, 0, [])]))) ≤ _
    rw [wWs_app, if_neg (by decide)]
    show 3 * (0 + (wWs l1 + ((if (5 : Int) = 8 then 1 else 0) + wWs (l2 ++ [(6, 0, 0, [])])))) ≤ _
    rw [wWs_app, wWs_1 (by decide), if_neg (by decide)]; simp; omega
  · intro dp i lp as k e l1 w1 a1 _ _ _ h1
    show 3 * ((if (7 : Int) = 8 then 1 else 0) + ((if (8 : Int) = 8 then 1 else 0) + wWs (l1 ++ [(9, 0, ((i + 1 : Nat) : Int), [])]))) ≤ _
    rw [wWs_app, wWs_1 (by decide), if_neg (by decide), if_pos rfl]; simp; omega
  · intro dp i lp as l w a1 _ h1; exact h1
  · intro dp i lp as; exact Nat.le_refl _
  · intro dp i lp as l w a1 l2 w2 a2 h1 h2; rw [wWs_app, List.length_append]; omega
theorem ae_1 {t lL Λ ka w x W y Ln : Nat} (ht : t ≤ 13) (hl : lL ≤ 12) (hw : ka * w ≤ ka * 1500) (hW : x * W ≤ x * 546) (hL : y * Ln ≤ y * 1638) (hb : 1300 + Λ + (ka * 1500 + x * 546 + y * 1638) ≤ 530608) : 52 * (t + lL + 0) + Λ + (ka * w + x * W + y * Ln) ≤ 530608 := by omega
section EtP
variable {ω : q_W} {d p V : Nat} {σ : q_H} {WI : Nat → Int} {S : List q_St}
theorem nV_1 {v : Nat → Bool} {f : Nat → Int} (hv : v 0 = true) : ∀ n, (∀ j, j < n → f j = 1) → nV v f n = 0
  | 0, _ => rfl
  | n + 1, h => by
    rw [nV_s, nV_1 hv n (fun j hj => h j (by omega)), h n (by omega), lvb_1 hv]
    simp
theorem k_encode {K : q_H → Prop} {w a1 : Nat} (hd : 9 ≤ d) (hp : p = 16 ∨ p = 29) (hE : q_E σ) (ps : PS2 p WI V S σ) (hV : V ≤ 12) (h4 : z σ p 4 = (V : Int)) (h7 : z σ p 7 = (a1 : Int)) (hWI : ∀ i, i < 12 → WI i ≤ 8 → (i : Int) < z σ p 0 ∧ WI i = z σ (p + 1) i) (ts : TS V (fun e => PE (cI WI (z σ (p + 3)) V) e ∧ hB e.1 0 = some 1) true 0 0 0 0 S w a1) (hw : w ≤ 1500)
    (kk : ∀ τ s', q_E τ → fr SEi (zr σ 48 1 p) τ → q_r τ 48 1 = p → ND p τ s' → INP p τ s' → z τ 48 7 = (s' : Int) → z τ 50 8 = z σ 50 8 → ENC V (z σ (p + 3)) S τ s' → K τ) : J ω m_En_encode d 0 0 0 0 0 [(0, .ref 48), (1, .ref p)] [] σ (q_kv K) := by
  obtain ⟨d, rfl⟩ : ∃ k, d = k + 1 := ⟨d - 1, by omega⟩
  have gp := ps.1
  have E1 : q_E (zr σ 48 1 p) := zr_E hE (by decide)
  have S16 : S.length ≤ 1638 := by
    have h1 := ps.2.1
    have h2 := gp.2.2.2.1.2.1
    omega
  have a512 : a1 ≤ 512 := by have := gp.2.2.2.2.1.2; omega
  obtain ⟨ka, lam, b, x, y, T, hP, hprice⟩ := PRM_ex hV
  have w3 := wl_len ts
  refine b0_En_encode_0 hp hE (k_clear (by omega) E1 (fun τ f hc hq => ?_))
  have r1 : q_r τ 48 1 = p := by rw [fr_r f]; exact zr_s
  have f2 : fr SEi (zr σ 48 1 p) τ := fr_mono f (by unfold SEi SEn; simp)
  have g2 : GP p τ := GP_fr (S := [50, 57]) (σ := zr σ 48 1 p) gp f (by simp; omega)
  refine b_En_encode_15 hp r1 (fr_E f E1) (k_inputs (by omega) hp (fr_E f E1) r1 g2 hc f2 hq (fun ρ t b1 b2 b3 b4 b5 b6 b7 b8 => b_En_encode_19 hp b2 b1 ?_))
  have ez : ∀ o, p ≤ o → o ≤ p + 12 → z ρ o = z σ o := fun o h1 h2 => by
    rw [fr_zF b5 (by unfold SEi SEn; simp; omega)]
    rfl
  have psr : PS2 p WI V S ρ := PS2_cong ps ez
  have bits := b3.2.1
  rw [ez p (by omega) (by omega), ez (p + 1) (by omega) (by omega)] at bits b8
  have t13 : t ≤ 13 := by omega
  have w0 := gp.1.1
  have w1 := gp.1.2.2.1
  have w2 := gp.1.2.2.2
  have ct : CT0 p V WI (z σ (p + 3)) S ρ := by
    refine ⟨hp, psr, hV, by rw [ez p (by omega) (by omega)]; exact h4, by rw [ez (p + 3) (by omega) (by omega)], fun i hi => w2 i (by omega), fun i hi hw8 j q1 q2 => ?_⟩
    obtain ⟨i1, i2⟩ := hWI i hi hw8
    have wi := w1 i i1
    refine b6.2.2 i j hi q2 ?_
    rw [ez p (by omega) (by omega), ez (p + 1) (by omega) (by omega)]
    intro q
    rw [i2] at q1
    omega
  have u : ∀ a, a ≠ 48 → a ≠ 62 → a ≠ 63 → z (zs (zs (zs (zfl (zfl ρ 62 96 1) 63 512 1) 48 4 0) 48 12 0) 48 15 0) a = z ρ a := fun a h1 h2 h3 => by
    rw [z_oF h1, z_oF h1, z_oF h1]
    exact funext fun j => (z_fl_o h3).trans (z_fl_o h2)
  have v62 : ∀ j, j < 96 → z (zs (zs (zs (zfl (zfl ρ 62 96 1) 63 512 1) 48 4 0) 48 12 0) 48 15 0) 62 j = 1 := fun j hj => by
    rw [z_o (by decide), z_o (by decide), z_o (by decide), z_fl_o (by decide), z_fl ⟨by decide, by decide⟩ hj]
  have v63 : ∀ j, j < 512 → z (zs (zs (zs (zfl (zfl ρ 62 96 1) 63 512 1) 48 4 0) 48 12 0) 48 15 0) 63 j = 1 := fun j hj => by
    rw [z_o (by decide), z_o (by decide), z_o (by decide), z_fl ⟨by decide, by decide⟩ hj]
  have v4 : z (zs (zs (zs (zfl (zfl ρ 62 96 1) 63 512 1) 48 4 0) 48 12 0) 48 15 0) 48 4 = 0 := by rw [z_k (by decide), z_k (by decide), z_s ⟨by decide, by decide⟩]
  have v15 : z (zs (zs (zs (zfl (zfl ρ 62 96 1) 63 512 1) 48 4 0) 48 12 0) 48 15 0) 48 15 = 0 := z_s ⟨by decide, by decide⟩
  have l1 : lit t 1 := ⟨by decide, by have := b4.2.1; omega⟩
  have nx : NX p 0 False ρ (zs (zs (zs (zfl (zfl ρ 62 96 1) 63 512 1) 48 4 0) 48 12 0) 48 15 0) t := by
    refine ⟨⟨zs_E (zs_E (zs_E (zfl_E (zfl_E b1)))), b2⟩, GP_cong b3 (fun o _ _ => u o (by omega) (by omega) (by omega)), ⟨?_, ?_⟩, fun j hj => ⟨?_, ?_⟩, fun j hj => ?_, ?_, ⟨?_, by decide⟩, fun j hj => absurd hj (by omega), fun j hj => absurd hj (Nat.not_lt_zero _), ?_, fun c => absurd c id, fr_s (fr_s (fr_s (fr_f (fr_f fr_refl (by unfold SEn; simp)) (by unfold SEn; simp)) (by unfold SEn; simp)) (by unfold SEn; simp)) (by unfold SEn; simp)⟩
    · rw [u 50 (by decide) (by decide) (by decide)]; exact b4.1
    · rw [u 51 (by decide) (by decide) (by decide), u 52 (by decide) (by decide) (by decide), u 53 (by decide) (by decide) (by decide), u 54 (by decide) (by decide) (by decide), u 55 (by decide) (by decide) (by decide), u 56 (by decide) (by decide) (by decide), u 57 (by decide) (by decide) (by decide)]; exact b4.2
    · rw [u 61 (by decide) (by decide) (by decide)]; exact b6.1 j hj
    · rw [v62 j hj]; exact l1
    · rw [v63 j hj]; exact l1
    · rw [v4]; exact ⟨by decide, by have := b4.2.1; omega⟩
    · rw [z_k (by decide), z_s ⟨by decide, by decide⟩]; rfl
    · rw [v15]; decide
  generalize hσs : zs (zs (zs (zfl (zfl ρ 62 96 1) 63 512 1) 48 4 0) 48 12 0) 48 15 0 = σs at *
  have m0 : ME t t ρ σs := ME_z (fun o q1 q2 => u o (by omega) (by omega) (by omega)) (LFq_HI b7 b6 (by rw [ez p (by omega) (by omega), ez (p + 1) (by omega) (by omega)]; exact b8) (by rw [ez p (by omega) (by omega)]; have := gp.1.1; omega) (fun i hi => by rw [ez (p + 1) (by omega) (by omega)]; rw [ez p (by omega) (by omega)] at hi; have := gp.1.2.2.1 i hi; omega))
  have u61 := u 61 (by decide) (by decide) (by decide)
  have nf0 : nf σs = 0 := dfc_0 512 v63
  have ls : lsum (inL σs (z σ (p + 1)) (z σ p 0).toNat) ≤ 12 := by
    have := inL_sum (τ := σs) (w := z σ (p + 1)) (z σ p 0).toNat (fun i hi => by have := w1 i (by omega); omega)
    omega
  have ei : EI p V WI (z σ (p + 3)) 0 ρ σs t (inL σs (z σ (p + 1)) (z σ p 0).toNat) (fun _ => false) 0 := by
    refine ⟨nx, m0.1, m0.2.1, fun v cv q j hj => absurd hj (by rw [v15]; omega), fun i hi => ⟨fun j q1 q2 => v62 _ (by omega), fun f hf => absurd hf (by omega)⟩, fun j q1 q2 => ⟨v62 j q2, fun f hf => absurd hf (by omega)⟩, ⟨fun i hi hw8 => ?_, fun i hi => ?_, fun f i hf => absurd hf (by omega)⟩, DnI_0 v15⟩
    · obtain ⟨i1, i2⟩ := hWI i hi hw8
      refine Or.inr ⟨_, inL_mem _ (show i < (z σ p 0).toNat by omega), fun _ _ => rfl, ?_⟩
      rw [i2]
      exact Nat.le_refl _
    · obtain ⟨r, -, hr⟩ := RT8_num (s := t) (σ := σs) (f := fun j => z σs 62 (8 * i + j)) (fun j hj => by rw [v62 _ (by omega)]; decide)
      exact Or.inl ⟨r, hr⟩
  have hp0 : pot V lam b t (inL σs (z σ (p + 1)) (z σ p 0).toNat) σs (fun _ => false) 0 + (ka * w + x * wWs S + y * S.length) ≤ 530608 := by
    rw [pot_0, nf0]
    exact ae_1 t13 ls (Nat.mul_le_mul_left ka hw) (Nat.mul_le_mul_left x (by omega)) (Nat.mul_le_mul_left y S16) hprice
  have hst : 8 * 0 + EB8 V S.length w ≤ 7999992 := by
    unfold EB8
    by_cases c : V = 0
    · rw [if_pos c]; omega
    · rw [if_neg c]
      have := Nat.mul_le_mul S16 (show 8 + w ≤ 1508 by omega)
      omega
  refine (t_tree (ω := ω) (K := K) (d := d) (BUD := 532012) (by omega) ct hP (Nat.le_refl _) ts).2.2.2 (fun j _ => by rw [Nat.zero_add]) S16 a512 0 0 t σs _ (fun _ => false) 0 (Nat.le_refl _) (Nat.le_refl _) ei (Nat.le_trans hp0 (by decide)) hst (fun τ1 s1 L1 dn1 ot1 n1 e1 me1 tr1 pt1 bn1 => ?_)
  rw [Nat.zero_add]
  obtain ⟨c, -, hpc⟩ := pt1
  have pg := pot_ge (V := V) (lam := lam) (b := b) (s := s1) (L := L1) (σ := τ1) (dn := dn1) (ot := ot1)
  have s1b : s1 + nf τ1 ≤ 10204 := by
    have := Nat.le_trans (Nat.le_trans (Nat.le_add_right _ _) hpc) hp0
    clear hp0 hpc hprice
    omega
  have nxr := NX_w (o := 48) (k := 6) (e := 1) hp e1.1 (Or.inl rfl) (fun _ => by decide) (fun c => absurd c (by omega)) (fun _ c => absurd c (by decide))
  have m1 : ME s1 s1 τ1 (zs τ1 48 6 1) := ME_z (fun o q1 q2 => z_oF (by omega)) e1.2.1
  have nf1 : nf (zs τ1 48 6 1) = nf τ1 := nf_cg (z_oF (by decide))
  have e7 : z (zs τ1 48 6 1) p 7 = (a1 : Int) := by rw [EI_p hp nxr (Nat.le_refl _) (by omega), ez p (by omega) (by omega)]; exact h7
  have fin : J ω m_En_encode (d + 1) 0 0 0 0 121 [(0, .ref 48), (3, .int (zI 0))] [] (zs τ1 48 6 1) (q_kv K) := by
    refine k_rest (by omega) hp nxr m1.1 (by rw [e7]; omega) (by rw [nf1]; omega) (z_s ⟨by decide, by decide⟩) (fun τ2 s2 n2 l6 m2 b2' o2 e48 e487 any => ?_)
    rw [nf1] at b2'
    have o2' : ∀ o, 58 ≤ o → z τ2 o = z τ1 o := fun o q => by rw [o2 o q, z_oF (by omega)]
    have g4 : z τ2 48 4 = z τ1 48 4 := by rw [e48 4 (by decide) (by decide), z_k (by decide)]
    have f61 : z τ2 61 = z ρ 61 := by rw [o2' 61 (by decide), EI_61 e1]
    have ep : ∀ o, p ≤ o → o ≤ p + 12 → z τ2 o = z ρ o := fun o q1 q2 => EI_p hp n2 q1 q2
    refine kk τ2 s2 n2.1.1 (fr_trans b5 (fr_mono n2.2.2.2.2.2.2.2.2.2.2.2 (fun o h => List.mem_cons_of_mem _ h))) n2.1.2 ⟨n2.2.2.1, n2.2.2.2.1, n2.2.2.2.2.1, n2.2.2.2.2.2.1, l6⟩ ⟨fun j hj => (n2.2.2.2.1 j hj).1, ?_, ?_⟩ e487 ?_ ⟨m2.1, ⟨by omega, fun j hj h2 => ?_⟩, fun i hi => ?_, fun v cv => ?_⟩
    · rw [f61, ep p (by omega) (by omega), ep (p + 1) (by omega) (by omega)]; exact b6.2.1
    · rw [f61, ep p (by omega) (by omega), ep (p + 1) (by omega) (by omega)]; exact b6.2.2
    · have q1 : z τ2 50 8 = z ρ 50 8 := by rw [m2.2.1, m1.2.1]; exact e1.2.2.1
      rw [q1, b7.2.2]
      rfl
    · rw [f61] at h2 ⊢
      have lj := gt_lt (b6.1 j hj)
      have g1 : 1 ≤ gt (z ρ 61 j) := by unfold gt; omega
      rw [((ME_tr (ME_tr (ME_tr m0 me1) m1) m2).2.2.2 _ lj).1]
      exact b7.1 _ g1 lj
    · rw [o2' 62 (by decide)]; exact (e1.2.2.2.2.1 i hi).1
    · have cv1 : CSv s1 τ1 v := CSv_GM (CSv_GM cv m2.2.2) m1.2.2
      have sm := tr1.2.2.2 v cv1
      have iv : IvN τ2 v = IvN σs v := IvN_cg (by rw [f61, u61])
      have gs : lvb v (z σs 48 4) = true := by rw [v4]; exact lvb_0 cv.1
      have us : UvN σs v = fun _ => 0 := by
        funext k
        unfold UvN
        split
        · exact nV_1 cv.1 8 (fun j hj => v62 _ (by omega))
        · rfl
      have fs : FvN σs v = fun _ => false := by
        funext k
        unfold FvN
        split
        · next hk => rw [v63 k hk]; exact lvb_1 cv.1
        · rfl
      rw [gs, us, fs, Nat.zero_add] at sm
      have hW : ∀ i, 0 < 2 ^ (z σ (p + 3) i).toNat := fun i => Nat.two_pow_pos _
      have run := SM_run sm (T_whole (I := IvN σs v) hW ts S16 hw).2
      obtain ⟨q1, q2, q3⟩ := run
      have kf : ∀ k : Nat, k < 512 → lvb v (z τ2 63 k) = decide ((runF S (z σ (p + 3)) (IvN τ2 v)).1 = 1 ∧ (runF S (z σ (p + 3)) (IvN τ2 v)).2.1 = (k : Int)) := fun k hk => by
        have := q3 k
        unfold FvN at this
        rw [if_pos hk] at this
        rw [o2' 63 (by decide), this, iv]
      refine ⟨by rw [g4, iv]; exact q1, fun q => ?_, kf, ?_⟩
      · rw [UvN_cg (σ := τ1) (τ := τ2) (fun j _ => by rw [o2' 62 (by decide)]), iv]
        rw [iv] at q
        exact q2 q
      · have ay := any v cv
        rw [e7, z_oF (by decide)] at ay
        have tw := (T_whole (I := IvN σs v) hW ts S16 hw).1
        rw [iv]
        by_cases c1 : (runF S (z σ (p + 3)) (IvN σs v)).1 = 1
        · rw [decide_eq_true c1]
          refine ay.mpr ?_
          rcases tw with ⟨t1, -⟩ | tv
          · rw [t1] at c1; exact absurd c1 (by decide)
          · rcases tv with ⟨t1, t2, t3⟩ | ⟨t1, -⟩
            · refine ⟨(runF S (z σ (p + 3)) (IvN σs v)).2.1.toNat, by omega, ?_⟩
              have := q3 (runF S (z σ (p + 3)) (IvN σs v)).2.1.toNat
              unfold FvN at this
              rw [if_pos (by omega)] at this
              rw [this]
              exact decide_eq_true ⟨c1, by omega⟩
            · rw [t1] at c1; exact absurd c1 (by decide)
        · rw [decide_eq_false c1]
          cases hl : lvb v (z τ2 48 6) with
          | false => rfl
          | true =>
            obtain ⟨k, k1, k2⟩ := ay.mp hl
            have := q3 k
            unfold FvN at this
            rw [if_pos (by omega), k2] at this
            exact absurd (of_decide_eq_true this.symm).1 c1
  have e11 : z τ1 p 11 = (S.length : Int) := by rw [EI_p hp e1.1 (Nat.le_refl _) (by omega)]; exact psr.2.1
  refine b_En_encode_54 hp e1.1.1.2 e1.1.1.1 ⟨⟨by omega, by clear hp0 hpc hprice; omega⟩, fun _ => fin, fun _ => ⟨⟨by omega, by omega⟩, fun _ => fin, fun c2 => absurd c2 (by rw [e11]; omega)⟩⟩
end EtP
