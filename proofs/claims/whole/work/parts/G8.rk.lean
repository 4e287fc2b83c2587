/-! The reference builds, whole -/
theorem sub_a (u : Nat) : ∀ x ∈ [94, 96, 97, 98, 99], x ∈ SRb u := fun x hx => by
  simp only [List.mem_cons, List.not_mem_nil, or_false] at hx
  rcases hx with h | h | h | h | h <;> subst h <;> unfold SRb <;> simp
theorem sub_b (u : Nat) : ∀ x ∈ SD u, x ∈ SRb u := fun x hx => by
  unfold SD at hx
  simp only [List.mem_cons, List.not_mem_nil, or_false] at hx
  rcases hx with h | h | h | h | h | h | h | h | h | h | h | h | h <;> subst h <;> unfold SRb <;> simp
theorem sub_c (u : Nat) : ∀ x ∈ [94, 106, 107, 126, 129], x ∈ SRb u ++ [106, 107, 126, 129] := fun x hx => by
  simp only [List.mem_cons, List.not_mem_nil, or_false] at hx
  rcases hx with h | h | h | h | h <;> subst h <;> unfold SRb <;> simp
theorem mem_94 (u : Nat) : 94 ∈ SRb u := by unfold SRb; simp
theorem frE_94 {u : Nat} {σ τ : q_H} (h : frE [94] R94 σ τ) : frE (SRb u) R94 σ τ := ⟨h.1, h.2.1, h.2.2.1, fun o ho => h.2.2.2 o (fun hc => ho (by rw [List.mem_singleton.mp hc]; exact mem_94 u))⟩
theorem KF_sub {k : Nat} (h : k ∉ KF) : k ≠ 7 ∧ k ∉ [8, 9, 10, 17, 18, 19, 20, 21, 44, 48, 49] := by
  unfold KF at h
  exact ⟨fun e => h (by rw [e]; simp), fun e => h (List.mem_cons_of_mem _ e)⟩
section RkP
variable {ω : q_W} {d u s n T q : Nat} {Kk : Int → q_H → Prop} {f : Nat → Int} {X : Nat → Nat → q_PR} {rD : Except Nat (Nat × q_Ds)} {rS : q_SR} {σ : q_H}
theorem DP_pD {K v : Nat → Int} {C : Nat → Int64} : ∀ (m t : Nat) (D : q_Ds) (t' : Nat) (D' : q_Ds), pD K v C m t D = some (.ok (t', D')) → DP K C t D → DP K C t' D'
  | 0, _, _, _, _, h, _ => by cases h
  | m + 1, t, D, t', D', h, g => by
    rw [pD_s] at h
    split at h
    · split at h
      · next c1 =>
        split at h
        · split at h
          · split at h
            · exact DP_pD m _ _ t' D' h (DP_add g c1)
            · cases h
          · cases h
        · cases h
      · cases h
    · cases h; exact g
/-- TOKENS of both -/
theorem MT_of {τ1 τ2 : q_H} {L : Nat} (hV : RV u s τ2) (hi : q_i τ2 = q_i τ1) (hl : q_l τ2 = q_l τ1) (hn : n ≤ 4096) (kt : KT T σ ∧ KS T σ ∧ z σ 4 T = 46) (hTK : TKi f n σ (T + 1)) (hsT : sp f n T = n) (hTOK : TOK s f n σ τ1 L) (hL : tkK f n (sp f n L) = 46 ∨ tkK f n (sp f n L) = 47) (hlt : ∀ i, i < L → sp f n i < n ∧ tkK f n (sp f n i) ≠ 46 ∧ tkK f n (sp f n i) ≠ 47) :
    L ≤ T ∧ MT u L (z σ 4) (z σ 5) (fun i => zL (q_l σ 6 i)) τ2 ∧ ∀ i j, z σ 4 i = 30 → z σ 4 j = 30 → i ≤ L → j ≤ L → (q_l σ 6 i = q_l σ 6 j ↔ q_l τ2 99 i = q_l τ2 99 j) := by
  obtain ⟨-, -, -, -, tr⟩ := hTOK
  have zi : ∀ o, z τ2 o = z τ1 o := fun o => funext fun k => by unfold z; rw [hi]
  have LT : L ≤ T := Nat.le_of_not_lt fun q => by have := (hlt T q).1; omega
  have kk : ∀ i, i ≤ L → z σ 4 i = tkK f n (sp f n i) ∧ z σ 5 i = ((sp f n i : Nat) : Int) ∧ q_l σ 6 i = tkC f n (sp f n i) := fun i hi => by
    obtain ⟨a, b, c⟩ := hTK i (by omega)
    exact ⟨b, a, c⟩
  refine ⟨LT, ⟨hV.1.1, by have := kt.1.1; omega, fun i hi => ?_, ?_, fun i hi => ?_, fun i j h1 h2 => ?_, fun i hi h23 => ?_⟩, fun i j hi hj iL jL => ?_⟩
  · obtain ⟨a, b, c⟩ := kk i hi
    obtain ⟨t1, t2, -⟩ := tr i (by omega)
    rw [zi, zi, t1, t2, a, b]
    exact ⟨rfl, rfl, tkK_R, kmp_tk⟩
  · rw [(kk L (Nat.le_refl _)).1]; exact hL
  · rw [(kk i (by omega)).1]; exact (hlt i hi).2
  · have := KS_le kt.2.1 i j (by omega) (by omega)
    omega
  · obtain ⟨a, b, c⟩ := kk i hi
    obtain ⟨-, -, t3, -⟩ := tr i (by omega)
    have r := (kt.1.2.2 i (by omega)).2.2.2 h23
    rw [zi]
    refine ⟨?_, r⟩
    show z τ1 98 i = zL (q_l σ 6 i)
    rw [c]; exact t3 (by rw [← a]; exact h23)
  · obtain ⟨a1, -, c1⟩ := kk i iL
    obtain ⟨a2, -, c2⟩ := kk j jL
    obtain ⟨-, -, -, t4⟩ := tr i (by omega)
    obtain ⟨-, -, -, t5⟩ := tr j (by omega)
    obtain ⟨l1, o1, p1, q1⟩ := t4 (by rw [← a1]; exact hi)
    obtain ⟨l2, o2, p2, q2⟩ := t5 (by rw [← a2]; exact hj)
    rw [c1, c2, hl]
    constructor
    · intro e
      rw [e] at p1
      have := r32_inj l1 l2 o1 o2 (by omega)
      apply vN_eq.mp
      rw [q1, q2, this]
    · intro e
      rw [e] at q1
      have := r256_inj l1 l2 o1 o2 (by omega)
      apply Int64.toInt_inj.mp
      rw [p1, p2, this]
theorem bO_1 {P : Nat → Int} {rD : Except Nat (Nat × q_Ds)} {rS : q_SR} {t' : Nat} {D' : q_Ds} {t'' : Nat} {sm : q_Sm} (h1 : rD = .ok (t', D')) (h2 : rS = .ok (t'', sm)) : bO P n rD rS = (match D'.2.2.or sm.2.2.1 with | some y => (y.1, P y.2) | none => if 1500 < sm.2.1 then (7, (n : Int)) else (0, -1)) := by rw [h1, h2]; rfl
set_option maxHeartbeats 4000000 in
theorem r_build (hd : 1400 ≤ d) (hV : RV s u σ) (hn : n ≤ 4096) (h2 : z σ 94 2 = (n : Int)) (hf : ∀ j, j < n → z σ 95 j = f j) (hb : ∀ j, j < n → -128 ≤ f j ∧ f j ≤ 127) (hTK : TKi f n σ (T + 1)) (hsT : sp f n T = n) (hq : q = 16 ∨ q = 29) (hP : PB q T n X rD rS σ)
    (kx : ∀ τ, RV s u τ → frE (SRb u) R94 σ τ → z τ 94 0 = 1 → z τ 94 2 = 0 → z τ 94 50 = (bO (z σ 5) n rD rS).1 → z τ 94 51 = (bO (z σ 5) n rD rS).2 → (∀ k, k ∉ KF ++ [0, 2, 50, 51] → z τ 94 k = z σ 94 k) → (bO (z σ 5) n rD rS).1 ≠ 0 → Kk 0 τ)
    (kk : ∀ τ t' D' t'' sm, rD = .ok (t', D') → rS = .ok (t'', sm) → D'.2.2.or sm.2.2.1 = none → sm.2.1 ≤ 1500 → DP (z σ 4) (q_l σ 6) t' D' → RV u s τ → frE (SRb u ++ [106, 107, 126, 129]) R94 σ τ → RG u σ τ D' sm.2.1 sm.2.2.2 → ND2 (nmI q σ) D'.2.1.length u τ sm.1 sm.2.1 → Kk (sm.2.2.2 : Int) τ) : J ω m_M_build d 0 0 0 0 0 [(0, .ref 94)] [] σ (q_ki Kk) := by
  obtain ⟨d, rfl⟩ : ∃ k, d = k + 1 := ⟨d - 1, by omega⟩
  obtain ⟨kt, ⟨hX, hX2⟩, hD, hS, hO, hG⟩ := hP
  obtain ⟨⟨⟨hs, r0, r1, r2, r3, r4, r5⟩, hE⟩, ⟨hu, v0, v1, v2, v3, v4, v5⟩, ne⟩ := id hV
  refine b_M_build_0 hs r0 r1 r2 r3 r4 r5 hu v0 v1 v2 v3 v4 v5 hE (m_cut (f := f) (by omega) hV.1 hn h2 hf hb (fun τ1 L hTOK hL hsL hlt => ?_))
  obtain ⟨rq1, F1, k1, e7, tr⟩ := id hTOK
  have V1 : RV s u τ1 := RV_i hV F1.2.2.1 rq1.2
  obtain ⟨⟨⟨-, r0, r1, r2, r3, r4, r5⟩, hE1⟩, ⟨-, v0, v1, v2, v3, v4, v5⟩, -⟩ := id V1
  refine b_M_build_4 hs r0 r1 r2 r3 r4 r5 hu v0 v1 v2 v3 v4 v5 hE1 (r_swap V1 (fun τ2 V2 n1 n2 n3 n4 n5 => ?_))
  have zi : ∀ o, z τ2 o = z τ1 o := fun o => funext fun k => by unfold z; rw [n3]
  obtain ⟨LT, hMT, hC⟩ := MT_of V2 n3 n4 hn kt hTK hsT hTOK hL hlt
  have F2 : frE (SRb u) R94 σ τ2 := frE_trans (frE_of (T := SRb u) F1 (sub_a u)) ⟨n1, n2, n5, fun o _ => ⟨by rw [n3], by rw [n4]⟩⟩
  have k2 : ∀ k, k ≠ 7 → z τ2 94 k = z σ 94 k := fun k hk => by rw [zi]; exact k1 k hk
  have hXL : XO X (z σ 4) (nmI q σ) (nmB q σ) L := fun dp t ht => hX dp t (by omega)
  -- what reading leaves
  have after : ∀ τ, WE u τ2 τ → RV u s τ ∧ frE (SRb u) R94 σ τ ∧ (∀ k, k ∉ KF → z τ 94 k = z σ 94 k) := fun τ hw => by
    obtain ⟨w1, w2, w3⟩ := hw
    refine ⟨RV_i V2 w2.2.2.1 w1, frE_trans F2 (frE_of (T := SRb u) w2 (sub_b u)), fun k hk => ?_⟩
    rw [w3 k (KF_sub hk).2, k2 k (KF_sub hk).1]
  have mem0 : ∀ k, k ∉ KF ++ [0, 2, 50, 51] → k ∉ KF ∧ k ∉ [0, 2, 50, 51] := fun k hk => ⟨fun q => hk (List.mem_append.mpr (Or.inl q)), fun q => hk (List.mem_append.mpr (Or.inr q))⟩
  have bad : ∀ (τ : q_H) (y : Nat), WE u τ2 τ → z τ 94 10 = z σ 5 y → bO (z σ 5) n rD rS = (1, z σ 5 y) → 100 = 100 ∧ q_E τ ∧ J ω m_M_build (d + 1) 0 0 0 0 16 [(0, .ref 94)] [.ref 100] τ (q_ki Kk) := fun τ y hw h10 hB => by
    obtain ⟨Vτ, Fτ, kτ⟩ := after τ hw
    obtain ⟨⟨⟨hs', r0, r1, r2, r3, r4, r5⟩, hE'⟩, ⟨hu', v0, v1, v2, v3, v4, v5⟩, -⟩ := id Vτ
    refine ⟨rfl, hE', b_M_build_16 hs' r0 r1 r2 r3 r4 r5 hu' v0 v1 v2 v3 v4 v5 hE' ?_⟩
    refine r_refused (by omega) Vτ ⟨by decide, by decide⟩ (z_R _ _ _) (fun ρ Vρ Fρ o0 o2 o50 o51 ok => ?_)
    obtain ⟨⟨⟨hs2, r0, r1, r2, r3, r4, r5⟩, hE2⟩, ⟨hu2, v0, v1, v2, v3, v4, v5⟩, -⟩ := id Vρ
    refine b_M_build_26 hs2 r0 r1 r2 r3 r4 r5 hu2 v0 v1 v2 v3 v4 v5 hE2 ⟨0, ⟨by decide, by decide⟩, rfl, kx ρ Vρ (frE_trans Fτ (frE_94 Fρ)) o0 o2 (by rw [hB]; exact o50) (by rw [hB, o51]; exact h10) (fun k hk => ?_) (by rw [hB]; exact (show (1 : Int) ≠ 0 by decide))⟩
    rw [ok k (mem0 k hk).2]; exact kτ k (mem0 k hk).1
  refine b_M_build_8 V2.1.2 (m_whole (X := X) (Nc := nmI q σ) (Bc := nmB q σ) (rS := rS) (n := T + 1) (C := q_l σ 6) (by unfold dS; omega) hMT V2.1.2 hC hXL hD (fun t' D' σ' hr tL hdp hdr l99 => ?_) (fun t' D' hr => (hS t' D' hr).2.2) (fun y hr τ hw h10 => bad τ y hw h10 (by rw [hr]; rfl)) (fun t' D' y hr hr2 τ hw h10 => bad τ y hw h10 (by rw [hr, hr2]; rfl)) (fun t' D' t'' sm hr hr2 h46 σb τ N' ns y2 y3 hw hRT hCH hdr hdp => ?_))
  · obtain ⟨-, dq, -⟩ := hS t' D' hr
    exact NR_eqt dq hdp hdr rfl rfl (fun i _ _ => rfl) tL (by rw [l99]; exact hC)
  · obtain ⟨Vτ, Fτ, kτ⟩ := after τ hw
    obtain ⟨⟨⟨hs', r0, r1, r2, r3, r4, r5⟩, hE'⟩, ⟨hu', v0, v1, v2, v3, v4, v5⟩, -⟩ := id Vτ
    obtain ⟨-, hFB, -, h21, -⟩ := id hRT
    obtain ⟨tT, dq, m, hm⟩ := hS t' D' hr
    obtain ⟨y2b, -⟩ := CHN_x2 hCH
    obtain ⟨-, -, -, -, n5a, n5b, n5c⟩ := RT_r hRT
    have y2R : inR y2 := by
      rcases y2b with q | q
      · rw [q]; exact ⟨by decide, by decide⟩
      · exact ⟨by omega, by omega⟩
    have hB := bO_1 (P := z σ 5) (n := n) hr hr2
    have ref : ∀ (x y : Int) (pc : Nat) (hpc : ∀ ρ, RV s u ρ → Kk 0 ρ → J ω m_M_build (d + 1) 0 0 0 0 pc [] [.int (zI 0)] ρ (q_ki Kk)), inR x → inR y → bO (z σ 5) n rD rS = (x, y) → x ≠ 0 → J ω m_M_refused d 0 0 0 0 0 [(0, .ref 94), (1, .int (zI x)), (2, .int (zI y))] [] τ (q_ki (fun v τ => J ω m_M_build (d + 1) 0 0 0 0 pc [] [.int (zI v)] τ (q_ki Kk))) := fun x y pc hpc hx hy hB2 x0 => by
      refine r_refused (by omega) Vτ hx hy (fun ρ Vρ Fρ o0 o2 o50 o51 ok => hpc ρ Vρ ?_)
      refine kx ρ Vρ (frE_trans Fτ (frE_94 Fρ)) o0 o2 (by rw [hB2]; exact o50) (by rw [hB2]; exact o51) (fun k hk => ?_) (by rw [hB2]; exact x0)
      rw [ok k (mem0 k hk).2]; exact kτ k (mem0 k hk).1
    refine b_M_build_12 hs' r0 r1 r2 r3 r4 r5 hu' v0 v1 v2 v3 v4 v5 hE' ⟨fun c48 => ?_, fun c48 => ?_⟩
    · have hF : D'.2.2.or sm.2.2.1 = none := by
        cases hf : D'.2.2.or sm.2.2.1 with
        | none => rfl
        | some y =>
          rw [hf] at hFB
          exact absurd (hFB.1.symm.trans c48) (by have := hFB.2.1; have := hFB.1; omega)
      have hsm : sm.2.2.1 = none := by
        cases hx : D'.2.2 with
        | none => rw [hx] at hF; exact hF
        | some y => rw [hx] at hF; cases hF
      obtain ⟨-, hnb, hl, hns⟩ := hCH
      have hns' := hns hsm
      have sok := st_ok (WI := z σ (q + 1)) (fun _ _ => rfl) kt.1 kt.2.2 dq hdp hX hX2 (by rw [hr2] at hm; exact hm)
      have wS' : wS sm.1 := fun x hx => gI_w (sok x hx).1
      have h19 : z τ 94 19 = (D'.2.1.length : Int) := hdr.1.2.2.1
      have v12 := hdp.2.1
      refine k_workOfAll (k := 32) (lo := 0) (k_workOfOne Vτ.1 h19 v12 32) Vτ.1 (by omega) (fun y hy => by have := hnb y hy; omega) hl hns' wS' (fun v hv => ?_)
      by_cases c15 : sm.2.1 ≤ 1500
      · refine r_good Vτ c15 hv hdr hdp h21 (fun y hy => by have := hnb y hy; omega) hl hns' y2R (fun ρ Vρ Fρ hg hnd => ?_)
        refine kk ρ t' D' t'' sm hr hr2 hF c15 hdp Vρ (frE_trans (S := SRb u ++ [106, 107, 126, 129]) ⟨Fτ.1, Fτ.2.1, Fτ.2.2.1, fun o ho => Fτ.2.2.2 o (fun hc => ho (List.mem_append.mpr (Or.inl hc)))⟩ (frE_of Fρ (sub_c u))) ?_ hnd
        obtain ⟨g1, g2, g3⟩ := hg
        refine ⟨g1, fun k hk => ?_, g3⟩
        rw [g2 k hk]
        exact kτ k (fun q => hk (List.mem_append.mpr (Or.inl q)))
      · have e15 : (1500 : Int64).toInt = 1500 := by decide
        have gt : v > 1500 := Int64.lt_iff_toInt_lt.mpr (by rw [e15, hv]; omega)
        rw [hF] at hB
        have hB' : bO (z σ 5) n rD rS = (7, (n : Int)) := by rw [hB]; show (if 1500 < sm.2.1 then _ else _) = _; rw [if_pos (by omega)]
        refine b_M_build_52 hs' r0 r1 r2 r3 r4 r5 hu' v0 v1 v2 v3 v4 v5 hE' ⟨fun c => absurd gt c, fun _ => ?_⟩
        have e2 : z τ 94 2 = (n : Int) := by rw [kτ 2 (by unfold KF; decide)]; exact h2
        rw [e2]
        refine ref 7 (n : Int) 71 (fun ρ Vρ hK => ?_) ⟨by decide, by decide⟩ ⟨by omega, by omega⟩ hB' (by decide)
        obtain ⟨⟨⟨hs2, r0, r1, r2, r3, r4, r5⟩, hE2⟩, ⟨hu2, v0, v1, v2, v3, v4, v5⟩, -⟩ := id Vρ
        exact b_M_build_71 hs2 r0 r1 r2 r3 r4 r5 hu2 v0 v1 v2 v3 v4 v5 hE2 ⟨0, ⟨by decide, by decide⟩, rfl, hK⟩
    · cases hf : D'.2.2.or sm.2.2.1 with
      | none =>
        rw [hf] at hFB
        exact absurd hFB c48
      | some y =>
        rw [hf] at hFB hB
        refine ref (z τ 94 48) (z τ 94 49) 46 (fun ρ Vρ hK => ?_) (z_R _ _ _) (z_R _ _ _) (by rw [hB, hFB.1, hFB.2.2]) c48
        obtain ⟨⟨⟨hs2, r0, r1, r2, r3, r4, r5⟩, hE2⟩, ⟨hu2, v0, v1, v2, v3, v4, v5⟩, -⟩ := id Vρ
        exact b_M_build_46 hs2 r0 r1 r2 r3 r4 r5 hu2 v0 v1 v2 v3 v4 v5 hE2 ⟨0, ⟨by decide, by decide⟩, rfl, hK⟩
end RkP
