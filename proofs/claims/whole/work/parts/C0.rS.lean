/-! The reference between STATEMENTS -/
def RT (s L : Nat) (K P : Nat → Int) (N : Nat → q_It) (B : Nat → Bool) (σ0 σ : q_H) (t dp Nn : Nat) (F : Option (Int × Nat)) (as : Nat) : Prop :=
  MS s L K P N B σ0 σ t dp Nn (z σ 94 48) (z σ 94 49) none ∧ FB P F (z σ 94 48) (z σ 94 49) ∧ (∀ y, F = some y → y.2 < t) ∧ z σ 94 21 = (as : Int) ∧ as ≤ t
section RsP
variable {ω : q_W} {d s L : Nat} {K P : Nat → Int} {N : Nat → q_It} {B : Nat → Bool} {σ0 σ : q_H} {t dp Nn as : Nat} {F : Option (Int × Nat)}
theorem FA_self {a b : Int} : FA a b P none a b := by
  unfold FA
  split
  · exact ⟨rfl, rfl⟩
  · next q => exact ⟨Classical.not_not.mp q, rfl⟩
/-- from what EXPR and tokens leave -/
theorem RT_mk {fb wb : Int} {f : Option Nat} (h : MS s L K P N B σ0 σ t dp Nn fb wb f) (hF : FB P F (z σ 94 48) (z σ 94 49)) (ht : ∀ y, F = some y → y.2 < t) (h21 : z σ 94 21 = (as : Int)) (ha : as ≤ t) : RT s L K P N B σ0 σ t dp Nn F as := by
  obtain ⟨hb, h8, h9, h44, -, -, -⟩ := id h
  have mono := hb.1.2.2.2.2.2.1
  refine ⟨⟨hb, h8, h9, h44, FA_self, fun q i h1 h2 => ?_, fun x q => by cases q⟩, hF, ht, h21, ha⟩
  cases F with
  | none => exact absurd hF q
  | some y =>
    have a : z σ 94 49 = P y.2 := hF.2.2
    have b := ht y rfl
    rw [a]
    exact Int.le_of_lt (mono y.2 i (by omega) h2)
theorem FA_none {a b fb wb : Int} (h : FA fb wb P none a b) : a = fb ∧ b = wb := by
  unfold FA at h
  split at h
  · exact h
  · next q => exact ⟨h.1.trans (Classical.not_not.mp q).symm, h.2⟩
theorem r_taken {Kk : Int → q_H → Prop} {Kx : Nat → q_H → Prop} (hd : 1 ≤ d) (h : RT s L K P N B σ0 σ t dp Nn F as)
    (kx : (30 < dp ∨ K t = 46 ∨ K t = 47) → ∀ τ, MQx s L K P N B σ0 τ t → Kx 100 τ)
    (k1 : dp ≤ 30 → K t ≠ 46 → K t ≠ 47 → ∀ τ, RT s L K P N B σ0 τ (t + 1) dp Nn F as → KN s Nn σ τ → Kk (t : Int) τ) : J ω m_M_taken d 0 0 0 0 0 [(0, .ref 94)] [] σ (q_ox (q_ki Kk) Kx) := by
  obtain ⟨hM, hF, ht, h21, ha⟩ := h
  refine m_taken hd hM kx (fun c1 c2 c3 τ hτ hk q21 => k1 c1 c2 c3 τ ?_ hk)
  obtain ⟨e1, e2⟩ := FA_none hτ.2.2.2.2.1
  exact RT_mk hτ (by rw [e1, e2]; exact hF) (fun y q => by have := ht y q; omega) (q21.trans h21) (by omega)
theorem r_expect {Kk : Int → q_H → Prop} {Kx : Nat → q_H → Prop} {c : Int} (hd : 2 ≤ d) (h : RT s L K P N B σ0 σ t dp Nn F as) (hc : 0 ≤ c ∧ c ≤ 45)
    (kx : (30 < dp ∨ K t ≠ c) → ∀ τ, MQx s L K P N B σ0 τ t → Kx 100 τ)
    (k1 : dp ≤ 30 → K t = c → ∀ τ, RT s L K P N B σ0 τ (t + 1) dp Nn F as → KN s Nn σ τ → Kk (t : Int) τ) : J ω m_M_expect d 0 0 0 0 0 [(0, .ref 94), (1, .int (zI (kmp c)))] [] σ (q_ox (q_ki Kk) Kx) := by
  obtain ⟨hM, hF, ht, h21, ha⟩ := h
  refine m_expect hd hM hc kx (fun c1 c2 τ hτ hk q21 => k1 c1 c2 τ ?_ hk)
  obtain ⟨e1, e2⟩ := FA_none hτ.2.2.2.2.1
  exact RT_mk hτ (by rw [e1, e2]; exact hF) (fun y q => by have := ht y q; omega) (q21.trans h21) (by omega)
theorem r_node {Kk : Int → q_H → Prop} {x1 x2 x3 x4 : Int} (h : RT s L K P N B σ0 σ t dp Nn F as) (hN : Nn + 1 ≤ t) (i1 : inR x1) (i2 : inR x2) (i3 : inR x3) (i4 : inR x4)
    (kk : ∀ τ, RT s L K P N B σ0 τ t dp (Nn + 1) F as → KN s Nn σ τ → z τ s Nn = x1 → z τ (s + 1) Nn = x2 → z τ (s + 2) Nn = x3 → z τ (s + 3) Nn = x4 → z τ (s + 4) Nn = -1 → Kk (Nn : Int) τ) : J ω m_M_node d 0 0 0 0 0 [(0, .ref 94), (1, .int (zI x1)), (2, .int (zI x2)), (3, .int (zI x3)), (4, .int (zI x4))] [] σ (q_ki Kk) := by
  obtain ⟨hM, hF, ht, h21, ha⟩ := h
  refine m_node hM hN i1 i2 i3 i4 (fun τ hτ hk q21 o0 o1 o2 o3 o4 o5 => kk τ ?_ hk o0 o1 o2 o3 o4)
  obtain ⟨e1, e2⟩ := FA_none hτ.2.2.2.2.1
  exact RT_mk hτ (by rw [e1, e2]; exact hF) ht (q21.trans h21) ha
theorem RT_d {e : Nat} (h : RT s L K P N B σ0 σ t dp Nn F as) (he : e ≤ 1000) : RT s L K P N B σ0 (zs σ 94 9 (e : Int)) t e Nn F as := by
  obtain ⟨hM, hF, ht, h21, ha⟩ := h
  exact RT_mk (MS_d hM he) (by rw [z_k (by decide), z_k (by decide)]; exact hF) ht (by rw [z_k (by decide)]; exact h21) ha
theorem r_expr {X : Nat → Nat → q_PR} {Kk : Int → q_H → Prop} {Kx : Nat → q_H → Prop} (hX : XO X K N B L) (hdp : dp ≤ 31) (hd : dB 0 dp ≤ d) (h : RT s L K P N B σ0 σ t dp Nn F as)
    (kx : ∀ x, X dp t = .error x → ∀ τ, MQx s L K P N B σ0 τ x → Kx 100 τ)
    (kk : ∀ t' e, X dp t = .ok (t', e) → ∀ (τ : q_H) (N' v : Nat), RT s L K P N B σ0 τ t' dp N' (F.or (xF e)) as → KN s Nn σ τ → Nn ≤ N' → N' + t ≤ Nn + t' → t < t' → XA s τ N' 384 v e → Kk (v : Int) τ) : J ω m_M_expr d 0 0 0 0 0 [(0, .ref 94)] [] σ (q_ox (q_ki Kk) Kx) := by
  obtain ⟨hM, hF, ht, h21, ha⟩ := h
  have tL := hM.2.1.2
  obtain ⟨n, hn⟩ := hX dp t tL
  have hn1 : pX K N B n 0 none dp t = some (X dp t) := hn n (Nat.le_refl _)
  refine (m_X n).1 dp t (X dp t) hdp hn1 d σ Nn none Kk Kx hd hM (fun x q τ hτ => kx x q τ hτ) (fun t' e q τ N' v hτ => ?_)
  obtain ⟨m1, m2, m3, m4, m5, m6⟩ := hτ
  rw [q] at hn1
  have nx := ((pX_next n 0 none dp t t' e (by omega) (fun q => absurd rfl q) hn1).2.2.1 rfl).1
  have hFA : FA (z σ 94 48) (z σ 94 49) P e.2.2.2 (z τ 94 48) (z τ 94 49) := m1.2.2.2.2.1
  refine kk t' e q τ N' v (RT_mk m1 (FB_FA hF hFA) (fun y hy => ?_) (m5.trans h21) (by omega)) m2 m3 m4 nx (XA_le m6 (by unfold kB; omega))
  cases hFF : F with
  | some y2 =>
    rw [hFF] at hy
    have : y2 = y := Option.some.inj hy
    subst this
    have := ht y2 hFF
    omega
  | none =>
    rw [hFF] at hy
    unfold xF at hy
    have l := m1.2.2.2.2.2.2
    cases he : e.2.2.2 with
    | none => rw [he] at hy; cases hy
    | some x =>
      rw [he] at hy
      cases hy
      exact l x he
theorem r_found {Kk : q_H → Prop} {y : Nat} {k : Int} {F0 G : Option (Int × Nat)} (h : RT s L K P N B σ0 σ t dp Nn (F0.or G) as) (hk : k ≠ 0) (hkR : inR k) (hy : y < t) (h1 : ∀ x, F0 = some x → x.2 ≤ y) (h2 : F0 = none → ∀ x, G = some x → y < x.2)
    (kk : ∀ τ, RT s L K P N B σ0 τ t dp Nn (F0.or (some (k, y))) as → KN s Nn σ τ → Kk τ) : J ω m_M_found d 0 0 0 0 0 [(0, .ref 94), (1, .int (zI k)), (2, .int (zI (y : Int)))] [] σ (q_kv Kk) := by
  obtain ⟨hM, hF, ht, h21, ha⟩ := h
  obtain ⟨hs, r0, r1, r2, r3, r4, r5⟩ := MB_r hM.1
  obtain ⟨hb, ⟨h8, hL⟩, h9, ⟨h44, hN0⟩, -, -, -⟩ := id hM
  have L4 := hb.1.2.1
  have e97 : z σ 97 y = P y := by rw [(MB_z (o := 97) hb ⟨by decide, by decide⟩).1]; exact (hb.1.2.2.1 y (by omega)).2.1
  have mono := hb.1.2.2.2.2.2.1
  have iP : inR (P y) := by rw [← e97]; exact z_R _ _ _
  have hyt : ∀ x, F0.or (some (k, y)) = some x → x.2 < t := fun x q => by
    cases F0 with
    | none => cases q; exact hy
    | some x0 => have := h1 x0 rfl; cases q; omega
  refine b_M_found_0 hs r0 r1 r2 r3 r4 r5 hb.2.1 ?_
  rw [Int.toNat_natCast, e97]
  have new : F0 = none → q_kv Kk (.inl none) (zs (zs σ 94 48 k) 94 49 (P y)) := fun q => by
    have o94 : ∀ j, j ≠ 48 → j ≠ 49 → z (zs (zs σ 94 48 k) 94 49 (P y)) 94 j = z σ 94 j := fun j a b => by rw [z_k b, z_k a]
    have e48 : z (zs (zs σ 94 48 k) 94 49 (P y)) 94 48 = k := by rw [z_k (by decide), z_s hkR]
    have e49 : z (zs (zs σ 94 48 k) 94 49 (P y)) 94 49 = P y := z_s iP
    refine ⟨rfl, kk _ (RT_mk (fb := k) (wb := P y) (f := none) ⟨MB_s (MB_s hb (by unfold SM; simp) (fun _ => by simp) hs) (by unfold SM; simp) (fun _ => by simp) hs, ⟨by rw [o94 8 (by decide) (by decide)]; exact h8, hL⟩, by rw [o94 9 (by decide) (by decide)]; exact h9, ⟨by rw [o94 44 (by decide) (by decide)]; exact h44, hN0⟩, by rw [e48, e49]; exact FA_self, fun _ i hi1 hi2 => Int.le_of_lt (mono y i (by omega) hi2), fun x q => by cases q⟩ ?_ hyt (by rw [o94 21 (by decide) (by decide)]; exact h21) ha) (fun i _ => ?_)⟩
    · rw [e48, e49, q]; exact ⟨rfl, hk, rfl⟩
    · rw [z_o (by omega), z_o (by omega), z_o (by omega), z_o (by omega), z_o (by omega), z_o (by omega), z_o (by omega), z_o (by omega), z_o (by omega), z_o (by omega), z_o (by omega), z_o (by omega)]
      exact ⟨rfl, rfl, rfl, rfl, rfl, rfl⟩
  have old : ∀ x0, F0 = some x0 → q_kv Kk (.inl none) σ := fun x0 q => ⟨rfl, kk σ (RT_mk hM (by rw [q] at hF ⊢; exact hF) hyt h21 ha) KN_refl⟩
  refine ⟨⟨by omega, by omega⟩, fun q => ?_, fun q => ⟨fun q2 => ?_, fun q2 => ?_⟩⟩
  · cases hF0 : F0 with
    | none => exact new hF0
    | some x0 => rw [hF0] at hF; exact absurd q hF.2.1
  · cases hF0 : F0 with
    | none => exact new hF0
    | some x0 =>
      rw [hF0] at hF
      have a : z σ 94 49 = P x0.2 := hF.2.2
      have b := h1 x0 hF0
      rcases Nat.lt_or_ge x0.2 y with c | c
      · have := mono x0.2 y c (by omega); omega
      · rw [show x0.2 = y by omega] at a; omega
  · cases hF0 : F0 with
    | some x0 => exact old x0 hF0
    | none =>
      cases hG : G with
      | none => rw [hF0, hG] at hF; exact absurd hF q
      | some x =>
        rw [hF0, hG] at hF
        have a : z σ 94 49 = P x.2 := hF.2.2
        have b := h2 hF0 x hG
        have c := ht x (by rw [hF0, hG]; rfl)
        have := mono y x.2 b (by omega)
        omega
end RsP
