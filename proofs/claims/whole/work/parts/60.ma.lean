/-! THE MACHINE, safety -/
/-- a PROGRAM that was built -/
def GP (p : Nat) (σ : q_H) : Prop := PW p σ ∧ (z σ p 0 ≤ z σ p 1 ∧ z σ p 1 ≤ 12 ∧ sm (z σ (p + 1)) (z σ p 0).toNat = z σ p 1) ∧ (0 ≤ z σ p 17 ∧ z σ p 17 ≤ 4096 ∧ ∀ i : Nat, (i : Int) < z σ p 17 → IT σ p i) ∧
  (0 ≤ z σ p 11 ∧ z σ p 11 ≤ 1638 ∧ ∀ i : Nat, (i : Int) < z σ p 11 → SVi (z σ p 17) (z σ p 11) (fun _ => False) (z σ (p + 5)) (z σ (p + 6)) (z σ (p + 7)) (z σ (p + 8)) (z σ (p + 9)) i) ∧ (0 ≤ z σ p 7 ∧ z σ p 7 ≤ 512) ∧ F1 (z σ p 11).toNat (z σ (p + 5)) (z σ (p + 7)) (z σ (p + 8)) ∧ (0 < z σ p 17 → 23 ≤ z σ (p + 10) 0) ∧ WD p σ
theorem GP_cong {p : Nat} {σ τ : q_H} (h : GP p σ) (hz : ∀ o, p ≤ o → o ≤ p + 12 → z τ o = z σ o) : GP p τ := by
  unfold GP PW IT WD
  rw [hz p (by omega) (by omega), hz (p + 1) (by omega) (by omega), hz (p + 3) (by omega) (by omega), hz (p + 5) (by omega) (by omega), hz (p + 6) (by omega) (by omega), hz (p + 7) (by omega) (by omega), hz (p + 8) (by omega) (by omega), hz (p + 9) (by omega) (by omega), hz (p + 10) (by omega) (by omega), hz (p + 11) (by omega) (by omega), hz (p + 12) (by omega) (by omega)]
  exact h
theorem GP_fr {p : Nat} {S : List Nat} {σ τ : q_H} (h : GP p σ) (f : fr S σ τ) (hS : ∀ o ∈ S, o < p ∨ p + 12 < o) : GP p τ :=
  GP_cong h fun o h1 h2 => fr_zF f (fun hc => by have := hS o hc; omega)
section MaP
variable {ω : q_W} {d m p w : Nat} {σ : q_H}
theorem m_fetch {K : Int → q_H → Prop} {x1 x2 : Int} (hm : m = 43 ∨ m = 87) (hp : p = 16 ∨ p = 29) (hw : w = 42 ∨ w = 91) (r5 : q_r σ m 5 = p) (r6 : q_r σ m 6 = w) (hE : q_E σ) (h1 : 23 ≤ x1 ∧ x1 ≤ 25) (h2 : 24 ≤ x1 → 0 ≤ x2 ∧ x2 < 12) (i2 : inR x2) (kk : ∀ v, inR v → K v σ) : J ω m_Ma_fetch d 0 0 0 0 0 [(0, .ref m), (1, .int (zI x1)), (2, .int (zI x2))] [] σ (q_ki K) :=
  b_Ma_fetch_0 hm hp hw r5 r6 hE ⟨⟨by omega, by omega⟩, fun c => ⟨fun _ => ⟨h2 (by omega), _, z_R _ _ _, rfl, kk _ (z_R _ _ _)⟩, fun _ => ⟨h2 (by omega), _, z_R _ _ _, rfl, kk _ (z_R _ _ _)⟩⟩, fun _ => ⟨_, i2, rfl, kk _ i2⟩⟩
theorem zI_wrap (e : Int) : zI e = zI (zI e).toInt := zI_of _
theorem q_kiw {K : Int → q_H → Prop} {e : Int} (h : ∀ v, inR v → K v σ) : q_ki K (.inl (some (.int (zI e)))) σ := ⟨(zI e).toInt, inR_of _, by rw [← zI_wrap], h _ (inR_of _)⟩
theorem m_single {K : Int → q_H → Prop} {x0 x1 : Int} (hd : 1 ≤ d) (hE : q_E σ) (i0 : inR x0) (i1 : inR x1) (kk : ∀ v, inR v → K v σ) : J ω m_Ma_single d 0 0 0 0 0 [(0, .int (zI x0)), (1, .int (zI x1))] [] σ (q_ki K) := by
  obtain ⟨d, rfl⟩ : ∃ k, d = k + 1 := ⟨d - 1, by omega⟩
  exact b_Ma_single_0 hE ⟨i0, fun _ => ⟨fun _ => q_kiw kk, fun _ => q_kiw kk⟩, fun _ => ⟨i1, fun _ => q_kiw kk, fun _ => q_kiw kk⟩⟩
theorem m_arithmetic {K : Int → q_H → Prop} {x0 x1 x2 x3 : Int} (hE : q_E σ) (i0 : inR x0) (i2 : inR x2) (i3 : inR x3) (kk : ∀ v, inR v → K v σ) : J ω m_Ma_arithmetic d 0 0 0 0 0 [(0, .int (zI x0)), (1, .int (zI x1)), (2, .int (zI x2)), (3, .int (zI x3))] [] σ (q_ki K) :=
  b_Ma_arithmetic_0 hE ⟨i0, fun _ => ⟨i2, i3, fun _ => q_kiw kk, fun _ => q_kiw kk⟩, fun _ => ⟨i2, i3, fun _ => q_kiw kk, fun _ => q_kiw kk⟩, fun _ => q_kiw kk, fun _ => q_kiw kk, fun _ => q_kiw kk, fun _ => ⟨i2, fun c => ⟨⟨i2, c⟩, q_kiw kk⟩, fun _ => q_kiw kk⟩, fun _ => ⟨i2, fun c => ⟨⟨i2, c⟩, q_kiw kk⟩, fun _ => q_kiw kk⟩⟩
theorem m_both {K : Int → q_H → Prop} {x0 x1 x2 x3 : Int} (hd : 1 ≤ d) (hE : q_E σ) (i0 : inR x0) (i1 : inR x1) (i2 : inR x2) (i3 : inR x3) (kk : ∀ v, inR v → K v σ) : J ω m_Ma_both d 0 0 0 0 0 [(0, .int (zI x0)), (1, .int (zI x1)), (2, .int (zI x2)), (3, .int (zI x3))] [] σ (q_ki K) := by
  obtain ⟨d, rfl⟩ : ∃ k, d = k + 1 := ⟨d - 1, by omega⟩
  exact b_Ma_both_0 hE ⟨i0, fun _ => ⟨i1, fun _ => q_kiw kk, fun _ => ⟨i2, fun _ => q_kiw kk, fun _ => q_kiw kk⟩⟩, fun _ => ⟨i1, fun _ => q_kiw kk, fun _ => ⟨i2, fun _ => q_kiw kk, fun _ => q_kiw kk⟩⟩, fun _ => q_kiw kk, fun _ => q_kiw kk, fun _ => q_kiw kk, fun _ => ⟨i1, i2, fun _ => q_kiw kk, fun _ => q_kiw kk⟩, fun _ => ⟨i1, i2, fun _ => q_kiw kk, fun _ => q_kiw kk⟩, fun _ => ⟨i1, i2, fun _ => q_kiw kk, fun _ => q_kiw kk⟩, fun _ => ⟨i1, i2, fun _ => q_kiw kk, fun _ => q_kiw kk⟩, fun _ => ⟨i1, i2, fun _ => q_kiw kk, fun _ => q_kiw kk⟩, fun _ => ⟨i1, i2, fun _ => q_kiw kk, fun _ => q_kiw kk⟩, fun _ => m_arithmetic hE i0 i2 i3 (fun v iv => b_Ma_both_197 hE ⟨v, iv, rfl, kk v iv⟩)⟩
/-- while the machine runs: only its own rows change -/
def MX (m p w : Nat) (σ0 σ : q_H) : Prop := q_E σ ∧ q_r σ m 5 = p ∧ q_r σ m 6 = w ∧ GP p σ ∧ fr [m, m + 1, m + 2, m + 3] σ0 σ
theorem MX_s {σ0 : q_H} {o k : Nat} {e : Int} (hm : m = 43 ∨ m = 87) (hp : p = 16 ∨ p = 29) (h : MX m p w σ0 σ) (ho : o ∈ [m, m + 1, m + 2, m + 3]) : MX m p w σ0 (zs σ o k e) := by
  obtain ⟨a, b, c, g, f⟩ := h
  refine ⟨zs_E a, b, c, GP_fr (S := [o]) g (fr_s fr_refl (by simp)) (fun x hx => ?_), fr_s f ho⟩
  simp at hx ho
  omega
theorem l_Ma_worth_5 {K : Int → q_H → Prop} {σ0 : q_H} (hd : 2 ≤ d) (hm : m = 43 ∨ m = 87) (hp : p = 16 ∨ p = 29) (hw : w = 42 ∨ w = 91) {x2 : Int} (h2 : x2 ≤ 4096) (i2 : inR x2) (kk : ∀ v τ, inR v → MX m p w σ0 τ → z τ m = z σ0 m → K v τ) :
    ∀ (k : Nat) (x3 x4 : Int) (σ : q_H), x2 ≤ x4 + k → 0 ≤ x4 → x4 ≤ 4096 → 0 ≤ x3 ∧ x3 ≤ 400 → x2 ≤ z σ p 17 → MX m p w σ0 σ → z σ m = z σ0 m → J ω m_Ma_worth (d + 1) 0 0 0 0 5 [(0, .ref m), (2, .int (zI x2)), (3, .int (zI x3)), (4, .int (zI x4))] [] σ (q_ki K) := by
  intro k
  induction k with
  | zero =>
    intro x3 x4 σ hk h0 h4 h3 h17 hx e0
    obtain ⟨hE, r5, r6, g, f⟩ := id hx
    exact b_Ma_worth_5 hm hp hw r5 r6 hE ⟨⟨by omega, by omega⟩, i2, fun _ => ⟨⟨by omega, by omega⟩, fun _ => ⟨0, ⟨by decide, by decide⟩, rfl, kk 0 σ ⟨by decide, by decide⟩ hx e0⟩, fun _ => ⟨_, z_R _ _ _, rfl, kk _ σ (z_R _ _ _) hx e0⟩⟩, fun c => absurd c (by omega)⟩
  | succ k ih =>
    intro x3 x4 σ hk h0 h4 h3 h17 hx e0
    obtain ⟨hE, r5, r6, g, f⟩ := id hx
    have wr : ∀ (a : Nat) (e : Int), MX m p w σ0 (zs σ (m + 3) a e) ∧ z (zs σ (m + 3) a e) m = z σ0 m ∧ x2 ≤ z (zs σ (m + 3) a e) p 17 := fun a e => ⟨MX_s hm hp hx (by simp), by rw [z_oF (by omega)]; exact e0, by rw [z_o (by omega)]; exact h17⟩
    have nx : ∀ (a : Nat) (e x3' : Int), 0 ≤ x3' ∧ x3' ≤ 400 → x4 < x2 → J ω m_Ma_worth (d + 1) 0 0 0 0 5 [(0, .ref m), (2, .int (zI x2)), (3, .int (zI x3')), (4, .int (zI (x4 + 1)))] [] (zs σ (m + 3) a e) (q_ki K) := fun a e x3' hx3 hlt => ih x3' (x4 + 1) _ (by omega) (by omega) (by omega) hx3 (wr a e).2.2 (wr a e).1 (wr a e).2.1
    have g173 : ∀ x5 x6 : Int, inR x5 → inR x6 → x4 < x2 → J ω m_Ma_worth (d + 1) 0 0 0 0 173 [(0, .ref m), (2, .int (zI x2)), (3, .int (zI x3)), (4, .int (zI x4)), (5, .int (zI x5)), (6, .int (zI x6))] [] σ (q_ki K) := by
      intro x5 x6 i5 i6 hlt
      refine b_Ma_worth_173 hm hp hw r5 r6 hE ⟨⟨by omega, by omega⟩, fun _ => ih x3 (x4 + 1) σ (by omega) (by omega) (by omega) h3 h17 hx e0, fun c => ⟨⟨by omega, by omega⟩, ⟨by omega, by omega⟩, m_both (by omega) hE i5 (z_R _ _ _) (z_R _ _ _) i6 (fun v iv => b_Ma_worth_209 hm hp hw r5 r6 hE ⟨i6, ⟨by omega, by omega⟩, nx _ _ _ ⟨by omega, by omega⟩ hlt⟩)⟩⟩
    have g131 : ∀ x5 x6 : Int, inR x5 → inR x6 → x4 < x2 → J ω m_Ma_worth (d + 1) 0 0 0 0 131 [(0, .ref m), (2, .int (zI x2)), (3, .int (zI x3)), (4, .int (zI x4)), (5, .int (zI x5)), (6, .int (zI x6))] [] σ (q_ki K) := by
      intro x5 x6 i5 i6 hlt
      refine b_Ma_worth_131 hm hp hw r5 r6 hE ⟨i5, fun _ => g173 x5 x6 i5 i6 hlt, fun _ => ⟨⟨by omega, by omega⟩, fun _ => g173 x5 x6 i5 i6 hlt, fun c => ⟨⟨by omega, by omega⟩, m_single (by omega) hE i5 (z_R _ _ _) (fun v iv => b_Ma_worth_163 hm hp hw r5 r6 hE ⟨i6, ⟨by omega, by omega⟩, nx _ _ _ h3 hlt⟩)⟩⟩⟩
    have g77 : ∀ x5 x6 : Int, inR x5 → inR x6 → x4 < x2 → J ω m_Ma_worth (d + 1) 0 0 0 0 77 [(0, .ref m), (2, .int (zI x2)), (3, .int (zI x3)), (4, .int (zI x4)), (5, .int (zI x5)), (6, .int (zI x6))] [] σ (q_ki K) := by
      intro x5 x6 i5 i6 hlt
      refine b_Ma_worth_77 hm hp hw r5 r6 hE ⟨i5, fun _ => g131 x5 x6 i5 i6 hlt, fun _ => ⟨⟨by omega, by omega⟩, fun _ => g131 x5 x6 i5 i6 hlt, fun c => ⟨⟨by omega, by omega⟩, fun _ => ⟨⟨by omega, by omega⟩, nx _ _ _ ⟨by omega, by omega⟩ hlt⟩, fun _ => ⟨⟨by omega, by omega⟩, nx _ _ _ ⟨by omega, by omega⟩ hlt⟩⟩⟩⟩
    refine b_Ma_worth_5 hm hp hw r5 r6 hE ⟨⟨by omega, by omega⟩, i2, fun _ => ⟨⟨by omega, by omega⟩, fun _ => ⟨0, ⟨by decide, by decide⟩, rfl, kk 0 σ ⟨by decide, by decide⟩ hx e0⟩, fun _ => ⟨_, z_R _ _ _, rfl, kk _ σ (z_R _ _ _) hx e0⟩⟩, fun c => ⟨⟨by omega, by omega⟩, fun _ => g77 _ _ (z_R _ _ _) (z_R _ _ _) c, fun c23 => ⟨⟨by omega, by omega⟩, fun _ => g77 _ _ (z_R _ _ _) (z_R _ _ _) c, fun c400 => ?_⟩⟩⟩
    have hit := g.2.2.1.2.2 x4.toNat (by omega)
    exact m_fetch hm hp hw r5 r6 hE ⟨c23, hit.2.1⟩ hit.2.2.1 (z_R _ _ _) (fun v iv => b_Ma_worth_70 hm hp hw r5 r6 hE ⟨⟨by omega, by omega⟩, nx _ _ _ ⟨by omega, by omega⟩ c⟩)
theorem m_worth {K : Int → q_H → Prop} {x1 x2 : Int} (hd : 3 ≤ d) (hm : m = 43 ∨ m = 87) (hp : p = 16 ∨ p = 29) (hw : w = 42 ∨ w = 91) (hx : MX m p w σ σ) (h1 : 0 ≤ x1 ∧ x1 ≤ x2 ∧ x2 ≤ z σ p 17) (kk : ∀ v τ, inR v → MX m p w σ τ → z τ m = z σ m → K v τ) : J ω m_Ma_worth d 0 0 0 0 0 [(0, .ref m), (1, .int (zI x1)), (2, .int (zI x2))] [] σ (q_ki K) := by
  obtain ⟨d, rfl⟩ : ∃ k, d = k + 1 := ⟨d - 1, by omega⟩
  obtain ⟨hE, r5, r6, g, f⟩ := id hx
  have g17 := g.2.2.1.2.1
  exact b_Ma_worth_0 hm hp hw r5 r6 hE (l_Ma_worth_5 (by omega) hm hp hw (by omega) ⟨by omega, by omega⟩ kk 4096 0 x1 σ (by omega) h1.1 (by omega) ⟨by decide, by decide⟩ h1.2.2 hx rfl)
theorem m_enter {K : Int → q_H → Prop} {σ0 : q_H} {x1 x2 : Int} (hm : m = 43 ∨ m = 87) (hp : p = 16 ∨ p = 29) (hw : w = 42 ∨ w = 91) (hx : MX m p w σ0 σ) (h1 : inR (x1 + 1)) (h2 : 0 ≤ x2 ∧ x2 < 32) (kk : ∀ τ, MX m p w σ0 τ → K (x1 + 1) τ) : J ω m_Ma_enter d 0 0 0 0 0 [(0, .ref m), (1, .int (zI x1)), (2, .int (zI x2))] [] σ (q_ki K) := by
  have go : ∀ τ, MX m p w σ0 τ → J ω m_Ma_enter d 0 0 0 0 14 [(0, .ref m), (1, .int (zI x1)), (2, .int (zI x2))] [] τ (q_ki K) := fun τ ht => by
    obtain ⟨hE, r5, r6, g, f⟩ := id ht
    exact b_Ma_enter_14 hm hp hw r5 r6 hE ⟨h2, _, h1, rfl, kk _ (MX_s hm hp ht (by simp))⟩
  obtain ⟨hE, r5, r6, g, f⟩ := id hx
  exact b_Ma_enter_0 hm hp hw r5 r6 hE ⟨h2, fun _ => go σ hx, fun _ => go _ (MX_s hm hp hx (by simp))⟩
theorem m_perform {K : Int → q_H → Prop} {σ0 : q_H} {x1 x2 : Int} (hd : 1 ≤ d) (hm : m = 43 ∨ m = 87) (hp : p = 16 ∨ p = 29) (hw : w = 42 ∨ w = 91) (hx : MX m p w σ0 σ) (h1 : 0 ≤ x1 ∧ x1 < z σ p 11) (i2 : inR x2) (kk : ∀ v τ, 0 ≤ v ∧ v ≤ z σ p 11 → MX m p w σ0 τ → z τ p 11 = z σ p 11 → K v τ) : J ω m_Ma_perform d 0 0 0 0 0 [(0, .ref m), (1, .int (zI x1)), (2, .int (zI x2))] [] σ (q_ki K) := by
  obtain ⟨d, rfl⟩ : ∃ k, d = k + 1 := ⟨d - 1, by omega⟩
  obtain ⟨hE, r5, r6, g, f⟩ := id hx
  obtain ⟨n0, n1, n2⟩ := g.2.2.2.1
  obtain ⟨s1, s2, s3, s4, s5, s6, s7, s8, s9, s10, s11⟩ := n2 x1.toNat (by omega)
  have ret : ∀ (v : Int) τ, 0 ≤ v ∧ v ≤ z σ p 11 → MX m p w σ0 τ → z τ p 11 = z σ p 11 → q_ki K (.inl (some (.int (zI v)))) τ := fun v τ hv ht e => ⟨v, ⟨by omega, by omega⟩, rfl, kk v τ hv ht e⟩
  have px : ∀ (o k : Nat) (e : Int), o ∈ [m, m + 1, m + 2, m + 3] → z (zs σ o k e) p 11 = z σ p 11 := fun o k e ho => z_o (by simp at ho; omega)
  refine b_Ma_perform_0 hm hp hw r5 r6 hE ⟨⟨by omega, by omega⟩, fun c => ⟨s3 c, ret _ _ ⟨by omega, by omega⟩ (MX_s hm hp hx (by simp)) (px _ _ _ (by simp))⟩, fun c => ⟨i2, fun _ => ret _ _ ⟨by omega, by omega⟩ hx rfl, fun _ => ret _ _ ⟨by omega, by omega⟩ (MX_s hm hp (MX_s hm hp hx (by simp)) (by simp)) ?_⟩, fun c => ⟨i2, fun _ => ret _ _ ⟨by omega, by omega⟩ hx rfl, fun _ => ret _ _ ⟨by omega, by omega⟩ (MX_s hm hp hx (by simp)) (px _ _ _ (by simp))⟩, fun c => ⟨i2, fun _ => ret _ _ ⟨by omega, by omega⟩ hx rfl, fun _ => ret _ _ (s7 (by omega)) hx rfl⟩, fun c => ret _ _ (s7 (by omega)) hx rfl, fun c => ⟨s5 c, ret _ _ ⟨by omega, by omega⟩ (MX_s hm hp hx (by simp)) (px _ _ _ (by simp))⟩, fun c => ⟨i2, fun _ => ?_, fun _ => ret _ _ (s7 (by omega)) hx rfl⟩, fun c => ret _ _ ⟨by omega, by omega⟩ hx rfl⟩
  · rw [z_o (by omega), z_o (by omega)]
  · refine m_enter hm hp hw hx ⟨by omega, by omega⟩ (s6 c) (fun τ ht => ?_)
    obtain ⟨hE2, r52, r62, g2, f2⟩ := id ht
    refine b_Ma_perform_190 hm hp hw r52 r62 hE2 (ret _ _ ⟨by omega, by omega⟩ ht ?_)
    rw [fr_zF f2 (by simp; omega), fr_zF f (by simp; omega)]
theorem m_run {K : q_H → Prop} {σ0 : q_H} (hd : 3 ≤ d) (hm : m = 43 ∨ m = 87) (hp : p = 16 ∨ p = 29) (hw : w = 42 ∨ w = 91) (kk : ∀ τ, MX m p w σ0 τ → K τ) : ∀ (k i : Nat) (x3 : Int) (σ : q_H), 1000000 ≤ i + k → i ≤ 1000000 → 0 ≤ x3 → inR x3 → MX m p w σ0 σ → J ω m_Ma_execute (d + 1) 0 0 0 0 19 [(0, .ref m), (3, .int (zI x3)), (4, .int (zI (i : Int)))] [] σ (q_kv K) := by
  intro k
  induction k with
  | zero =>
    intro i x3 σ hi h1 h3 i3 hx
    obtain ⟨hE, r5, r6, g, f⟩ := id hx
    exact b_Ma_execute_19 hm hp hw r5 r6 hE ⟨⟨by omega, by omega⟩, fun _ => ⟨rfl, kk σ hx⟩, fun c => absurd c (by omega)⟩
  | succ k ih =>
    intro i x3 σ hi h1 h3 i3 hx
    obtain ⟨hE, r5, r6, g, f⟩ := id hx
    obtain ⟨n0, n1, n2⟩ := g.2.2.2.1
    refine b_Ma_execute_19 hm hp hw r5 r6 hE ⟨⟨by omega, by omega⟩, fun _ => ⟨rfl, kk σ hx⟩, fun ci => ⟨fun _ => ⟨rfl, kk σ hx⟩, fun _ => ⟨i3, fun _ => ⟨rfl, kk σ hx⟩, fun c => ⟨⟨h3, by omega⟩, ?_⟩⟩⟩⟩
    have s := n2 x3.toNat (by omega)
    refine m_worth (by omega) hm hp hw ⟨hE, r5, r6, g, fr_refl⟩ ⟨s.2.1.1, s.2.1.2.1, s.2.1.2.2⟩ (fun v τ iv ht e => ?_)
    obtain ⟨hE2, r52, r62, g2, f2⟩ := id ht
    have e11 : z τ p 11 = z σ p 11 := by rw [fr_zF f2 (by simp; omega)]
    refine b_Ma_execute_68 hm hp hw r52 r62 hE2 (m_perform (σ0 := σ0) (by omega) hm hp hw ⟨hE2, r52, r62, g2, fr_trans f f2⟩ ⟨h3, by omega⟩ iv (fun v2 ρ hv2 hr e2 => ?_))
    obtain ⟨hE3, r53, r63, g3, f3⟩ := id hr
    exact b_Ma_execute_71 hm hp hw r53 r63 hE3 (ih (i + 1) v2 ρ (by omega) (by omega) hv2.1 ⟨by omega, by omega⟩ hr)
/-- forget and execute, whatever the machine held -/
theorem m_forget {K : q_H → Prop} (hd : 1 ≤ d) (hm : m = 43 ∨ m = 87) (hE : q_E σ) (kk : K (zs (zs (zfl σ (m + 1) 12 0) m 0 0) m 1 (-1))) : J ω m_Ma_forget d 0 0 0 0 0 [(0, .ref m)] [] σ (q_kv K) := by
  obtain ⟨d, rfl⟩ : ∃ k, d = k + 1 := ⟨d - 1, by omega⟩
  exact b0_Ma_forget_0 hm hE ⟨rfl, kk⟩
/-- the same, also in the references but two -/
def frE (S : List Nat) (R : Nat → Nat → Prop) (σ τ : q_H) : Prop := q_n τ = q_n σ ∧ q_t τ = q_t σ ∧ (∀ o k, ¬ R o k → q_r τ o k = q_r σ o k) ∧ ∀ o, o ∉ S → q_i τ o = q_i σ o ∧ q_l τ o = q_l σ o
theorem m_execute {K : q_H → Prop} (hd : 4 ≤ d) (hm : m = 43 ∨ m = 87) (hp : p = 16 ∨ p = 29) (hw : w = 42 ∨ w = 91) (hE : q_E σ) (g : GP p σ) (kk : ∀ τ, MX m p w (zr (zr σ m 5 p) m 6 w) τ → K τ) : J ω m_Ma_execute d 0 0 0 0 0 [(0, .ref m), (1, .ref p), (2, .ref w)] [] σ (q_kv K) := by
  obtain ⟨d, rfl⟩ : ∃ k, d = k + 1 := ⟨d - 1, by omega⟩
  refine b0_Ma_execute_0 hm hp hw hE (m_forget (by omega) hm hE (b0_Ma_execute_4 hm hp hw (zs_E (zs_E (zfl_E hE))) ?_))
  have hdy : q_dyn m 5 = true ∧ q_dyn m 6 = true := by rcases hm with rfl | rfl <;> decide
  have E2 : q_E (zr (zr (zs (zs (zfl σ (m + 1) 12 0) m 0 0) m 1 (-1)) m 5 p) m 6 w) := zr_E (zr_E (zs_E (zs_E (zfl_E hE))) hdy.1) hdy.2
  refine m_run (σ0 := zr (zr σ m 5 p) m 6 w) (by omega) hm hp hw kk 1000000 0 0 _ (by decide) (by decide) (by decide) ⟨by decide, by decide⟩ ⟨E2, ?_, zr_s, ?_, ?_⟩
  · rw [zr_k (by decide), zr_s]
  · refine GP_cong g (fun o h1 h2 => ?_)
    show z (zs (zs (zfl σ (m + 1) 12 0) m 0 0) m 1 (-1)) o = z σ o
    rw [z_oF (by omega), z_oF (by omega)]
    exact funext fun j => z_fl_o (by omega)
  · refine ⟨rfl, rfl, rfl, fun o ho => ⟨?_, rfl⟩⟩
    simp at ho
    show q_i (zs (zs (zfl σ (m + 1) 12 0) m 0 0) m 1 (-1)) o = q_i σ o
    funext j
    rw [qs_o (by omega), qs_o (by omega), zfl_o (by omega)]
end MaP
