/-! The reference runs STATEMENTS as the steps go -/
def cBd (V L w E : Nat) : Prop := (V = 0 → E ≤ L) ∧ (V ≠ 0 → 8 * E ≤ L * (8 + w))
def tBd (V k L w E : Nat) : Prop := (V = 0 → E ≤ 9 * (L * k)) ∧ (V ≠ 0 → 8 * E ≤ L * (8 + w))
theorem bd_2 {L E w w1 a b : Nat} (h : 8 * E ≤ L * (8 + w1)) (hw : w1 ≤ w) (hab : a ≤ b) : 8 * (E + a) ≤ (L + b) * (8 + w) := by
  have h1 : L * (8 + w1) ≤ L * (8 + w) := Nat.mul_le_mul_left _ (by omega)
  have h2 : b * 8 ≤ b * (8 + w) := Nat.mul_le_mul_left _ (by omega)
  rw [Nat.add_mul]
  omega
theorem bd_3 {L E k a b : Nat} (h : E ≤ 9 * (L * k)) (hab : a ≤ 9 * b) : E + a ≤ 9 * ((L + b) * (k + 1)) := by
  have : (L + b) * (k + 1) = L * k + L + (b * k + b) := by rw [Nat.add_mul, Nat.mul_succ, Nat.mul_succ]
  omega
theorem cBd_1 {V L w E : Nat} (h : E ≤ L) : cBd V L w E := ⟨fun _ => h, fun _ => by
  have := Nat.mul_le_mul h (show 8 ≤ 8 + w by omega)
  omega⟩
theorem tBd_1 {V k L w E : Nat} (h : E ≤ L) : tBd V (k + 1) L w E := ⟨fun _ => by
  have : L * (k + 1) = L * k + L := Nat.mul_succ _ _
  omega, (cBd_1 h).2⟩
theorem cBd_a {V L w w1 E a b : Nat} (h : cBd V L w1 E) (hw : w1 ≤ w) (hab : a ≤ b) : cBd V (L + b) w (E + a) := ⟨fun q => by have := h.1 q; omega, fun q => bd_2 (h.2 q) hw hab⟩
theorem tBd_a {V k L w w1 E a b : Nat} (h : tBd V k L w1 E) (hw : w1 ≤ w) (hab : a ≤ b) : tBd V (k + 1) (L + b) w (E + a) := ⟨fun q => bd_3 (h.1 q) (by omega), fun q => bd_2 (h.2 q) hw hab⟩
theorem cBd_add {V L1 L2 w1 w2 E1 E2 : Nat} (h1 : cBd V L1 w1 E1) (h2 : cBd V L2 w2 E2) : cBd V (L1 + L2) (w1 + w2) (E1 + E2) := ⟨fun q => by have := h1.1 q; have := h2.1 q; omega, fun q => by
  have a := bd_2 (h1.2 q) (show w1 ≤ w1 + w2 by omega) (Nat.le_refl 0)
  have b := bd_2 (h2.2 q) (show w2 ≤ w1 + w2 by omega) (Nat.le_refl 0)
  rw [Nat.add_mul]
  simp only [Nat.add_zero] at a b
  omega⟩
theorem tBd_add {V k L1 L2 w1 w2 E1 E2 : Nat} (h1 : cBd V L1 w1 E1) (hk : 1 ≤ k) (h2 : tBd V k L2 w2 E2) : tBd V k (L1 + L2) (w1 + w2) (E1 + E2) := ⟨fun q => by
  have a := h1.1 q
  have b := h2.1 q
  have c : L1 * 1 ≤ L1 * k := Nat.mul_le_mul_left _ hk
  rw [Nat.add_mul]
  omega, fun q => by
  have a := bd_2 (h1.2 q) (show w1 ≤ w1 + w2 by omega) (Nat.le_refl 0)
  have b := bd_2 (h2.2 q) (show w2 ≤ w1 + w2 by omega) (Nat.le_refl 0)
  rw [Nat.add_mul]
  simp only [Nat.add_zero] at a b
  omega⟩
theorem tBd_l {V k L1 L2 w1 w2 E1 : Nat} (h1 : tBd V k L1 w1 E1) : tBd V k (L1 + L2) (w1 + w2) E1 := ⟨fun q => by
  have a := h1.1 q
  rw [Nat.add_mul]
  omega, fun q => by
  have := bd_2 (h1.2 q) (show w1 ≤ w1 + w2 by omega) (Nat.zero_le L2)
  simpa using this⟩
theorem tBd_k {V k L w E : Nat} (h1 : tBd V k L w E) : tBd V (k + 1) L w E := ⟨fun q => by
  have a := h1.1 q
  have : L * (k + 1) = L * k + L := Nat.mul_succ _ _
  omega, h1.2⟩
/-- rounds of a loop -/
theorem wb_c {E r Lb w1 w ew V : Nat} (h : 8 * E ≤ 8 + r * (16 + Lb * (8 + w1))) (hw : w = r * (ew + w1 + 8 * V) + ew) (hV : V ≠ 0) : 8 * (E + 1) ≤ (Lb + 3) * (8 + w) := by
  have p0 : r * 8 ≤ r * (8 + w1) := Nat.mul_le_mul_left _ (by omega)
  have p1 : r * (8 + w1) ≤ r * (ew + w1 + 8 * V) := Nat.mul_le_mul_left _ (by omega)
  have p2 : r * (16 + Lb * (8 + w1)) = r * 16 + Lb * (r * (8 + w1)) := by rw [Nat.mul_add, Nat.mul_left_comm]
  generalize r * (8 + w1) = P at p0 p1 p2
  have p3 : (Lb + 3) * (8 + P) ≤ (Lb + 3) * (8 + w) := Nat.mul_le_mul_left _ (by omega)
  have p4 : (Lb + 3) * (8 + P) = Lb * 8 + Lb * P + 3 * (8 + P) := by rw [Nat.add_mul, Nat.mul_add]
  generalize Lb * P = LP at p2 p4
  omega
def RR (s : Nat) (σ0 σ : q_H) (f : Int) : Prop := RQ s σ ∧ fr [94, 128, 130] σ0 σ ∧ (∀ k, k ≠ 61 → z σ 94 k = z σ0 94 k) ∧ z σ 94 61 = f ∧ ∀ i, i < 16 → 0 ≤ z σ 128 i
/-- what steps keep to -/
def sP (WI WU : Nat → Int) (V : Nat) (l : List q_St) : Prop := ∀ x, x ∈ l → gI (cI WI WU V) x.2.2.2 ∧ x.2.2.2.length ≤ 8000
theorem sP_app {WI WU : Nat → Int} {V : Nat} {a b : List q_St} : sP WI WU V (a ++ b) ↔ sP WI WU V a ∧ sP WI WU V b := by
  unfold sP
  constructor
  · intro h; exact ⟨fun x hx => h x (List.mem_append.mpr (Or.inl hx)), fun x hx => h x (List.mem_append.mpr (Or.inr hx))⟩
  · intro h x hx
    rcases List.mem_append.mp hx with q | q
    · exact h.1 x q
    · exact h.2 x q
theorem sP_cons {WI WU : Nat → Int} {V : Nat} {a : q_St} {b : List q_St} : sP WI WU V (a :: b) ↔ (gI (cI WI WU V) a.2.2.2 ∧ a.2.2.2.length ≤ 8000) ∧ sP WI WU V b := by
  unfold sP
  constructor
  · intro h; exact ⟨h a (by simp), fun x hx => h x (by simp [hx])⟩
  · intro h x hx
    rcases List.mem_cons.mp hx with q | q
    · rw [q]; exact h.1
    · exact h.2 x q
/-- the standing of a run: σ0 its start -/
def RU (Nt : Nat → q_It) (V : Nat) (WI WU : Nat → Int) (σ0 : q_H) : Prop := z σ0 94 65 = 0 ∧ n16 (z σ0 125) ∧ uO WI (nw (z σ0 125)) ∧ ∀ t v w, Nt t = (25, v, w) → cI WI WU V (25, v, w)
/-- what is to be shown of a STATEMENT -/
def OX (ω : q_W) (Nt : Nat → q_It) (V s : Nat) (σ0 : q_H) (lo : Nat) (WI WU : Nat → Int) (S : List q_St) (k : Nat) : Prop := ∀ (σ : q_H) (n i lp : Nat) (l : List q_St) (w d : Nat) (R : Nat → Int) (Kk : Int → q_H → Prop), NS Nt V s σ0 lo k n i lp l w → n ≤ 4096 → sP WI WU V l → At S i l → RR s σ0 σ (-1) → uO WU (nw (z σ 128)) → 2 * k + 780 ≤ d →
  (∀ (τ : q_H) (R' : Nat → Int) (E : Nat), RR s σ0 τ (-1) → uO WU (nw (z τ 128)) → (V = 0 → nw (z τ 128) = nw (z σ 128)) → mIt S WU (nw (z σ0 125)) E (i, nw (z σ 128), R) = .inl (i + l.length, nw (z τ 128), R') → (∀ j, j < lp → R' j = R j) → cBd V l.length w E → Kk 0 τ) →
  (∀ (τ : q_H) (v f : Int) (E : Nat), RR s σ0 τ f → mIt S WU (nw (z σ0 125)) E (i, nw (z σ 128), R) = .inr (v, f, nw (z τ 128)) → (v = 1 ∨ v = 2) → tBd V k l.length w E → Kk v τ) → J ω m_M_one d 0 0 0 0 0 [(0, .ref 94), (1, .int (zI (n : Int)))] [] σ (q_ki Kk)
section OgP
variable {ω : q_W} {Nt : Nat → q_It} {V s lo : Nat} {σ0 σ : q_H} {WI WU : Nat → Int} {S : List q_St}
theorem RR_z {f : Int} (h : RR s σ0 σ f) : z σ s = z σ0 s ∧ z σ (s + 1) = z σ0 (s + 1) ∧ z σ (s + 2) = z σ0 (s + 2) ∧ z σ (s + 3) = z σ0 (s + 3) ∧ z σ (s + 4) = z σ0 (s + 4) ∧ z σ (s + 5) = z σ0 (s + 5) ∧ z σ 125 = z σ0 125 := by
  obtain ⟨⟨⟨a, -⟩, -⟩, g, -⟩ := h
  have nn : ∀ o, (o = s ∨ o = s + 1 ∨ o = s + 2 ∨ o = s + 3 ∨ o = s + 4 ∨ o = s + 5 ∨ o = 125) → o ∉ [94, 128, 130] := fun o ho => by simp; omega
  exact ⟨fr_zF g (nn _ (by omega)), fr_zF g (nn _ (by omega)), fr_zF g (nn _ (by omega)), fr_zF g (nn _ (by omega)), fr_zF g (nn _ (by omega)), fr_zF g (nn _ (by omega)), fr_zF g (nn _ (by omega))⟩
theorem RR_SE {τ : q_H} {f : Int} (h : RR s σ0 σ f) (g : SE σ τ) : RR s σ0 τ f ∧ z τ 128 = z σ 128 := by
  obtain ⟨⟨⟨a, r⟩, hE⟩, g0, h1, h2, h3⟩ := h
  have e : z τ 128 = z σ 128 := fr_zF g.1 (by decide)
  refine ⟨⟨⟨⟨a, ?_⟩, fr_E g.1 hE⟩, fr_trans g0 (fr_mono g.1 (by simp)), fun k hk => (g.2.1 k).trans (h1 k hk), (g.2.1 61).trans h2, fun i hi => by rw [e]; exact h3 i hi⟩, e⟩
  rw [fr_r g.1, fr_r g.1, fr_r g.1, fr_r g.1, fr_r g.1, fr_r g.1]
  exact r
theorem r_eval {d n x : Nat} {e : q_Ex} {Kk : Int → q_H → Prop} (hu : RU Nt V WI WU σ0) (hR : RR s σ0 σ (-1)) (hU : uO WU (nw (z σ 128))) (h : NEt s σ0 n 384 x e) (hn : n ≤ 4096) (g : gI (cI WI WU V) e.1 ∧ e.1.length ≤ 8000) (hd : 772 ≤ d)
    (kk : ∀ (v : Nat) (τ : q_H), RR s σ0 τ (-1) → z τ 128 = z σ 128 → wth (nw (z σ0 125)) (nw (z σ 128)) e.1 = v → v < 256 → Kk (v : Int) τ) : J ω m_M_eval d 0 0 0 0 0 [(0, .ref 94), (1, .int (zI (x : Int)))] [] σ (q_ki Kk) := by
  obtain ⟨q0, q1, q2, q3, q4, q5, qi⟩ := RR_z hR
  have h65 : z σ 94 65 = 0 := (hR.2.2.1 65 (by decide)).trans hu.1
  have vi : vI (nv (z σ0 125)) (nv (z σ 128)) e.1 := vI_of g.1 (fun i hi => by rw [← nv_nw i hi]; exact hu.2.2.1 i hi) (fun i hi => by rw [← nv_nw i hi]; exact hU i hi)
  have ew := NE_w 384 x e h (gI_w g.1)
  refine k_eval (Nx := z σ0 (s + 4)) hu.2.1 (fun i hi => hR.2.2.2.2 i hi) (show n ≤ 4097 by omega) 384 σ x e d Kk ⟨hR.1, q0, q1, q2, q3, q4, q5, qi, rfl⟩ h (gI_w g.1) vi (by omega) (by have := g.2; omega) (by omega) (fun v τ ht hv lv => ?_)
  obtain ⟨a, b⟩ := RR_SE hR ht
  exact kk v τ a b (EV_wth (EV_cong nv_nw nv_nw g.1 hv)) (le256 ew lv)
theorem RR_r {f : Int} (h : RR s σ0 σ f) : ((s = 110 ∨ s = 116) ∧ q_r σ 94 32 = s ∧ q_r σ 94 33 = s + 1 ∧ q_r σ 94 34 = s + 2 ∧ q_r σ 94 35 = s + 3 ∧ q_r σ 94 36 = s + 4 ∧ q_r σ 94 37 = s + 5) ∧ q_E σ := h.1
/-- STATEMENTS one behind the other -/
theorem l_go {k d lp : Nat} {Kk : Int → q_H → Prop} (ox : OX ω Nt V s σ0 lo WI WU S k) (hd : 2 * k + 780 ≤ d) : ∀ (ns : List Nat) (i : Nat) (l : List q_St) (w : Nat) (f : Int) (σ : q_H) (R : Nat → Int), (∀ y, y ∈ ns → y ≤ 4096) → lnk (z σ0 (s + 4)) ns f → NSs (fun m i l w => NS Nt V s σ0 lo k m i lp l w) ns i l w → sP WI WU V l → At S i l → RR s σ0 σ (-1) → uO WU (nw (z σ 128)) →
    (∀ (τ : q_H) (R' : Nat → Int) (E : Nat), RR s σ0 τ (-1) → uO WU (nw (z τ 128)) → (V = 0 → nw (z τ 128) = nw (z σ 128)) → mIt S WU (nw (z σ0 125)) E (i, nw (z σ 128), R) = .inl (i + l.length, nw (z τ 128), R') → (∀ j, j < lp → R' j = R j) → cBd V l.length w E → Kk 0 τ) →
    (∀ (τ : q_H) (v f : Int) (E : Nat), RR s σ0 τ f → mIt S WU (nw (z σ0 125)) E (i, nw (z σ 128), R) = .inr (v, f, nw (z τ 128)) → (v = 1 ∨ v = 2) → tBd V k l.length w E → Kk v τ) → J ω m_M_go (d + 1) 0 0 0 0 2 [(0, .ref 94), (2, .int (zI f))] [] σ (q_ki Kk) := by
  intro ns
  induction ns with
  | nil =>
    intro i l w f σ R _ hl hN _ _ hR hU k1 _
    obtain ⟨⟨hs, r0, r1, r2, r3, r4, r5⟩, hE⟩ := RR_r hR
    have hf : f = -1 := hl
    obtain ⟨e1, e2⟩ := hN
    subst e1 e2 hf
    exact b_M_go_2 hs r0 r1 r2 r3 r4 r5 hE ⟨⟨by decide, by decide⟩, fun _ => ⟨0, ⟨by decide, by decide⟩, rfl, k1 σ R 0 hR hU (fun _ => rfl) rfl (fun _ _ => rfl) (cBd_1 (Nat.le_refl _))⟩, fun q => absurd q (by decide)⟩
  | cons n ns ih =>
    intro i l w f σ R hy hl hN hP hA hR hU k1 k2
    obtain ⟨⟨hs, r0, r1, r2, r3, r4, r5⟩, hE⟩ := RR_r hR
    obtain ⟨hf, hl2⟩ := hl
    obtain ⟨l1, w1, l2, w2, a, b, c, e⟩ := hN
    subst c e hf
    have hn : n ≤ 4096 := hy n (by simp)
    have hk : 1 ≤ k := by
      cases k with
      | zero => exact False.elim a
      | succ k => omega
    have P := sP_app.mp hP
    have A := At_app hA
    refine b_M_go_2 hs r0 r1 r2 r3 r4 r5 hE ⟨⟨by omega, by omega⟩, fun q => absurd q (by omega), fun _ => ?_⟩
    refine ox σ n i lp l1 w1 d R _ a hn P.1 A.1 hR hU hd (fun τ R' E hR1 hU1 hV1 hm hj hb => ?_) (fun τ v f E hR1 hm hv hb => ?_)
    · obtain ⟨⟨-, r0, r1, r2, r3, r4, r5⟩, hE⟩ := RR_r hR1
      refine b_M_go_11 hs r0 r1 r2 r3 r4 r5 hE ⟨⟨by decide, by decide⟩, fun _ => ⟨⟨by omega, by omega⟩, ?_⟩, fun q => absurd rfl q⟩
      rw [(RR_z hR1).2.2.2.2.1, Int.toNat_natCast]
      refine ih (i + l1.length) l2 w2 _ τ R' (fun y hy' => hy y (by simp [hy'])) hl2 b P.2 A.2 hR1 hU1 (fun ρ R2 E2 hR2 hU2 hV2 hm2 hj2 hb2 => ?_) (fun ρ v f E2 hR2 hm2 hv hb2 => ?_)
      · refine k1 ρ R2 (E + E2) hR2 hU2 (fun q => (hV2 q).trans (hV1 q)) ?_ (fun j hj' => (hj2 j hj').trans (hj j hj')) (by rw [List.length_append]; exact cBd_add hb hb2)
        rw [List.length_append, show i + (l1.length + l2.length) = i + l1.length + l2.length by omega]
        exact mIt_tr E E2 _ _ _ hm hm2
      · exact k2 ρ v f (E + E2) hR2 (mIt_tr E E2 _ _ _ hm hm2) hv (by rw [List.length_append]; exact tBd_add hb hk hb2)
    · obtain ⟨⟨-, r0, r1, r2, r3, r4, r5⟩, hE⟩ := RR_r hR1
      exact b_M_go_11 hs r0 r1 r2 r3 r4 r5 hE ⟨⟨by omega, by omega⟩, fun q => absurd q (by omega), fun _ => ⟨v, ⟨by omega, by omega⟩, rfl, k2 τ v f E hR1 hm hv (by rw [List.length_append]; exact tBd_l hb)⟩⟩
/-- a loop, from its test on -/
theorem l_while {k d n i lp r b x : Nat} {Kk : Int → q_H → Prop} {e : q_Ex} {l1 : List q_St} {w1 w : Nat} {U0 : Nat → Nat} {R0 : Nat → Int} (ox : OX ω Nt V s σ0 lo WI WU S k) (hu : RU Nt V WI WU σ0) (hd : 2 * k + 781 ≤ d) (hn : n ≤ 4096) (hr : r ≤ 8)
    (hw : w = r * (e.2.2.1 + w1 + 8 * V) + e.2.2.1) (h1 : z σ0 (s + 1) n = (x : Int)) (h2 : z σ0 (s + 2) n = (b : Int)) (h3 : z σ0 (s + 3) n = (r : Int)) (he : NEt s σ0 n 384 x e) (hb : b < n) (hB : NS Nt V s σ0 lo k b (i + 2) (lp + 1) l1 w1)
    (ge : gI (cI WI WU V) e.1 ∧ e.1.length ≤ 8000) (gp : sP WI WU V l1) (hA : At S (i + 2) l1) (a1 : S[i + 1]? = some (8, (lp : Int), ((i + 2 + l1.length + 1 : Nat) : Int), e.1)) (a2 : S[i + 2 + l1.length]? = some (9, 0, ((i + 1 : Nat) : Int), []))
    (k1 : ∀ (τ : q_H) (R' : Nat → Int) (E : Nat), RR s σ0 τ (-1) → uO WU (nw (z τ 128)) → (V = 0 → nw (z τ 128) = U0) → mIt S WU (nw (z σ0 125)) E (i, U0, R0) = .inl (i + (l1.length + 3), nw (z τ 128), R') → (∀ j, j < lp → R' j = R0 j) → cBd V (l1.length + 3) w E → Kk 0 τ)
    (k2 : ∀ (τ : q_H) (v f : Int) (E : Nat), RR s σ0 τ f → mIt S WU (nw (z σ0 125)) E (i, U0, R0) = .inr (v, f, nw (z τ 128)) → (v = 1 ∨ v = 2) → tBd V (k + 1) (l1.length + 3) w E → Kk v τ) :
    ∀ (q y : Nat) (σ : q_H) (R : Nat → Int) (E0 : Nat), y + q = r → RR s σ0 σ (-1) → uO WU (nw (z σ 128)) → mIt S WU (nw (z σ0 125)) E0 (i, U0, R0) = .inl (i + 1, nw (z σ 128), R) → R lp = (q : Int) → (∀ j, j < lp → R j = R0 j) →
      (V = 0 → nw (z σ 128) = U0 ∧ E0 ≤ 1 + y * (2 + l1.length) ∧ (y = 0 ∨ wth (nw (z σ0 125)) U0 e.1 ≠ 0)) → (V ≠ 0 → 8 * E0 ≤ 8 + y * (16 + l1.length * (8 + w1))) →
      J ω m_M_one (d + 1) 0 0 0 0 151 [(0, .ref 94), (1, .int (zI (n : Int))), (2, .int (zI (y : Int)))] [] σ (q_ki Kk) := by
  -- the bounds behind the test
  have tb : ∀ (y E0 : Nat), y ≤ r → (V = 0 → E0 ≤ 1 + y * (2 + l1.length)) → (V ≠ 0 → 8 * E0 ≤ 8 + y * (16 + l1.length * (8 + w1))) → tBd V (k + 1) (l1.length + 3) w (E0 + 1) := fun y E0 hy hV0 hV1 => by
    refine ⟨fun q => ?_, fun q => ?_⟩
    · have a := hV0 q
      have b : y * (2 + l1.length) ≤ 8 * (2 + l1.length) := Nat.mul_le_mul_right _ (by omega)
      have c : (l1.length + 3) * (k + 1) = (l1.length + 3) * k + (l1.length + 3) := Nat.mul_succ _ _
      omega
    · have c : y * (16 + l1.length * (8 + w1)) ≤ r * (16 + l1.length * (8 + w1)) := Nat.mul_le_mul_right _ hy
      exact wb_c (by have := hV1 q; omega) hw q
  intro q
  induction q with
  | zero =>
    intro y σ R E0 hy hR hU hm hRl hj hV0 hV1
    obtain ⟨⟨hs, r0, r1, r2, r3, r4, r5⟩, hE⟩ := RR_r hR
    obtain ⟨q0, q1, q2, q3, q4, q5, qi⟩ := RR_z hR
    refine b_M_one_151 hs r0 r1 r2 r3 r4 r5 hE ?_
    rw [q3, q1, Int.toNat_natCast, h1, h3]
    refine ⟨⟨by omega, by omega⟩, ⟨by omega, by omega⟩, fun _ => ?_, fun q => absurd q (by omega)⟩
    refine r_eval hu hR hU he hn ge (by omega) (fun v τ hR1 e1 hv lv => ?_)
    obtain ⟨⟨-, r0, r1, r2, r3, r4, r5⟩, hE⟩ := RR_r hR1
    refine b_M_one_209 hs r0 r1 r2 r3 r4 r5 hE ⟨⟨by omega, by omega⟩, fun c => ⟨2, ⟨by decide, by decide⟩, rfl, ?_⟩, fun c => ⟨0, ⟨by decide, by decide⟩, rfl, ?_⟩⟩
    · refine k2 τ 2 (-1) (E0 + 1) hR1 (mIt_tr E0 1 _ _ _ hm (mIt_1 ?_)) (Or.inr rfl) (tb y E0 (by omega) (fun q => (hV0 q).2.1) hV1)
      rw [e1]
      exact x_test2 a1 (by rw [hv]; omega) (by rw [Int.toNat_natCast, hRl]; rfl)
    · refine k1 τ R (E0 + 1) hR1 (by rw [e1]; exact hU) (fun q => by rw [e1]; exact (hV0 q).1) (mIt_tr E0 1 _ _ _ hm (mIt_1 ?_)) hj ⟨fun q => ?_, (tb y E0 (by omega) (fun q => (hV0 q).2.1) hV1).2⟩
      · rw [e1, x_test0 a1 (by rw [hv]; omega), Int.toNat_natCast, show i + 2 + l1.length + 1 = i + (l1.length + 3) by omega]
      · obtain ⟨c1, c2, c3⟩ := hV0 q
        rcases c3 with c3 | c3
        · subst c3; omega
        · rw [← c1, hv] at c3; omega
  | succ q ih =>
    intro y σ R E0 hy hR hU hm hRl hj hV0 hV1
    obtain ⟨⟨hs, r0, r1, r2, r3, r4, r5⟩, hE⟩ := RR_r hR
    obtain ⟨q0, q1, q2, q3, q4, q5, qi⟩ := RR_z hR
    refine b_M_one_151 hs r0 r1 r2 r3 r4 r5 hE ?_
    rw [q3, q1, Int.toNat_natCast, h1, h3]
    refine ⟨⟨by omega, by omega⟩, ⟨by omega, by omega⟩, fun q => absurd q (by omega), fun _ => ?_⟩
    refine r_eval hu hR hU he hn ge (by omega) (fun v τ hR1 e1 hv lv => ?_)
    obtain ⟨⟨-, r0, r1, r2, r3, r4, r5⟩, hE⟩ := RR_r hR1
    obtain ⟨-, -, q2', -⟩ := RR_z hR1
    refine b_M_one_171 hs r0 r1 r2 r3 r4 r5 hE ⟨⟨by omega, by omega⟩, fun c => ⟨⟨by omega, by omega⟩, ?_⟩, fun c => ⟨0, ⟨by decide, by decide⟩, rfl, ?_⟩⟩
    · rw [q2', Int.toNat_natCast, h2]
      have st : mIt S WU (nw (z σ0 125)) (E0 + 1) (i, U0, R0) = .inl (i + 2, nw (z τ 128), upq R lp (q : Int)) := by
        refine mIt_tr E0 1 _ _ _ hm (mIt_1 ?_)
        rw [e1, x_test1 a1 (by rw [hv]; omega) (by rw [Int.toNat_natCast, hRl]; omega), Int.toNat_natCast, hRl, show (((q + 1 : Nat) : Int) - 1) = (q : Int) by omega, zI_toInt ⟨by omega, by omega⟩]
      refine ox τ b (i + 2) (lp + 1) l1 w1 d (upq R lp (q : Int)) _ hB (by omega) gp hA hR1 (by rw [e1]; exact hU) (by omega) (fun ρ R2 E2 hR2 hU2 hV2 hm2 hj2 hb2 => ?_) (fun ρ v f E2 hR2 hm2 hv2 hb2 => ?_)
      · obtain ⟨⟨-, r0, r1, r2, r3, r4, r5⟩, hE⟩ := RR_r hR2
        refine b_M_one_186 hs r0 r1 r2 r3 r4 r5 hE ⟨⟨by decide, by decide⟩, fun _ => ?_, fun q => absurd rfl q⟩
        have y1 : (y : Int) + 1 = ((y + 1 : Nat) : Int) := by omega
        rw [y1]
        have m2 : (y + 1) * (16 + l1.length * (8 + w1)) = y * (16 + l1.length * (8 + w1)) + (16 + l1.length * (8 + w1)) := Nat.succ_mul _ _
        have m3 : (y + 1) * (2 + l1.length) = y * (2 + l1.length) + (2 + l1.length) := Nat.succ_mul _ _
        refine ih (y + 1) ρ R2 (E0 + 1 + E2 + 1) (by omega) hR2 hU2 (mIt_tr (E0 + 1 + E2) 1 _ _ _ (mIt_tr (E0 + 1) E2 _ _ _ st hm2) (mIt_1 ?_)) ?_ (fun j hj' => ?_) (fun q => ?_) (fun q => ?_)
        · rw [x_go (Or.inr rfl) a2, Int.toNat_natCast]
        · rw [hj2 lp (by omega)]; unfold upq; rw [if_pos rfl]
        · rw [hj2 j (by omega)]; unfold upq; rw [if_neg (by omega)]; exact hj j hj'
        · obtain ⟨c1, c2, c3⟩ := hV0 q
          have c4 := hb2.1 q
          refine ⟨(hV2 q).trans (by rw [e1]; exact c1), by omega, Or.inr ?_⟩
          rw [← c1, hv]; omega
        · have c1 := hV1 q
          have c4 := hb2.2 q
          omega
      · obtain ⟨⟨-, r0, r1, r2, r3, r4, r5⟩, hE⟩ := RR_r hR2
        refine b_M_one_186 hs r0 r1 r2 r3 r4 r5 hE ⟨⟨by omega, by omega⟩, fun q => absurd q (by omega), fun _ => ⟨v, ⟨by omega, by omega⟩, rfl, ?_⟩⟩
        refine k2 ρ v f (E0 + 1 + E2) hR2 (mIt_tr (E0 + 1) E2 _ _ _ st hm2) hv2 ⟨fun q => ?_, fun q => ?_⟩
        · obtain ⟨c1, c2, c3⟩ := hV0 q
          have c4 := hb2.1 q
          have b : y * (2 + l1.length) ≤ 8 * (2 + l1.length) := Nat.mul_le_mul_right _ (by omega)
          have c : (l1.length + 3) * (k + 1) = l1.length * k + 3 * k + (l1.length + 3) := by rw [Nat.mul_succ, Nat.add_mul]
          omega
        · have c1 := hV1 q
          have c4 := hb2.2 q
          have m2 : (y + 1) * (16 + l1.length * (8 + w1)) = y * (16 + l1.length * (8 + w1)) + (16 + l1.length * (8 + w1)) := Nat.succ_mul _ _
          have m3 : (y + 1) * (16 + l1.length * (8 + w1)) ≤ r * (16 + l1.length * (8 + w1)) := Nat.mul_le_mul_right _ (by omega)
          have w8 : 8 * (E0 + 1 + E2) ≤ 8 + r * (16 + l1.length * (8 + w1)) := by
            generalize hX : 16 + l1.length * (8 + w1) = X at c1 m2 m3 ⊢
            generalize (y + 1) * X = Y1 at m2 m3
            generalize y * X = Y0 at c1 m2
            generalize r * X = R0 at m3 ⊢
            omega
          have := wb_c (E := E0 + 1 + E2) w8 hw q
          omega
    · refine k1 τ R (E0 + 1) hR1 (by rw [e1]; exact hU) (fun q => by rw [e1]; exact (hV0 q).1) (mIt_tr E0 1 _ _ _ hm (mIt_1 ?_)) hj ⟨fun q => ?_, (tb y E0 (by omega) (fun q => (hV0 q).2.1) hV1).2⟩
      · rw [e1, x_test0 a1 (by rw [hv]; omega), Int.toNat_natCast, show i + 2 + l1.length + 1 = i + (l1.length + 3) by omega]
      · obtain ⟨c1, c2, c3⟩ := hV0 q
        rcases c3 with c3 | c3
        · subst c3; omega
        · rw [← c1, hv] at c3; omega
end OgP
