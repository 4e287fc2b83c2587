/-! The reference reads an EXPR: its nodes -/
def kmpL : List Int := [0, 272, 271, 124, 94, 38, 265, 266, 60, 267, 62, 268, 269, 270, 43, 45, 42, 47, 37, 33, 126, 278, 277, 264, 0, 0, 0, 0, 0, 0, 263, 61, 59, 58, 63, 40, 41, 123, 125, 256, 257, 258, 259, 260, 261, 262, 273, 274]
/-- the reference's number of a kind -/
def kmp (k : Int) : Int := kmpL.getD k.toNat 0
theorem kmp_in : ∀ i : Nat, i < 48 → ∀ j : Nat, j < 48 → kmp (i : Int) ≠ 0 → kmp (i : Int) = kmp (j : Int) → i = j := by decide +kernel
theorem kmp_iff {k c : Int} (hk : 1 ≤ k ∧ k ≤ 47) (h0 : kmp k ≠ 0) (hc : 0 ≤ c ∧ c ≤ 47) : kmp k = kmp c ↔ k = c := by
  constructor
  · intro h
    have := kmp_in k.toNat (by omega) c.toNat (by omega)
    rw [show ((k.toNat : Nat) : Int) = k by omega, show ((c.toNat : Nat) : Int) = c by omega] at this
    have := this h0 h
    omega
  · intro h; rw [h]
theorem kmp_R : ∀ i : Nat, i < 48 → 0 ≤ kmp (i : Int) ∧ kmp (i : Int) < 300 := by decide +kernel
/-- nodes: N of them; their rows -/
def NEb (N : Nat) (So A Bc Cc Wd : Nat → Int) (P : Nat → q_Ex → Prop) (n : Nat) (e : q_Ex) : Prop :=
  n < N ∧ Wd n = e.2.1 ∧
  ((So n = 264 ∧ (0 ≤ A n ∧ A n ≤ 255) ∧ e = ([(23, A n, e.2.1)], e.2.1, 0, none)) ∨
   (So n = 263 ∧ (0 ≤ A n ∧ A n < 12) ∧ ((Bc n = 1 ∧ e = ([(24, A n, e.2.1)], e.2.1, 0, none)) ∨ (Bc n = 0 ∧ e = ([(25, A n, e.2.1)], e.2.1, 0, none)))) ∨
   (∃ (u : Int) (n1 : Nat) (e1 : q_Ex), (19 ≤ u ∧ u ≤ 21) ∧ So n = kmp u ∧ A n = (n1 : Int) ∧ P n1 e1 ∧ e = eU u e1) ∨
   (∃ (n1 n2 n3 : Nat) (e1 e2 e3 : q_Ex), So n = 277 ∧ A n = (n1 : Int) ∧ Bc n = (n2 : Int) ∧ Cc n = (n3 : Int) ∧ P n1 e1 ∧ P n2 e2 ∧ P n3 e3 ∧ e = eC e1 e2 e3))
def NEs (N : Nat) (So A Bc Cc Wd : Nat → Int) (P : Nat → q_Ex → Prop) : Nat → Nat → q_Ex → Prop
  | 0, n, e => NEb N So A Bc Cc Wd P n e
  | m + 1, n, e => n < N ∧ Wd n = e.2.1 ∧ ∃ (u : Int) (n1 n2 : Nat) (e1 e2 : q_Ex), (1 ≤ u ∧ u ≤ 18) ∧ So n = kmp u ∧ A n = (n1 : Int) ∧ Bc n = (n2 : Int) ∧ NEs N So A Bc Cc Wd P m n1 e1 ∧ P n2 e2 ∧ e = eB u e1 e2
/-- node n holds the EXPR e; k: how deep -/
def NE (N : Nat) (So A Bc Cc Wd : Nat → Int) : Nat → Nat → q_Ex → Prop
  | 0, _, _ => False
  | k + 1, n, e => ∃ m, NEs N So A Bc Cc Wd (NE N So A Bc Cc Wd k) m n e
section NeP
variable {N N' : Nat} {So A Bc Cc Wd So' A' Bc' Cc' Wd' : Nat → Int} {P P' : Nat → q_Ex → Prop}
theorem NEb_mono (hN : N ≤ N') (ht : ∀ i, i < N → So' i = So i ∧ A' i = A i ∧ Bc' i = Bc i ∧ Cc' i = Cc i ∧ Wd' i = Wd i) (hP : ∀ n e, P n e → P' n e) {n : Nat} {e : q_Ex} (h : NEb N So A Bc Cc Wd P n e) : NEb N' So' A' Bc' Cc' Wd' P' n e := by
  obtain ⟨h1, h2, h3⟩ := h
  obtain ⟨t1, t2, t3, t4, t5⟩ := ht n h1
  unfold NEb
  rw [t1, t2, t3, t4, t5]
  refine ⟨by omega, h2, ?_⟩
  rcases h3 with h | h | ⟨u, n1, e1, a, b, c, d, f⟩ | ⟨n1, n2, n3, e1, e2, e3, a, b, c, d, f, g, i, j⟩
  · exact Or.inl h
  · exact Or.inr (Or.inl h)
  · exact Or.inr (Or.inr (Or.inl ⟨u, n1, e1, a, b, c, hP _ _ d, f⟩))
  · exact Or.inr (Or.inr (Or.inr ⟨n1, n2, n3, e1, e2, e3, a, b, c, d, hP _ _ f, hP _ _ g, hP _ _ i, j⟩))
theorem NEs_mono (hN : N ≤ N') (ht : ∀ i, i < N → So' i = So i ∧ A' i = A i ∧ Bc' i = Bc i ∧ Cc' i = Cc i ∧ Wd' i = Wd i) (hP : ∀ n e, P n e → P' n e) : ∀ (m n : Nat) (e : q_Ex), NEs N So A Bc Cc Wd P m n e → NEs N' So' A' Bc' Cc' Wd' P' m n e
  | 0, n, e, h => NEb_mono hN ht hP h
  | m + 1, n, e, h => by
    obtain ⟨h1, h2, u, n1, n2, e1, e2, a, b, c, d, f, g, i⟩ := h
    obtain ⟨t1, t2, t3, t4, t5⟩ := ht n h1
    refine ⟨by omega, by rw [t5]; exact h2, u, n1, n2, e1, e2, a, by rw [t1]; exact b, by rw [t2]; exact c, by rw [t3]; exact d, NEs_mono hN ht hP m n1 e1 f, hP _ _ g, i⟩
theorem NE_mono (hN : N ≤ N') (ht : ∀ i, i < N → So' i = So i ∧ A' i = A i ∧ Bc' i = Bc i ∧ Cc' i = Cc i ∧ Wd' i = Wd i) : ∀ (k n : Nat) (e : q_Ex), NE N So A Bc Cc Wd k n e → NE N' So' A' Bc' Cc' Wd' k n e
  | 0, n, e, h => h
  | k + 1, n, e, h => by
    obtain ⟨m, h⟩ := h
    exact ⟨m, NEs_mono hN ht (NE_mono hN ht k) m n e h⟩
theorem NE_le : ∀ (k k' n : Nat) (e : q_Ex), k ≤ k' → NE N So A Bc Cc Wd k n e → NE N So A Bc Cc Wd k' n e
  | 0, _, _, _, _, h => False.elim h
  | k + 1, 0, _, _, hk, _ => absurd hk (by omega)
  | k + 1, k' + 1, n, e, hk, h => by
    obtain ⟨m, h⟩ := h
    exact ⟨m, NEs_mono (Nat.le_refl _) (fun i _ => ⟨rfl, rfl, rfl, rfl, rfl⟩) (fun n e q => NE_le k k' n e (by omega) q) m n e h⟩
end NeP
/-- who a NAME is, to the reference -/
def lkM (σ : q_H) (x : Int64) : Int := fnV x (q_l σ 102) (z σ 94 17).toNat 400 0
/-- the reference's TOKENS and NAMES, those of K, P, N, B up to L -/
def MC (s L : Nat) (K P : Nat → Int) (N : Nat → q_It) (B : Nat → Bool) (σ : q_H) : Prop :=
  ((s = 110 ∨ s = 116) ∧ q_r σ 94 32 = s ∧ q_r σ 94 33 = s + 1 ∧ q_r σ 94 34 = s + 2 ∧ q_r σ 94 35 = s + 3 ∧ q_r σ 94 36 = s + 4 ∧ q_r σ 94 37 = s + 5) ∧ L ≤ 4096 ∧
  (∀ i, i ≤ L → z σ 96 i = kmp (K i) ∧ z σ 97 i = P i ∧ (1 ≤ K i ∧ K i ≤ 47) ∧ kmp (K i) ≠ 0) ∧ (K L = 46 ∨ K L = 47) ∧ (∀ i, i < L → K i ≠ 46 ∧ K i ≠ 47) ∧ (∀ i j, i < j → j ≤ L → P i < P j) ∧ (0 ≤ z σ 94 17 ∧ z σ 94 17 ≤ 400) ∧
  (∀ i, i ≤ L → K i = 23 → N i = (23, z σ 98 i, lwd (z σ 98 i)) ∧ (0 ≤ z σ 98 i ∧ z σ 98 i ≤ 255) ∧ B i = true) ∧
  (∀ i, i ≤ L → K i = 30 → (B i = false ∧ lkM σ (q_l σ 99 i) = -1 ∧ N i = (23, 0, 1)) ∨ (B i = true ∧ 0 ≤ lkM σ (q_l σ 99 i) ∧ (1 ≤ z σ 105 (lkM σ (q_l σ 99 i)).toNat ∧ z σ 105 (lkM σ (q_l σ 99 i)).toNat ≤ 8) ∧ (0 ≤ z σ 104 (lkM σ (q_l σ 99 i)).toNat ∧ z σ 104 (lkM σ (q_l σ 99 i)).toNat < 12) ∧
    ((z σ 103 (lkM σ (q_l σ 99 i)).toNat = 1 ∧ N i = (24, z σ 104 (lkM σ (q_l σ 99 i)).toNat, z σ 105 (lkM σ (q_l σ 99 i)).toNat)) ∨ (z σ 103 (lkM σ (q_l σ 99 i)).toNat = 0 ∧ N i = (25, z σ 104 (lkM σ (q_l σ 99 i)).toNat, z σ 105 (lkM σ (q_l σ 99 i)).toNat)))))
def SM (s : Nat) : List Nat := [94, s, s + 1, s + 2, s + 3, s + 4, s + 5]
/-- what stays while it reads -/
def MB (s L : Nat) (K P : Nat → Int) (N : Nat → q_It) (B : Nat → Bool) (σ0 σ : q_H) : Prop := MC s L K P N B σ0 ∧ q_E σ ∧ fr (SM s) σ0 σ ∧ ∀ k, k ∉ [8, 9, 10, 21, 44, 48, 49] → z σ 94 k = z σ0 94 k
/-- at TOKEN t, DEPTH dp, with Nn nodes; the first FAULT -/
def MS (s L : Nat) (K P : Nat → Int) (N : Nat → q_It) (B : Nat → Bool) (σ0 σ : q_H) (t dp Nn : Nat) (fb wb : Int) (f : Option Nat) : Prop :=
  MB s L K P N B σ0 σ ∧ (z σ 94 8 = (t : Int) ∧ t ≤ L) ∧ z σ 94 9 = (dp : Int) ∧ (z σ 94 44 = (Nn : Int) ∧ Nn ≤ t) ∧ FA fb wb P f (z σ 94 48) (z σ 94 49) ∧ (fb ≠ 0 → ∀ i, t ≤ i → i ≤ L → wb ≤ P i) ∧ ∀ x, f = some x → x < t
/-- nodes that are there stay -/
def KN (s Nn : Nat) (σ τ : q_H) : Prop := ∀ i, i < Nn → z τ s i = z σ s i ∧ z τ (s + 1) i = z σ (s + 1) i ∧ z τ (s + 2) i = z σ (s + 2) i ∧ z τ (s + 3) i = z σ (s + 3) i ∧ z τ (s + 4) i = z σ (s + 4) i ∧ z τ (s + 5) i = z σ (s + 5) i
theorem KN_refl {s Nn : Nat} {σ : q_H} : KN s Nn σ σ := fun _ _ => ⟨rfl, rfl, rfl, rfl, rfl, rfl⟩
theorem KN_trans {s Nn N2 : Nat} {σ τ ρ : q_H} (h : KN s Nn σ τ) (hN : Nn ≤ N2) (g : KN s N2 τ ρ) : KN s Nn σ ρ := fun i hi => by
  obtain ⟨a, b, c, d, e, f⟩ := h i hi
  obtain ⟨a', b', c', d', e', f'⟩ := g i (by omega)
  exact ⟨a'.trans a, b'.trans b, c'.trans c, d'.trans d, e'.trans e, f'.trans f⟩
/-- thrown at TOKEN x -/
def MQx (s L : Nat) (K P : Nat → Int) (N : Nat → q_It) (B : Nat → Bool) (σ0 τ : q_H) (x : Nat) : Prop := MB s L K P N B σ0 τ ∧ z τ 94 10 = P x
section MaJ
variable {ω : q_W} {d s L : Nat} {K P : Nat → Int} {N : Nat → q_It} {B : Nat → Bool} {σ0 σ : q_H} {t dp Nn : Nat} {fb wb : Int} {f : Option Nat}
theorem MB_s {o k : Nat} {e : Int} (h : MB s L K P N B σ0 σ) (ho : o ∈ SM s) (hk : o = 94 → k ∈ [8, 9, 10, 21, 44, 48, 49]) (hs : s = 110 ∨ s = 116) : MB s L K P N B σ0 (zs σ o k e) := by
  obtain ⟨a, b, c, d⟩ := h
  refine ⟨a, zs_E b, fr_s c ho, fun j hj => ?_⟩
  by_cases q : (94 : Nat) = o
  · subst q
    have hne : j ≠ k := fun e => hj (by rw [e]; exact hk rfl)
    rw [z_k hne]; exact d j hj
  · rw [z_o q]; exact d j hj
theorem MB_r (h : MB s L K P N B σ0 σ) : (s = 110 ∨ s = 116) ∧ q_r σ 94 32 = s ∧ q_r σ 94 33 = s + 1 ∧ q_r σ 94 34 = s + 2 ∧ q_r σ 94 35 = s + 3 ∧ q_r σ 94 36 = s + 4 ∧ q_r σ 94 37 = s + 5 := by
  obtain ⟨⟨⟨a, b⟩, -⟩, -, f, -⟩ := h
  rw [fr_r f, fr_r f, fr_r f, fr_r f, fr_r f, fr_r f]
  exact ⟨a, b⟩
theorem MB_z {o : Nat} (h : MB s L K P N B σ0 σ) (ho : 95 ≤ o ∧ o ≤ 109) : z σ o = z σ0 o ∧ q_l σ o = q_l σ0 o := by
  obtain ⟨⟨⟨a, b⟩, -⟩, -, f, -⟩ := h
  have n : o ∉ SM s := by unfold SM; simp; omega
  exact ⟨fr_zF f n, (f.2.2.2 o n).2⟩
/-- what the TOKEN at hand is -/
theorem MS_k (h : MS s L K P N B σ0 σ t dp Nn fb wb f) : z σ 96 t = kmp (K t) ∧ z σ 97 t = P t ∧ (1 ≤ K t ∧ K t ≤ 47) ∧ kmp (K t) ≠ 0 ∧ (K t ≠ 46 → K t ≠ 47 → t < L) ∧ (0 ≤ (t : Int) ∧ (t : Int) < 4098) := by
  obtain ⟨hb, ⟨h8, hL⟩, -⟩ := h
  obtain ⟨-, L4, c, e, g, -⟩ := id hb.1
  obtain ⟨c1, c2, c3, c4⟩ := c t hL
  rw [(MB_z hb ⟨by decide, by decide⟩).1, (MB_z (o := 97) hb ⟨by decide, by decide⟩).1]
  refine ⟨c1, c2, c3, c4, fun q1 q2 => ?_, by omega, by omega⟩
  rcases Nat.lt_or_ge t L with q | q
  · exact q
  · have : t = L := by omega
    rw [this] at q1 q2
    rcases e with e | e
    · exact absurd e q1
    · exact absurd e q2
theorem m_bad {Q : Nat → q_H → Prop} (h : MS s L K P N B σ0 σ t dp Nn fb wb f) (kk : ∀ τ, MQx s L K P N B σ0 τ t → Q 100 τ) : J ω m_M_bad d 0 0 0 0 0 [(0, .ref 94)] [] σ (q_kr Q) := by
  obtain ⟨hs, r0, r1, r2, r3, r4, r5⟩ := MB_r h.1
  obtain ⟨k1, k2, k3, k4, k5, k6⟩ := MS_k h
  refine b_M_bad_0 hs r0 r1 r2 r3 r4 r5 h.1.2.1 ?_
  rw [h.2.1.1, Int.toNat_natCast, k2]
  refine ⟨k6, 100, rfl, kk _ ⟨MB_s h.1 (by unfold SM; simp) (fun _ => by simp) hs, ?_⟩⟩
  have : inR (P t) := by rw [← k2]; exact z_R _ _ _
  exact z_s this
theorem m_taken {Kk : Int → q_H → Prop} {Kx : Nat → q_H → Prop} (hd : 1 ≤ d) (h : MS s L K P N B σ0 σ t dp Nn fb wb f)
    (kx : (30 < dp ∨ K t = 46 ∨ K t = 47) → ∀ τ, MQx s L K P N B σ0 τ t → Kx 100 τ)
    (k1 : dp ≤ 30 → K t ≠ 46 → K t ≠ 47 → ∀ τ, MS s L K P N B σ0 τ (t + 1) dp Nn fb wb f → KN s Nn σ τ → z τ 94 21 = z σ 94 21 → Kk (t : Int) τ) : J ω m_M_taken d 0 0 0 0 0 [(0, .ref 94)] [] σ (q_ox (q_ki Kk) Kx) := by
  obtain ⟨d, rfl⟩ : ∃ k, d = k + 1 := ⟨d - 1, by omega⟩
  obtain ⟨hs, r0, r1, r2, r3, r4, r5⟩ := MB_r h.1
  obtain ⟨e1, e2, e3, e4, e5, e6⟩ := MS_k h
  obtain ⟨hb, ⟨h8, hL⟩, h9, ⟨h44, hN⟩, hF, hw, hf⟩ := id h
  have bad : (30 < dp ∨ K t = 46 ∨ K t = 47) → J ω m_M_bad d 0 0 0 0 0 [(0, .ref 94)] [] σ (q_kr (fun v τ => v = 100 ∧ J ω m_M_taken (d + 1) 0 0 0 0 33 [] [.ref 100] τ (q_ox (q_ki Kk) Kx))) := fun q => m_bad h (fun τ hτ => by
    obtain ⟨g, q0, q1, q2, q3, q4, q5⟩ := MB_r hτ.1
    exact ⟨rfl, b_M_taken_33 g q0 q1 q2 q3 q4 q5 hτ.1.2.1 (Or.inr ⟨100, rfl, kx q τ hτ⟩)⟩)
  have i273 := kmp_iff e3 e4 (c := 46) (by decide)
  have i274 := kmp_iff e3 e4 (c := 47) (by decide)
  rw [show kmp 46 = 273 by decide] at i273
  rw [show kmp 47 = 274 by decide] at i274
  refine b_M_taken_0 hs r0 r1 r2 r3 r4 r5 hb.2.1 ?_
  rw [h9, h8, Int.toNat_natCast, e1]
  refine ⟨fun c => bad (Or.inl (by omega)), fun c => ⟨e6, fun q => bad (Or.inr (Or.inl (i273.mp q))), fun q1 => ⟨fun q2 => ?_, fun q => bad (Or.inr (Or.inr (i274.mp q)))⟩⟩⟩
  have n46 : K t ≠ 46 := fun e => q1 (i273.mpr e)
  have n47 : K t ≠ 47 := fun e => q2 (i274.mpr e)
  have tl := e5 n46 n47
  have o94 : ∀ k, k ≠ 8 → z (zs σ 94 8 ((t : Int) + 1)) 94 k = z σ 94 k := fun k q => z_k q
  refine Or.inl ⟨_, ⟨by omega, by omega⟩, rfl, k1 (by omega) n46 n47 _ ⟨MB_s hb (by unfold SM; simp) (fun _ => by simp) hs, ⟨by rw [z_s ⟨by omega, by omega⟩]; rfl, by omega⟩, by rw [o94 9 (by decide)]; exact h9, ⟨by rw [o94 44 (by decide)]; exact h44, by omega⟩, by rw [o94 48 (by decide), o94 49 (by decide)]; exact hF, fun q i a b => hw q i (by omega) b, fun x q => by have := hf x q; omega⟩ (fun i _ => ?_) (o94 21 (by decide))⟩
  rw [z_o (by omega), z_o (by omega), z_o (by omega), z_o (by omega), z_o (by omega), z_o (by omega)]
  exact ⟨rfl, rfl, rfl, rfl, rfl, rfl⟩
theorem m_expect {Kk : Int → q_H → Prop} {Kx : Nat → q_H → Prop} {c : Int} (hd : 2 ≤ d) (h : MS s L K P N B σ0 σ t dp Nn fb wb f) (hc : 0 ≤ c ∧ c ≤ 45)
    (kx : (30 < dp ∨ K t ≠ c) → ∀ τ, MQx s L K P N B σ0 τ t → Kx 100 τ)
    (k1 : dp ≤ 30 → K t = c → ∀ τ, MS s L K P N B σ0 τ (t + 1) dp Nn fb wb f → KN s Nn σ τ → z τ 94 21 = z σ 94 21 → Kk (t : Int) τ) : J ω m_M_expect d 0 0 0 0 0 [(0, .ref 94), (1, .int (zI (kmp c)))] [] σ (q_ox (q_ki Kk) Kx) := by
  obtain ⟨d, rfl⟩ : ∃ k, d = k + 1 := ⟨d - 1, by omega⟩
  obtain ⟨hs, r0, r1, r2, r3, r4, r5⟩ := MB_r h.1
  obtain ⟨e1, e2, e3, e4, e5, e6⟩ := MS_k h
  have ic := kmp_iff e3 e4 (c := c) (by omega)
  have ir := kmp_R c.toNat (by omega)
  rw [show ((c.toNat : Nat) : Int) = c by omega] at ir
  refine b_M_expect_0 hs r0 r1 r2 r3 r4 r5 h.1.2.1 ?_
  rw [h.2.1.1, Int.toNat_natCast, e1]
  refine ⟨e6, ⟨by omega, by omega⟩, fun q => ?_, fun q => ?_⟩
  · have kc := ic.mp q
    refine m_taken (by omega) h (fun g τ hτ => Or.inr ⟨100, rfl, kx (by omega) τ hτ⟩) (fun g1 g2 g3 τ hτ hk h21 => ?_)
    obtain ⟨g, q0, q1, q2, q3, q4, q5⟩ := MB_r hτ.1
    exact b_M_expect_17 g q0 q1 q2 q3 q4 q5 hτ.1.2.1 (Or.inl ⟨_, ⟨by omega, by omega⟩, rfl, k1 g1 kc τ hτ hk h21⟩)
  · refine m_bad h (fun τ hτ => ?_)
    obtain ⟨g, q0, q1, q2, q3, q4, q5⟩ := MB_r hτ.1
    exact ⟨rfl, b_M_expect_12 g q0 q1 q2 q3 q4 q5 hτ.1.2.1 (Or.inr ⟨100, rfl, kx (Or.inr (fun e => q (ic.mpr e))) τ hτ⟩)⟩
end MaJ
