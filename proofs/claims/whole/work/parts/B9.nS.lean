/-! the reference's nodes of STATEMENTS, and the steps that they stand for -/
def lnk (nx : Nat → Int) : List Nat → Int → Prop
  | [], f => f = -1
  | n :: ns, f => f = (n : Int) ∧ lnk nx ns (nx n)
def NSs (P : Nat → Nat → List q_St → Nat → Prop) : List Nat → Nat → List q_St → Nat → Prop
  | [], _, l, w => l = [] ∧ w = 0
  | n :: ns, i, l, w => ∃ l1 w1 l2 w2, P n i l1 w1 ∧ NSs P ns (i + l1.length) l2 w2 ∧ l = l1 ++ l2 ∧ w = w1 + w2
/-- one node -/
def NSb (N : Nat → q_It) (V s : Nat) (σ : q_H) (lo : Nat) (P : Nat → Nat → Nat → List q_St → Nat → Prop) (n i lp : Nat) (l : List q_St) (w : Nat) : Prop :=
  (∃ x e t, z σ s n = 276 ∧ z σ (s + 2) n = ((x : Nat) : Int) ∧ NEt s σ n 384 x e ∧ N t = (25, z σ (s + 1) n, z σ (s + 3) n) ∧ l = [(1, z σ (s + 1) n, 0, e.1)] ∧ w = e.2.2.1 + 8) ∨
  (∃ x e, (z σ s n = 261 ∨ z σ s n = 262) ∧ z σ (s + 1) n = ((x : Nat) : Int) ∧ NEt s σ n 384 x e ∧ l = [(if z σ s n = 261 then 2 else 3, z σ (s + 2) n, 0, e.1)] ∧ w = e.2.2.1 + 8) ∨
  (∃ x e b l1 w1, z σ s n = 258 ∧ z σ (s + 1) n = ((x : Nat) : Int) ∧ NEt s σ n 384 x e ∧ z σ (s + 2) n = ((b : Nat) : Int) ∧ (lo ≤ b ∧ b < n) ∧ P b (i + 1) lp l1 w1 ∧ z σ (s + 3) n = -1 ∧ l = (4, 0, ((i + 1 + l1.length : Nat) : Int), e.1) :: (l1 ++ [(6, 0, 0, [])]) ∧ w = e.2.2.1 + w1 + 8 * V) ∨
  (∃ x e b l1 w1 c l2 w2, z σ s n = 258 ∧ z σ (s + 1) n = ((x : Nat) : Int) ∧ NEt s σ n 384 x e ∧ z σ (s + 2) n = ((b : Nat) : Int) ∧ (lo ≤ b ∧ b < n) ∧ P b (i + 1) lp l1 w1 ∧ z σ (s + 3) n = ((c : Nat) : Int) ∧ (lo ≤ c ∧ c < n) ∧ P c (i + 1 + l1.length + 1) lp l2 w2 ∧ l = (4, 0, ((i + 1 + l1.length + 1 : Nat) : Int), e.1) :: (l1 ++ (5, 0, ((i + 1 + l1.length + 1 + l2.length : Nat) : Int), []) :: (l2 ++ [(6, 0, 0, [])])) ∧ w = e.2.2.1 + w1 + w2 + 8 * V) ∨
  (∃ x e b l1 w1, z σ s n = 260 ∧ z σ (s + 1) n = ((x : Nat) : Int) ∧ NEt s σ n 384 x e ∧ z σ (s + 2) n = ((b : Nat) : Int) ∧ (lo ≤ b ∧ b < n) ∧ P b (i + 2) (lp + 1) l1 w1 ∧ (0 ≤ z σ (s + 3) n ∧ z σ (s + 3) n ≤ 8) ∧ l = (7, z σ (s + 3) n, (lp : Int), []) :: (8, (lp : Int), ((i + 2 + l1.length + 1 : Nat) : Int), e.1) :: (l1 ++ [(9, 0, ((i + 1 : Nat) : Int), [])]) ∧ w = (z σ (s + 3) n).toNat * (e.2.2.1 + w1 + 8 * V) + e.2.2.1) ∨
  (∃ ns, z σ s n = 275 ∧ (∀ m, m ∈ ns → lo ≤ m ∧ m < n) ∧ lnk (z σ (s + 4)) ns (z σ (s + 1) n) ∧ NSs (fun m i l w => P m i lp l w) ns i l w)
def NS (N : Nat → q_It) (V s : Nat) (σ : q_H) (lo : Nat) : Nat → Nat → Nat → Nat → List q_St → Nat → Prop
  | 0, _, _, _, _, _ => False
  | k + 1, n, i, lp, l, w => NSb N V s σ lo (NS N V s σ lo k) n i lp l w
/-- nodes below n are the same, followers from lo on; n itself but for its follower -/
def KL (s lo n : Nat) (σ τ : q_H) : Prop := ∀ i, i < n → z τ s i = z σ s i ∧ z τ (s + 1) i = z σ (s + 1) i ∧ z τ (s + 2) i = z σ (s + 2) i ∧ z τ (s + 3) i = z σ (s + 3) i ∧ z τ (s + 5) i = z σ (s + 5) i ∧ (lo ≤ i → z τ (s + 4) i = z σ (s + 4) i)
def KM (s lo n : Nat) (σ τ : q_H) : Prop := KL s lo n σ τ ∧ z τ s n = z σ s n ∧ z τ (s + 1) n = z σ (s + 1) n ∧ z τ (s + 2) n = z σ (s + 2) n ∧ z τ (s + 3) n = z σ (s + 3) n
section NsP
variable {N : Nat → q_It} {V s : Nat} {σ τ : q_H}
theorem NSs_mono {P Q : Nat → Nat → List q_St → Nat → Prop} : ∀ (ns : List Nat) (i : Nat) (l : List q_St) (w : Nat), NSs P ns i l w → (∀ m, m ∈ ns → ∀ i l w, P m i l w → Q m i l w) → NSs Q ns i l w
  | [], _, _, _, h, _ => h
  | n :: ns, i, l, w, ⟨l1, w1, l2, w2, a, b, c, d⟩, g => ⟨l1, w1, l2, w2, g n (by simp) _ _ _ a, NSs_mono ns _ _ _ b (fun m hm => g m (by simp [hm])), c, d⟩
theorem lnk_cong {nx nx' : Nat → Int} : ∀ (ns : List Nat) (f : Int), lnk nx ns f → (∀ m, m ∈ ns → nx' m = nx m) → lnk nx' ns f
  | [], _, h, _ => h
  | n :: ns, f, h, g => ⟨h.1, by rw [g n (by simp)]; exact lnk_cong ns _ h.2 (fun m hm => g m (by simp [hm]))⟩
theorem KN_sub {a b : Nat} (h : KN s b σ τ) (hab : a ≤ b) : KN s a σ τ := fun i hi => h i (by omega)
theorem KL_of {lo b : Nat} (h : KN s b σ τ) : KL s lo b σ τ := fun i hi => by
  obtain ⟨x0, x1, x2, x3, x4, x5⟩ := h i hi
  exact ⟨x0, x1, x2, x3, x5, fun _ => x4⟩
theorem KM_of {lo a b : Nat} (h : KL s lo b σ τ) (hab : a < b) : KM s lo a σ τ := by
  obtain ⟨x0, x1, x2, x3, -⟩ := h a hab
  exact ⟨fun i hi => h i (by omega), x0, x1, x2, x3⟩
theorem NEt_K {lo n k v : Nat} {e : q_Ex} (h : NEt s σ n k v e) (hk : KL s lo n σ τ) : NEt s τ n k v e :=
  NE_mono (Nat.le_refl _) (fun i hi => by obtain ⟨a, b, c, d, f, -⟩ := hk i hi; exact ⟨a, b, c, d, f⟩) k v e h
theorem NSb_mono {lo lo' : Nat} {P Q : Nat → Nat → Nat → List q_St → Nat → Prop} {n i lp w : Nat} {l : List q_St} (h : NSb N V s σ lo P n i lp l w) (hl : lo' ≤ lo) (hk : KM s lo n σ τ) (g : ∀ m, m < n → ∀ i lp l w, P m i lp l w → Q m i lp l w) : NSb N V s τ lo' Q n i lp l w := by
  obtain ⟨hK, k0, k1, k2, k3⟩ := hk
  unfold NSb
  rw [k0, k1, k2, k3]
  rcases h with ⟨x, e, t, h1, h2, h3, h4⟩ | ⟨x, e, h1, h2, h3, h4⟩ | ⟨x, e, b, l1, w1, h1, h2, h3, h4, h5, h6, h7⟩ | ⟨x, e, b, l1, w1, c, l2, w2, h1, h2, h3, h4, h5, h6, h7, h8, h9, h10⟩ | ⟨x, e, b, l1, w1, h1, h2, h3, h4, h5, h6, h7⟩ | ⟨ns, h1, h2, h3, h4⟩
  · exact Or.inl ⟨x, e, t, h1, h2, NEt_K h3 hK, h4⟩
  · exact Or.inr (Or.inl ⟨x, e, h1, h2, NEt_K h3 hK, h4⟩)
  · exact Or.inr (Or.inr (Or.inl ⟨x, e, b, l1, w1, h1, h2, NEt_K h3 hK, h4, ⟨by omega, h5.2⟩, g b h5.2 _ _ _ _ h6, h7⟩))
  · exact Or.inr (Or.inr (Or.inr (Or.inl ⟨x, e, b, l1, w1, c, l2, w2, h1, h2, NEt_K h3 hK, h4, ⟨by omega, h5.2⟩, g b h5.2 _ _ _ _ h6, h7, ⟨by omega, h8.2⟩, g c h8.2 _ _ _ _ h9, h10⟩)))
  · exact Or.inr (Or.inr (Or.inr (Or.inr (Or.inl ⟨x, e, b, l1, w1, h1, h2, NEt_K h3 hK, h4, ⟨by omega, h5.2⟩, g b h5.2 _ _ _ _ h6, h7⟩))))
  · exact Or.inr (Or.inr (Or.inr (Or.inr (Or.inr ⟨ns, h1, fun m hm => ⟨by have := h2 m hm; omega, (h2 m hm).2⟩, lnk_cong ns _ h3 (fun m hm => (hK m (h2 m hm).2).2.2.2.2.2 (h2 m hm).1), NSs_mono ns _ _ _ h4 (fun m hm i l w q => g m (h2 m hm).2 i lp l w q)⟩))))
theorem NS_mono {lo : Nat} : ∀ (k n i lp : Nat) (l : List q_St) (w : Nat), NS N V s σ lo k n i lp l w → KM s lo n σ τ → NS N V s τ lo k n i lp l w
  | 0, _, _, _, _, _, h, _ => h
  | k + 1, n, i, lp, l, w, h, hk => NSb_mono h (Nat.le_refl _) hk (fun m hm i lp l w q => NS_mono k m i lp l w q (KM_of hk.1 hm))
theorem KM_refl {lo n : Nat} : KM s lo n σ σ := ⟨fun _ _ => ⟨rfl, rfl, rfl, rfl, rfl, fun _ => rfl⟩, rfl, rfl, rfl, rfl⟩
theorem NS_lo {lo lo' : Nat} (hl : lo' ≤ lo) : ∀ (k n i lp : Nat) (l : List q_St) (w : Nat), NS N V s σ lo k n i lp l w → NS N V s σ lo' k n i lp l w
  | 0, _, _, _, _, _, h => h
  | k + 1, n, i, lp, l, w, h => NSb_mono h hl KM_refl (fun m _ i lp l w q => NS_lo hl k m i lp l w q)
theorem NS_le {lo : Nat} : ∀ (k k' n i lp : Nat) (l : List q_St) (w : Nat), k ≤ k' → NS N V s σ lo k n i lp l w → NS N V s σ lo k' n i lp l w
  | 0, _, _, _, _, _, _, _, h => False.elim h
  | k + 1, 0, _, _, _, _, _, hk, _ => absurd hk (by omega)
  | k + 1, k' + 1, n, i, lp, l, w, hk, h => NSb_mono h (Nat.le_refl _) KM_refl (fun m _ i lp l w q => NS_le k k' m i lp l w (by omega) q)
theorem NSs_app {P : Nat → Nat → List q_St → Nat → Prop} {m : Nat} {l2 : List q_St} {w2 : Nat} : ∀ (ns : List Nat) (i : Nat) (l : List q_St) (w : Nat), NSs P ns i l w → P m (i + l.length) l2 w2 → NSs P (ns ++ [m]) i (l ++ l2) (w + w2)
  | [], i, l, w, ⟨h1, h2⟩, g => by
    subst h1 h2
    exact ⟨l2, w2, [], 0, g, ⟨rfl, rfl⟩, by simp, by omega⟩
  | n :: ns, i, l, w, ⟨l1, w1, l3, w3, a, b, c, d⟩, g => by
    subst c d
    refine ⟨l1, w1, l3 ++ l2, w3 + w2, a, NSs_app ns _ _ _ b ?_, by rw [List.append_assoc], by omega⟩
    rw [List.length_append] at g
    rwa [show i + l1.length + l3.length = i + (l1.length + l3.length) by omega]
/-- one more behind the last -/
theorem lnk_app {nx nx' : Nat → Int} {x m : Nat} (h1 : nx' x = (m : Int)) (h2 : nx' m = -1) : ∀ (ns : List Nat) (f : Int), lnk nx (ns ++ [x]) f → (∀ y, y ∈ ns → nx' y = nx y) → lnk nx' (ns ++ [x] ++ [m]) f
  | [], f, h, _ => ⟨h.1, h1, h2⟩
  | n :: ns, f, h, g => ⟨h.1, by rw [g n (by simp)]; exact lnk_app h1 h2 ns _ h.2 (fun y hy => g y (by simp [hy]))⟩
end NsP
