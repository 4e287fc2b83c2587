/-! A clause watches another literal: chains as functions -/
theorem chn_cut {M M' : Nat → Int} {l : Int} {p c : Nat} {R : List Nat} (h1 : lk M' p l = lk M c l) (hR : ∀ a ∈ R, lk M' a l = lk M a l) : ∀ (P : List Nat) (x : Int), (∀ a ∈ P, lk M' a l = lk M a l) → chn M l x (P ++ p :: c :: R) → chn M' l x (P ++ p :: R)
  | [], x, _, h => by
    obtain ⟨e1, e2, e3⟩ := h
    refine ⟨e1, ?_⟩
    show chn M' l (lk M' p l) R
    rw [h1]
    exact chn_cong R _ hR e3
  | a :: P, x, hP, h => by
    refine ⟨h.1, ?_⟩
    show chn M' l (lk M' a l) (P ++ p :: R)
    rw [hP a (List.mem_cons_self ..)]
    exact chn_cut h1 hR P _ (fun b hb => hP b (List.mem_cons_of_mem _ hb)) h.2
theorem chn_tl {M : Nat → Int} {l : Int} {R : List Nat} : ∀ (P : List Nat) (x : Int), chn M l x (P ++ R) → ∃ y, chn M l y R
  | [], x, h => ⟨x, h⟩
  | _ :: P, _, h => chn_tl P _ h.2
section SwP
variable {M M' W W' : Nat → Int} {top s c y κ g l ca : Nat} {cs : List Nat} {Ws : Nat → List Nat} {P R : List Nat} {nx : Int}
/-- where the link lies by which the rest of a chain is reached -/
def lkA (M : Nat → Int) (g : Nat) (P : List Nat) (ca : Nat) : Prop := (P = [] ∧ ca = 0) ∨ ∃ P0 p, P = P0 ++ [p] ∧ ca = if M (p + 3) = (g : Int) then p + 1 else p + 2
theorem SW (hcl : CLp M top s cs) (hwl : WLp M W s cs Ws) (hc : c ∈ cs) (hy : y = 0 ∨ y = 1) (hk : 2 ≤ κ) (hk2 : (κ : Int) < M c) (hg : M (c + 3 + y) = (g : Int)) (hl : M (c + 3 + κ) = (l : Int)) (hR : Ws g = P ++ c :: R) (hP : lkA M g P ca)
    (hnx : nx = M (c + 1 + y)) (hMc : P ≠ [] → M' ca = nx) (hMo : ∀ j, (P ≠ [] → j ≠ ca) → M' j = up (up (up M (c + 3 + κ) (g : Int)) (c + 3 + y) (l : Int)) (c + 1 + y) (W l) j)
    (hWg : P = [] → W' g = nx) (hWo : ∀ j, (P = [] → j ≠ g) → W' j = up W l (c : Int) j) :
    CLp M' top s cs ∧ WLp M' W' s cs (fun j => if j = g then P ++ R else if j = l then c :: Ws l else Ws j) ∧ (∀ a ∈ cs, M' a = M a ∧ ∀ x, inC M' a x ↔ inC M a x) ∧ (∀ a ∈ cs, a ≠ c → ∀ i : Nat, (i : Int) < M a → M' (a + 3 + i) = M (a + 3 + i)) ∧ M' (c + 3 + (1 - y)) = M (c + 3 + (1 - y)) ∧ M' (c + 3 + y) = (l : Int) ∧ (∀ x, chn M g x R → chn M' g x R) ∧ lkA M' g P ca := by
  obtain ⟨a1, a2, a3, a4, a5, a6⟩ := hcl.1 c hc
  have lg := a4 y (by omega)
  have ll := a4 κ hk2
  rw [hg] at lg
  rw [hl] at ll
  have hgs : g < 2 * s := by have := lg.2; omega
  have hls : l < 2 * s := by have := ll.2; omega
  have hgl : l ≠ g := fun e => by
    have := a5 y κ (by omega) hk2
    rw [hg, hl, e] at this
    exact this rfl
  -- apart
  have ap : ∀ a ∈ cs, ∀ b ∈ cs, a ≠ b → (a : Int) + 3 + M a ≤ (b : Int) ∨ (b : Int) + 3 + M b ≤ (a : Int) := fun a ha b hb hab => by
    rcases Nat.lt_or_gt_of_ne hab with q | q
    · exact Or.inl (hcl.2.1 a ha b hb q)
    · exact Or.inr (hcl.2.1 b hb a ha q)
  obtain ⟨wg1, wg2, wg3⟩ := hwl g hgs
  rw [hR] at wg1 wg2 wg3
  -- the last one before
  have hca : P ≠ [] → ∃ P0 p, P = P0 ++ [p] ∧ p ∈ cs ∧ 2 ≤ M p ∧ p ≠ c ∧ ((M (p + 3) = (g : Int) ∧ ca = p + 1) ∨ (M (p + 3) ≠ (g : Int) ∧ M (p + 4) = (g : Int) ∧ ca = p + 2)) := by
    intro hne
    rcases hP with ⟨e, -⟩ | ⟨P0, p, e, e2⟩
    · exact absurd e hne
    · have hm : p ∈ P ++ c :: R := by rw [e]; simp
      obtain ⟨q1, q2, q3⟩ := (wg3 p).mp hm
      refine ⟨P0, p, e, q1, q2, fun e3 => ?_, ?_⟩
      · rw [e, e3] at wg2
        simp [List.nodup_append] at wg2
      · by_cases cp : M (p + 3) = (g : Int)
        · rw [if_pos cp] at e2; exact Or.inl ⟨cp, e2⟩
        · rw [if_neg cp] at e2; exact Or.inr ⟨cp, q3.resolve_left cp, e2⟩
  have Mo : ∀ j, (P ≠ [] → j ≠ ca) → j ≠ c + 3 + κ → j ≠ c + 3 + y → j ≠ c + 1 + y → M' j = M j := fun j h0 h1 h2 h3 => by
    rw [hMo j h0, up_n h3, up_n h2, up_n h1]
  -- cells that are no links are never ca
  have nca : ∀ a ∈ cs, ∀ i : Nat, (i : Int) < M a → P ≠ [] → a + 3 + i ≠ ca := fun a ha i hi hne => by
    obtain ⟨P0, p, -, hp, hp2, -, h⟩ := hca hne
    by_cases e : a = p
    · subst e; omega
    · have := ap a ha p hp e; omega
  have nca0 : ∀ a ∈ cs, P ≠ [] → a ≠ ca := fun a ha hne => by
    obtain ⟨P0, p, -, hp, hp2, -, h⟩ := hca hne
    by_cases e : a = p
    · subst e; omega
    · have := ap a ha p hp e
      have := (hcl.1 a ha).2.1
      omega
  have ncac : ∀ i, i < 3 → P ≠ [] → c + i ≠ ca := fun i hi hne => by
    obtain ⟨P0, p, -, hp, hp2, hpc, h⟩ := hca hne
    have := ap c hc p hp (fun e => hpc e.symm)
    omega
  have h0 : ∀ a ∈ cs, M' a = M a := fun a ha => by
    by_cases e : a = c
    · subst e; exact Mo a (nca0 a ha) (by omega) (by omega) (by omega)
    · have := ap a ha c hc e
      have := (hcl.1 a ha).2.1
      exact Mo a (nca0 a ha) (by omega) (by omega) (by omega)
  have hb : ∀ a ∈ cs, a ≠ c → ∀ i : Nat, (i : Int) < M a → M' (a + 3 + i) = M (a + 3 + i) := fun a ha e i hi => by
    have := ap a ha c hc e
    exact Mo _ (nca a ha i hi) (by omega) (by omega) (by omega)
  have hsw : ∀ i : Nat, (i : Int) < M c → M' (c + 3 + i) = M (c + 3 + (if i = y then κ else if i = κ then y else i)) := fun i hi => by
    by_cases e1 : i = y
    · rw [if_pos e1, hMo _ (nca c hc i hi), up_n (by omega), e1, up_s, hl]
    · rw [if_neg e1]
      by_cases e2 : i = κ
      · rw [if_pos e2, hMo _ (nca c hc i hi), up_n (by omega), up_n (by omega), e2, up_s, hg]
      · rw [if_neg e2]
        exact Mo _ (nca c hc i hi) (by omega) (by omega) (by omega)
  have hin : ∀ a ∈ cs, ∀ x, inC M' a x ↔ inC M a x := fun a ha x => by
    by_cases e : a = c
    · subst e
      constructor
      · rintro ⟨i, hi, ei⟩
        rw [h0 a ha] at hi
        rw [hsw i hi] at ei
        refine ⟨_, ?_, ei⟩
        split
        · exact hk2
        · split
          · omega
          · exact hi
      · rintro ⟨i, hi, ei⟩
        refine ⟨if i = y then κ else if i = κ then y else i, ?_, ?_⟩
        · rw [h0 a ha]
          split
          · exact hk2
          · split
            · omega
            · exact hi
        · by_cases e1 : i = y
          · rw [if_pos e1, hsw κ hk2, if_neg (by omega), if_pos rfl, ← e1]; exact ei
          · rw [if_neg e1]
            by_cases e2 : i = κ
            · rw [if_pos e2, hsw y (by omega), if_pos rfl, ← e2]; exact ei
            · rw [if_neg e2, hsw i hi, if_neg e1, if_neg e2]; exact ei
    · unfold inC
      rw [h0 a ha]
      constructor
      · rintro ⟨i, hi, ei⟩; exact ⟨i, hi, by rw [← hb a ha e i hi]; exact ei⟩
      · rintro ⟨i, hi, ei⟩; exact ⟨i, hi, by rw [hb a ha e i hi]; exact ei⟩
  have hoth : M' (c + 3 + (1 - y)) = M (c + 3 + (1 - y)) := by
    rw [hsw (1 - y) (by omega), if_neg (by omega), if_neg (by omega)]
  have hnew : M' (c + 3 + y) = (l : Int) := by rw [hsw y (by omega), if_pos rfl, hl]
  -- links
  have hlk : ∀ a ∈ cs, a ≠ c → 2 ≤ M a → ∀ j : Nat, (M (a + 3) = (j : Int) ∨ M (a + 4) = (j : Int)) → (j = g → P ≠ [] → ∀ P0 p, P = P0 ++ [p] → a ≠ p) → lk M' a j = lk M a j := fun a ha e h2 j hj hp => by
    have e3 := hb a ha e 0 (by omega)
    have apc := ap a ha c hc e
    unfold lk
    rw [show a + 3 + 0 = a + 3 by omega] at e3
    rw [e3]
    have key : ∀ i, i < 3 → (P ≠ [] → a + i ≠ ca) → M' (a + i) = M (a + i) := fun i hi hne => Mo _ hne (by omega) (by omega) (by omega)
    by_cases cj : M (a + 3) = (j : Int)
    · rw [if_pos cj, if_pos cj]
      refine key 1 (by omega) (fun hne e4 => ?_)
      obtain ⟨P0, p, eP, hp1, hp2, -, h⟩ := hca hne
      by_cases e5 : a = p
      · have : j = g := by
          rcases h with ⟨h5, -⟩ | ⟨-, -, h5⟩
          · rw [e5, h5] at cj; omega
          · omega
        exact hp this hne P0 p eP e5
      · have := ap a ha p hp1 e5; omega
    · rw [if_neg cj, if_neg cj]
      refine key 2 (by omega) (fun hne e4 => ?_)
      obtain ⟨P0, p, eP, hp1, hp2, -, h⟩ := hca hne
      by_cases e5 : a = p
      · have : j = g := by
          rcases h with ⟨-, h5⟩ | ⟨-, h5, -⟩
          · omega
          · have := hj.resolve_left cj; rw [e5, h5] at this; omega
        exact hp this hne P0 p eP e5
      · have := ap a ha p hp1 e5; omega
  have hnxl : lk M c g = nx := by
    unfold lk
    rcases hy with e | e
    · subst e; rw [if_pos (by exact hg), hnx]
    · subst e
      have := a5 0 1 (by omega) (by omega)
      rw [show c + 3 + 0 = c + 3 by omega, hg] at this
      rw [if_neg this, hnx]
  have hlR : ∀ a ∈ R, lk M' a g = lk M a g := fun a ha => by
    have hm : a ∈ P ++ c :: R := by simp [ha]
    obtain ⟨q1, q2, q3⟩ := (wg3 a).mp hm
    refine hlk a q1 (fun e => ?_) q2 g q3 (fun _ _ P0 p eP e => ?_)
    · rw [e] at ha
      simp [List.nodup_append, ha] at wg2
    · rw [e] at ha
      rw [eP] at wg2
      simp [List.nodup_append, ha] at wg2
      
  refine ⟨⟨fun a ha => ?_, fun a ha b hb2 hab => by rw [h0 a ha]; exact hcl.2.1 a ha b hb2 hab, hcl.2.2⟩, fun j hj => ?_, fun a ha => ⟨h0 a ha, hin a ha⟩, hb, hoth, hnew, fun x hx => chn_cong R x hlR hx, ?_⟩
  · obtain ⟨b1, b2, b3, b4, b5, b6⟩ := hcl.1 a ha
    rw [h0 a ha]
    refine ⟨b1, b2, b3, fun i hi => ?_, fun i k h1 h2 => ?_, b6⟩
    · obtain ⟨i2, hi2, e2⟩ := (hin a ha _).mp ⟨i, by rw [h0 a ha]; exact hi, rfl⟩
      rw [← e2]; exact b4 i2 hi2
    · by_cases e : a = c
      · subst e
        rw [hsw i (by omega), hsw k h2]
        have inj : ∀ u v : Nat, u ≠ v → (u : Int) < M a → (v : Int) < M a → M (a + 3 + u) ≠ M (a + 3 + v) := fun u v huv hu hv => by
          rcases Nat.lt_or_gt_of_ne huv with q | q
          · exact b5 u v q hv
          · exact fun e => b5 v u q hu e.symm
        refine inj _ _ ?_ ?_ ?_
        · split <;> split <;> (try split) <;> (try split) <;> omega
        · split
          · exact hk2
          · split <;> omega
        · split
          · exact hk2
          · split <;> omega
      · rw [hb a ha e i (by omega), hb a ha e k h2]; exact b5 i k h1 h2
  · have mem : ∀ a, a ∈ cs → a ≠ c → ((2 ≤ M' a ∧ (M' (a + 3) = (j : Int) ∨ M' (a + 4) = (j : Int))) ↔ (2 ≤ M a ∧ (M (a + 3) = (j : Int) ∨ M (a + 4) = (j : Int)))) := fun a ha e => by
      rw [h0 a ha]
      constructor
      · rintro ⟨q1, q2⟩
        have e3 := hb a ha e 0 (by omega)
        have e4 := hb a ha e 1 (by omega)
        exact ⟨q1, by rw [← e3, ← e4]; exact q2⟩
      · rintro ⟨q1, q2⟩
        have e3 := hb a ha e 0 (by omega)
        have e4 := hb a ha e 1 (by omega)
        exact ⟨q1, by rw [← e3, ← e4] at q2; exact q2⟩
    have memc : (2 ≤ M' c ∧ (M' (c + 3) = (j : Int) ∨ M' (c + 4) = (j : Int))) ↔ (j = l ∨ M (c + 3 + (1 - y)) = (j : Int)) := by
      rw [h0 c hc]
      rcases hy with e | e
      · subst e
        rw [show c + 3 = c + 3 + 0 by rfl, hnew, show c + 4 = c + 3 + (1 - 0) by rfl, hoth]
        constructor
        · rintro ⟨-, q | q⟩
          · exact Or.inl (by omega)
          · exact Or.inr q
        · rintro (q | q)
          · exact ⟨by omega, Or.inl (by omega)⟩
          · exact ⟨by omega, Or.inr q⟩
      · subst e
        rw [show c + 4 = c + 3 + 1 by rfl, hnew, show c + 3 = c + 3 + (1 - 1) by rfl, hoth]
        constructor
        · rintro ⟨-, q | q⟩
          · exact Or.inr q
          · exact Or.inl (by omega)
        · rintro (q | q)
          · exact ⟨by omega, Or.inr (by omega)⟩
          · exact ⟨by omega, Or.inl q⟩
    have oldc : (M (c + 3) = (j : Int) ∨ M (c + 4) = (j : Int)) ↔ (j = g ∨ M (c + 3 + (1 - y)) = (j : Int)) := by
      rcases hy with e | e
      · subst e
        rw [show c + 3 = c + 3 + 0 by rfl, hg, show c + 4 = c + 3 + (1 - 0) by rfl]
        constructor
        · rintro (q | q)
          · exact Or.inl (by omega)
          · exact Or.inr q
        · rintro (q | q)
          · exact Or.inl (by omega)
          · exact Or.inr q
      · subst e
        rw [show c + 4 = c + 3 + 1 by rfl, hg]
        constructor
        · rintro (q | q)
          · exact Or.inr q
          · exact Or.inl (by omega)
        · rintro (q | q)
          · exact Or.inr (by omega)
          · exact Or.inl q
    have og : M (c + 3 + (1 - y)) ≠ (g : Int) := by
      rcases hy with e | e
      · subst e; have := a5 0 1 (by omega) (by omega); rw [hg] at this; exact fun q => this q.symm
      · subst e; have := a5 0 1 (by omega) (by omega); rw [hg] at this; exact this
    have ol : M (c + 3 + (1 - y)) ≠ (l : Int) := by
      have := a5 (1 - y) κ (by omega) hk2; rw [hl] at this; exact this
    obtain ⟨w1, w2, w3⟩ := hwl j hj
    by_cases cg : j = g
    · subst cg
      simp only [if_true]
      refine ⟨?_, ?_, fun a => ?_⟩
      · by_cases cP : P = []
        · rw [hWg cP]
          subst cP
          exact chn_cong R nx hlR (by have := wg1.2; rw [hnxl] at this; exact this)
        · rw [hWo j (fun e => absurd e cP), up_n (fun e => hgl e.symm)]
          obtain ⟨P0, p, eP, hp1, hp2, hpc, h⟩ := hca cP
          have e3 := hb p hp1 hpc 0 (by omega)
          subst eP
          rw [List.append_assoc] at wg1 ⊢
          refine chn_cut (c := c) ?_ hlR P0 _ (fun a ha => ?_) wg1
          · rw [hnxl, ← hMc cP]
            unfold lk
            rw [show p + 3 = p + 3 + 0 by rfl, e3]
            rcases h with ⟨h1, h2⟩ | ⟨h1, -, h2⟩
            · rw [if_pos (by exact h1), h2]
            · rw [if_neg (by exact h1), h2]
          · have hm : a ∈ P0 ++ [p] ++ c :: R := by simp [ha]
            obtain ⟨q1, q2, q3⟩ := (wg3 a).mp hm
            refine hlk a q1 (fun e => ?_) q2 j q3 (fun _ _ P1 p1 eP e => ?_)
            · rw [e] at ha
              simp [List.nodup_append, ha] at wg2
              exact absurd rfl (wg2.2.2 c ha).2.1
            · have := List.append_inj' eP rfl
              have ep : p = p1 := by have := this.2; simp at this; exact this
              rw [e, ← ep] at ha
              simp [List.nodup_append] at wg2
              exact absurd rfl (wg2.2.2 p ha).1
      · simp [List.nodup_append] at wg2 ⊢
        exact ⟨wg2.1, wg2.2.1.2, fun a ha b hb2 => (wg2.2.2 a ha).2 b hb2⟩
      · by_cases ea : a = c
        · subst ea
          constructor
          · intro hm
            simp [List.nodup_append] at wg2
            rcases List.mem_append.mp hm with q | q
            · exact absurd rfl (wg2.2.2 a q).1
            · exact absurd q wg2.2.1.1
          · rintro ⟨-, q⟩
            rcases memc.mp q with q | q
            · exact absurd q.symm hgl
            · exact absurd q og
        · constructor
          · intro hm
            have hm2 : a ∈ P ++ c :: R := by
              rcases List.mem_append.mp hm with q | q
              · exact List.mem_append.mpr (Or.inl q)
              · exact List.mem_append.mpr (Or.inr (List.mem_cons_of_mem _ q))
            obtain ⟨q1, q2⟩ := (wg3 a).mp hm2
            exact ⟨q1, (mem a q1 ea).mpr q2⟩
          · rintro ⟨q1, q2⟩
            have hm2 := (wg3 a).mpr ⟨q1, (mem a q1 ea).mp q2⟩
            rcases List.mem_append.mp hm2 with q | q
            · exact List.mem_append.mpr (Or.inl q)
            · rcases List.mem_cons.mp q with q | q
              · exact absurd q ea
              · exact List.mem_append.mpr (Or.inr q)
    · simp only [cg, if_false]
      have hWj : W' j = up W l (c : Int) j := hWo j (fun _ => cg)
      have keep : ∀ a ∈ Ws j, a ≠ c → lk M' a j = lk M a j := fun a ha e => by
        obtain ⟨q1, q2, q3⟩ := (w3 a).mp ha
        exact hlk a q1 e q2 j q3 (fun e2 => absurd e2 cg)
      by_cases cl2 : j = l
      · subst cl2
        simp only [if_true]
        have nin : c ∉ Ws j := fun hm => by
          obtain ⟨-, -, q⟩ := (w3 c).mp hm
          rcases oldc.mp q with q | q
          · exact cg q
          · exact ol q
        rw [hWj, up_s]
        refine ⟨⟨rfl, ?_⟩, List.nodup_cons.mpr ⟨nin, w2⟩, fun a => ?_⟩
        · have : lk M' c j = W j := by
            have e5 : M' (c + 1 + y) = W j := by
              rw [hMo _ (fun hne => by rw [Nat.add_assoc]; exact ncac (1 + y) (by omega) hne), up_s]
            unfold lk
            rcases hy with e | e
            · subst e; rw [if_pos (by exact hnew)]; exact e5
            · subst e
              rw [if_neg (by rw [show c + 3 = c + 3 + (1 - 1) by rfl, hoth]; exact ol)]; exact e5
          show chn M' (j : Int) (lk M' c j) (Ws j)
          rw [this]
          exact chn_cong _ _ (fun a ha => keep a ha (fun e => nin (by rw [← e]; exact ha))) w1
        · rw [List.mem_cons]
          by_cases ea : a = c
          · subst ea
            exact ⟨fun _ => ⟨hc, memc.mpr (Or.inl rfl)⟩, fun _ => Or.inl rfl⟩
          · constructor
            · rintro (q | q)
              · exact absurd q ea
              · obtain ⟨q1, q2⟩ := (w3 a).mp q
                exact ⟨q1, (mem a q1 ea).mpr q2⟩
            · rintro ⟨q1, q2⟩
              exact Or.inr ((w3 a).mpr ⟨q1, (mem a q1 ea).mp q2⟩)
      · simp only [cl2, if_false]
        rw [hWj, up_n cl2]
        refine ⟨chn_cong _ _ (fun a ha => ?_) w1, w2, fun a => ?_⟩
        · by_cases ea : a = c
          · subst ea
            -- the other watch of c
            obtain ⟨-, -, q⟩ := (w3 a).mp ha
            have q := (oldc.mp q).resolve_left cg
            unfold lk
            rcases hy with e | e
            · subst e
              rw [if_neg (by rw [show a + 3 = a + 3 + 0 by rfl, hnew]; omega), if_neg (by rw [show a + 3 = a + 3 + 0 by rfl, hg]; omega)]
              exact Mo _ (ncac 2 (by omega)) (by omega) (by omega) (by omega)
            · subst e
              have q' : M (a + 3) = (j : Int) := q
              have o' : M' (a + 3) = M (a + 3) := hoth
              rw [o', if_pos q', if_pos q']
              exact Mo _ (ncac 1 (by omega)) (by omega) (by omega) (by omega)
          · exact keep a ha ea
        · by_cases ea : a = c
          · subst ea
            rw [w3 a, oldc, memc]
            constructor
            · rintro ⟨q1, q2, q3⟩
              exact ⟨q1, Or.inr (q3.resolve_left cg)⟩
            · rintro ⟨q1, q3⟩
              exact ⟨q1, by omega, Or.inr (q3.resolve_left cl2)⟩
          · rw [w3 a]
            constructor
            · rintro ⟨q1, q2⟩; exact ⟨q1, (mem a q1 ea).mpr q2⟩
            · rintro ⟨q1, q2⟩; exact ⟨q1, (mem a q1 ea).mp q2⟩
  · rcases hP with e | ⟨P0, p, e, e2⟩
    · exact Or.inl e
    · refine Or.inr ⟨P0, p, e, ?_⟩
      have hm : p ∈ P ++ c :: R := by rw [e]; simp
      obtain ⟨q1, q2, -⟩ := (wg3 p).mp hm
      have hpc : p ≠ c := fun e3 => by
        rw [e, e3] at wg2
        simp [List.nodup_append] at wg2
      have e3 := hb p q1 hpc 0 (by omega)
      rw [e2, show p + 3 = p + 3 + 0 by rfl, e3]
end SwP
