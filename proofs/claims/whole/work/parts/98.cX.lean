/-! The class's way of reading an EXPR, as a machine; it reads what recursive descent reads -/
/-- what waits: WIDTHS, DEPTH, WORK, items -/
abbrev q_Rd : Type := List Int × Nat × Nat × List q_It
/-- TOKEN, signs, the rest, the first unknown NAME -/
abbrev q_Mc : Type := Nat × List Int × q_Rd × Option Nat
/-- how tightly a sign holds, those before an operand most -/
def stg (s : Int) : Nat := if 19 ≤ s then 11 else sgL s
def app (s : Int) (r : q_Rd) : q_Rd :=
  if s = 22 then (match r.1 with | w3 :: w2 :: w1 :: W => (max w2 w3 :: W, r.2.1, r.2.2.1 + (max w1 (max w2 w3)).toNat, r.2.2.2 ++ [(22, 0, max w2 w3)]) | _ => r)
  else if 19 ≤ s then (match r.1 with | w1 :: W => (uW s w1 :: W, r.2.1, r.2.2.1 + w1.toNat, r.2.2.2 ++ [(s, 0, uW s w1)]) | _ => r)
  else (match r.1 with | w2 :: w1 :: W => (oW s w1 w2 :: W, r.2.1, r.2.2.1 + oP s (max w1 w2), r.2.2.2 ++ [(s, 0, oW s w1 w2)]) | _ => r)
def dwn (r : q_Rd) : q_Rd := (r.1, r.2.1 - 1, r.2.2)
/-- what waits and holds as tightly, or more so, is applied -/
def red (l : Nat) : List Int → q_Rd → List Int × q_Rd
  | [], r => ([], r)
  | s :: S, r => if 1 ≤ s ∧ s ≤ 21 ∧ l ≤ stg s then red l S (app s (if 19 ≤ s then dwn r else r)) else (s :: S, r)
def redC : List Int → q_Rd → List Int × q_Rd
  | [], r => ([], r)
  | s :: S, r => if s = 33 then redC S (dwn (app 22 r)) else (s :: S, r)
/-- true: an operand is due; false: behind one -/
def cX (K : Nat → Int) (N : Nat → q_It) (B : Nat → Bool) : Nat → Bool → q_Mc → Option (Except Nat q_Mc)
  | 0, _, _ => none
  | n + 1, true, (t, S, (W, D, k, its), f) =>
    if 30 < D then some (.error t)
    else if K t = 23 ∨ K t = 30 then (if W.length < 400 then cX K N B n false (t + 1, S, ((N t).2.2 :: W, D, k, its ++ [N t]), orF f (if B t then none else some t)) else none)
    else if K t = 19 ∨ K t = 20 ∨ K t = 15 ∨ K t = 35 then (if S.length < 400 then cX K N B n true (t + 1, (if K t = 15 then 21 else K t) :: S, (W, D + 1, k, its), f) else none)
    else some (.error t)
  | n + 1, false, (t, S, r, f) =>
    if 1 ≤ K t ∧ K t ≤ 18 then
      (if (red (sgL (K t)) S r).1.length < 400 then cX K N B n true (t + 1, K t :: (red (sgL (K t)) S r).1, (red (sgL (K t)) S r).2, f) else none)
    else if K t = 34 then
      (if (red 1 S r).1.length < 400 then cX K N B n true (t + 1, 34 :: (red 1 S r).1, ((red 1 S r).2.1, (red 1 S r).2.2.1 + 1, (red 1 S r).2.2.2), f) else none)
    else if K t = 33 ∧ (redC (red 1 S r).1 (red 1 S r).2).1.head? = some 34 then
      cX K N B n true (t + 1, 33 :: (redC (red 1 S r).1 (red 1 S r).2).1.tail, (redC (red 1 S r).1 (red 1 S r).2).2, f)
    else if K t = 36 ∧ (redC (red 1 S r).1 (red 1 S r).2).1.head? = some 35 then
      cX K N B n false (t + 1, (redC (red 1 S r).1 (red 1 S r).2).1.tail, dwn (redC (red 1 S r).1 (red 1 S r).2).2, f)
    else if (redC (red 1 S r).1 (red 1 S r).2).1 = [] then some (.ok (t, [], (redC (red 1 S r).1 (red 1 S r).2).2, f)) else some (.error t)
section CxP
variable {K : Nat → Int} {N : Nat → q_It} {B : Nat → Bool}
/-- from C1 it comes to C2 -/
def Rc (K : Nat → Int) (N : Nat → q_It) (B : Nat → Bool) (p1 : Bool) (C1 : q_Mc) (p2 : Bool) (C2 : q_Mc) : Prop := ∀ m r, cX K N B m p2 C2 = some r → ∃ m', cX K N B m' p1 C1 = some r
theorem Rc_trans {p1 p2 p3 : Bool} {C1 C2 C3 : q_Mc} (h : Rc K N B p1 C1 p2 C2) (g : Rc K N B p2 C2 p3 C3) : Rc K N B p1 C1 p3 C3 := fun m r q => by
  obtain ⟨m2, q2⟩ := g m r q
  exact h m2 r q2
theorem Rc_step {p1 p2 : Bool} {C1 C2 : q_Mc} (h : ∀ n, cX K N B (n + 1) p1 C1 = cX K N B n p2 C2) : Rc K N B p1 C1 p2 C2 := fun m r q => ⟨m + 1, by rw [h]; exact q⟩
theorem Rc_same {C1 C2 : q_Mc} (h : ∀ n, cX K N B (n + 1) false C1 = cX K N B (n + 1) false C2) : Rc K N B false C1 false C2 := fun m r q => by
  cases m with
  | zero => cases q
  | succ m => exact ⟨m + 1, by rw [h]; exact q⟩
/-- the top doesn't hold as tightly -/
def cmp (l : Nat) (S : List Int) : Prop := ∀ s, S.head? = some s → ¬ (1 ≤ s ∧ s ≤ 21 ∧ l ≤ stg s)
theorem red_stop {l : Nat} {S : List Int} {r : q_Rd} (h : cmp l S) : red l S r = (S, r) := by
  cases S with
  | nil => rfl
  | cons s S => unfold red; rw [if_neg (h s rfl)]
/-- what stands behind an EXPR -/
def cln (t : Nat) (S : List Int) (W : List Int) (D k : Nat) (its : List q_It) (f : Option Nat) (e : q_Ex) : q_Mc := (t, S, (e.2.1 :: W, D, k + e.2.2.1, its ++ e.1), orF f e.2.2.2)
theorem orF_a (a b c : Option Nat) : orF (orF a b) c = orF a (orF b c) := by cases a <;> rfl
theorem orF_n (a : Option Nat) : orF a none = a := by cases a <;> rfl
/-- behind an operand, only what the next TOKEN makes of what waits counts -/
theorem B_same {l t : Nat} {S1 S2 : List Int} {r1 r2 : q_Rd} {f : Option Nat} (hl : 1 ≤ l) (ht : sgL (K t) ≤ l) (h : ∀ l', 1 ≤ l' → l' ≤ l → red l' S1 r1 = red l' S2 r2) (n : Nat) : cX K N B (n + 1) false (t, S1, r1, f) = cX K N B (n + 1) false (t, S2, r2, f) := by
  unfold cX
  rw [h 1 (Nat.le_refl _) hl]
  by_cases c : 1 ≤ K t ∧ K t ≤ 18
  · have : sgL (K t) ≠ 0 := fun q => (sgL_0.mp q) c
    rw [h (sgL (K t)) (by omega) ht]
  · rw [if_neg c, if_neg c]
theorem B_same0 {t : Nat} {S1 S2 : List Int} {r1 r2 : q_Rd} {f : Option Nat} (ht : sgL (K t) = 0) (h34 : K t ≠ 34) (h : redC (red 1 S1 r1).1 (red 1 S1 r1).2 = redC (red 1 S2 r2).1 (red 1 S2 r2).2) (n : Nat) : cX K N B (n + 1) false (t, S1, r1, f) = cX K N B (n + 1) false (t, S2, r2, f) := by
  unfold cX
  rw [if_neg (sgL_0.mp ht), if_neg (sgL_0.mp ht), if_neg h34, if_neg h34, h]
/-- rooms for what waits -/
def bS (l dp : Nat) : Nat := 11 * (31 - dp) + (11 - max l 1)
def bW (l dp : Nat) : Nat := 12 * (31 - dp) + (11 - max l 1)
theorem stg_b {s : Int} (h : 1 ≤ s ∧ s ≤ 18) : stg s = sgL s := by unfold stg; rw [if_neg (by omega)]
theorem SIM : ∀ (n l : Nat) (acc : Option q_Ex) (dp t : Nat) (r : q_PR), l ≤ 11 → (acc ≠ none → sgL (K t) ≤ l ∧ 1 ≤ l ∧ l ≤ 10) → pX K N B n l acc dp t = some r →
    ∀ (S W : List Int) (k : Nat) (its : List q_It) (f : Option Nat), (l ≤ 10 → cmp (max l 1) S) → S.length + bS l dp ≤ 400 → W.length + bW l dp ≤ 399 →
      (∀ t' e, r = .ok (t', e) → match acc with | none => Rc K N B true (t, S, (W, dp, k, its), f) false (cln t' S W dp k its f e) | some e0 => Rc K N B false (cln t S W dp k its f e0) false (cln t' S W dp k its f e)) ∧
      (∀ x, r = .error x → match acc with | none => ∃ m, cX K N B m true (t, S, (W, dp, k, its), f) = some (.error x) | some e0 => ∃ m, cX K N B m false (cln t S W dp k its f e0) = some (.error x))
  | 0, _, _, _, _, _, _, _, h => by cases h
  | n + 1, l, some e0, dp, t, r, hl, ha, h => by
    intro S W k its f hc hS hW
    obtain ⟨h1, h2, h3⟩ := ha (by simp)
    have hc := hc h3
    rw [show max l 1 = l by omega] at hc
    have bS' : bS l dp = 11 * (31 - dp) + (11 - l) := by unfold bS; rw [show max l 1 = l by omega]
    have bW' : bW l dp = 12 * (31 - dp) + (11 - l) := by unfold bW; rw [show max l 1 = l by omega]
    unfold pX at h
    by_cases c : sgL (K t) = l
    · rw [if_pos c] at h
      have hk : 1 ≤ K t ∧ K t ≤ 18 := Classical.byContradiction fun q => by have := sgL_0.mpr q; omega
      -- the sign is put down
      have st : Rc K N B false (cln t S W dp k its f e0) true (t + 1, K t :: S, (e0.2.1 :: W, dp, k + e0.2.2.1, its ++ e0.1), orF f e0.2.2.2) := Rc_step (fun m => by
        unfold cln
        conv => lhs; unfold cX
        rw [if_pos hk, c, red_stop hc, if_pos (show S.length < 400 by omega)])
      have ih := SIM n (l + 1) none dp (t + 1)
      have c1 : l + 1 ≤ 10 → cmp (max (l + 1) 1) (K t :: S) := fun _ s q => by
        cases q
        rw [stg_b hk]
        omega
      have d1 : bS (l + 1) dp = 11 * (31 - dp) + (11 - (l + 1)) := by unfold bS; rw [show max (l + 1) 1 = l + 1 by omega]
      have d2 : bW (l + 1) dp = 12 * (31 - dp) + (11 - (l + 1)) := by unfold bW; rw [show max (l + 1) 1 = l + 1 by omega]
      rcases bnd_some h with ⟨x, q1, q2⟩ | ⟨t2, e2, q1, q2⟩
      · obtain ⟨-, b⟩ := ih (.error x) (by omega) (fun q => absurd rfl q) q1 (K t :: S) (e0.2.1 :: W) (k + e0.2.2.1) (its ++ e0.1) (orF f e0.2.2.2) c1 (by rw [List.length_cons]; omega) (by rw [List.length_cons]; omega)
        refine ⟨fun t' e q => (by rw [q2] at q; cases q), fun y q => ?_⟩
        rw [q2] at q
        cases q
        obtain ⟨m, hm⟩ := b x rfl
        exact st m _ hm
      · obtain ⟨a, -⟩ := ih (.ok (t2, e2)) (by omega) (fun q => absurd rfl q) q1 (K t :: S) (e0.2.1 :: W) (k + e0.2.2.1) (its ++ e0.1) (orF f e0.2.2.2) c1 (by rw [List.length_cons]; omega) (by rw [List.length_cons]; omega)
        have a := a t2 e2 rfl
        have nx := pX_next n (l + 1) none dp (t + 1) t2 e2 (by omega) (fun q => absurd rfl q) q1
        have hn : sgL (K t2) ≤ l := by
          by_cases q : l + 1 ≤ 10
          · have := nx.1 (by omega) q; omega
          · have := sgL_le (K t2); omega
        -- both are one
        have jn : Rc K N B false (cln t2 (K t :: S) (e0.2.1 :: W) dp (k + e0.2.2.1) (its ++ e0.1) (orF f e0.2.2.2) e2) false (cln t2 S W dp k its f (eB (K t) e0 e2)) := Rc_same (fun m => by
          unfold cln
          rw [orF_a]
          refine B_same h2 hn (fun l' g1 g2 => ?_) m
          conv => lhs; unfold red
          rw [if_pos ⟨hk.1, by omega, by rw [stg_b hk]; omega⟩, if_neg (by omega)]
          unfold app
          rw [if_neg (by omega), if_neg (by omega)]
          unfold eB
          simp only [List.append_assoc, Nat.add_assoc])
        have ih2 := SIM n l (some (eB (K t) e0 e2)) dp t2 r hl (fun _ => ⟨hn, h2, h3⟩) q2 S W k its f (fun _ => by rw [show max l 1 = l by omega]; exact hc) hS hW
        refine ⟨fun t' e q => ?_, fun x q => ?_⟩
        · exact Rc_trans st (Rc_trans a (Rc_trans jn (ih2.1 t' e q)))
        · obtain ⟨m, hm⟩ := ih2.2 x q
          exact Rc_trans st (Rc_trans a jn) m _ hm
    · rw [if_neg c] at h
      cases h
      refine ⟨fun t' e q => ?_, fun x q => by cases q⟩
      cases q
      exact fun m r q => ⟨m, q⟩
  | n + 1, l, none, dp, t, r, hl, ha, h => by
    intro S W k its f hc hS hW
    unfold pX at h
    by_cases c0 : l = 0
    · subst c0
      rw [if_pos rfl] at h
      have hc := hc (by omega)
      have ih1 := SIM n 1 none dp t
      have d1 : bS 1 dp = bS 0 dp := rfl
      have d2 : bW 1 dp = bW 0 dp := rfl
      have d3 : bS 0 dp = 11 * (31 - dp) + 10 := rfl
      have d4 : bW 0 dp = 12 * (31 - dp) + 10 := rfl
      have d5 : bS 0 (dp + 1) = 11 * (31 - (dp + 1)) + 10 := rfl
      have d6 : bW 0 (dp + 1) = 12 * (31 - (dp + 1)) + 10 := rfl
      rcases bnd_some h with ⟨x, q1, q2⟩ | ⟨t1, e1, q1, q2⟩
      · obtain ⟨-, b⟩ := ih1 (.error x) (by omega) (fun q => absurd rfl q) q1 S W k its f (fun _ => hc) (by omega) (by omega)
        refine ⟨fun t' e q => (by rw [q2] at q; cases q), fun y q => ?_⟩
        rw [q2] at q
        cases q
        exact b x rfl
      · obtain ⟨a, -⟩ := ih1 (.ok (t1, e1)) (by omega) (fun q => absurd rfl q) q1 S W k its f (fun _ => hc) (by omega) (by omega)
        have a := a t1 e1 rfl
        have nx := pX_next n 1 none dp t t1 e1 (by omega) (fun q => absurd rfl q) q1
        have n1 : sgL (K t1) = 0 := by have := nx.1 (by omega) (by omega); omega
        have nd := nx.2.2.1 rfl
        by_cases c1 : K t1 = 34
        · rw [if_pos c1] at q2
          -- the question mark
          have st : Rc K N B false (cln t1 S W dp k its f e1) true (t1 + 1, 34 :: S, (e1.2.1 :: W, dp + 1, k + e1.2.2.1, its ++ e1.1), orF f e1.2.2.2) := Rc_step (fun m => by
            unfold cln
            conv => lhs; unfold cX
            rw [if_neg (sgL_0.mp n1), if_pos c1, red_stop (show cmp 1 S from hc), if_pos (show S.length < 400 by omega)])
          have cq : ∀ s : Int, 22 ≤ s → cmp (max 0 1) (s :: S) := fun s hs x q => by cases q; omega
          have ih2 := SIM n 0 none (dp + 1) (t1 + 1)
          rcases bnd_some q2 with ⟨x, r1, r2⟩ | ⟨t2, e2, r1, r2⟩
          · obtain ⟨-, b⟩ := ih2 (.error x) (by omega) (fun q => absurd rfl q) r1 (34 :: S) (e1.2.1 :: W) (k + e1.2.2.1) (its ++ e1.1) (orF f e1.2.2.2) (fun _ => cq 34 (by decide)) (by rw [List.length_cons]; omega) (by rw [List.length_cons]; omega)
            refine ⟨fun t' e q => (by rw [r2] at q; cases q), fun y q => ?_⟩
            rw [r2] at q
            cases q
            obtain ⟨m, hm⟩ := b x rfl
            exact Rc_trans a st m _ hm
          · obtain ⟨b, -⟩ := ih2 (.ok (t2, e2)) (by omega) (fun q => absurd rfl q) r1 (34 :: S) (e1.2.1 :: W) (k + e1.2.2.1) (its ++ e1.1) (orF f e1.2.2.2) (fun _ => cq 34 (by decide)) (by rw [List.length_cons]; omega) (by rw [List.length_cons]; omega)
            have b := b t2 e2 rfl
            have nx2 := pX_next n 0 none (dp + 1) (t1 + 1) t2 e2 (by omega) (fun q => absurd rfl q) r1
            obtain ⟨n2, n3⟩ := nx2.2.1 rfl
            have rs : ∀ r : q_Rd, red 1 (34 :: S) r = (34 :: S, r) := fun r => red_stop (cq 34 (by decide))
            have rc : ∀ r : q_Rd, redC (34 :: S) r = (34 :: S, r) := fun r => by unfold redC; rw [if_neg (by decide)]
            by_cases c2 : K t2 = 33
            · rw [if_pos c2] at r2
              have st2 : Rc K N B false (cln t2 (34 :: S) (e1.2.1 :: W) (dp + 1) (k + e1.2.2.1) (its ++ e1.1) (orF f e1.2.2.2) e2) true (t2 + 1, 33 :: S, (e2.2.1 :: e1.2.1 :: W, dp + 1, k + e1.2.2.1 + e2.2.2.1, its ++ e1.1 ++ e2.1), orF (orF f e1.2.2.2) e2.2.2.2) := Rc_step (fun m => by
                unfold cln
                conv => lhs; unfold cX
                rw [if_neg (sgL_0.mp n2), if_neg n3]
                simp only [rs, rc]
                rw [if_pos ⟨c2, rfl⟩]
                rfl)
              have ih3 := SIM n 0 none (dp + 1) (t2 + 1)
              rcases bnd_some r2 with ⟨x, s1, s2⟩ | ⟨t3, e3, s1, s2⟩
              · obtain ⟨-, y⟩ := ih3 (.error x) (by omega) (fun q => absurd rfl q) s1 (33 :: S) (e2.2.1 :: e1.2.1 :: W) (k + e1.2.2.1 + e2.2.2.1) (its ++ e1.1 ++ e2.1) (orF (orF f e1.2.2.2) e2.2.2.2) (fun _ => cq 33 (by decide)) (by rw [List.length_cons]; omega) (by rw [List.length_cons, List.length_cons]; omega)
                refine ⟨fun t' e q => (by rw [s2] at q; cases q), fun z q => ?_⟩
                rw [s2] at q
                cases q
                obtain ⟨m, hm⟩ := y x rfl
                exact Rc_trans a (Rc_trans st (Rc_trans b st2)) m _ hm
              · obtain ⟨y, -⟩ := ih3 (.ok (t3, e3)) (by omega) (fun q => absurd rfl q) s1 (33 :: S) (e2.2.1 :: e1.2.1 :: W) (k + e1.2.2.1 + e2.2.2.1) (its ++ e1.1 ++ e2.1) (orF (orF f e1.2.2.2) e2.2.2.2) (fun _ => cq 33 (by decide)) (by rw [List.length_cons]; omega) (by rw [List.length_cons, List.length_cons]; omega)
                have y := y t3 e3 rfl
                have nx3 := pX_next n 0 none (dp + 1) (t2 + 1) t3 e3 (by omega) (fun q => absurd rfl q) s1
                obtain ⟨n4, n5⟩ := nx3.2.1 rfl
                have jn : Rc K N B false (cln t3 (33 :: S) (e2.2.1 :: e1.2.1 :: W) (dp + 1) (k + e1.2.2.1 + e2.2.2.1) (its ++ e1.1 ++ e2.1) (orF (orF f e1.2.2.2) e2.2.2.2) e3) false (cln t3 S W dp k its f (eC e1 e2 e3)) := Rc_same (fun m => by
                  unfold cln
                  rw [orF_a, orF_a]
                  refine B_same0 n4 n5 ?_ m
                  rw [red_stop (show cmp 1 (33 :: S) from cq 33 (by decide)), red_stop (show cmp 1 S from hc)]
                  conv => lhs; unfold redC
                  rw [if_pos rfl]
                  unfold app dwn eC
                  simp only [if_true, List.append_assoc, Nat.add_assoc, Nat.add_sub_cancel])
                cases s2
                refine ⟨fun t' e q => ?_, fun x q => by cases q⟩
                cases q
                exact Rc_trans a (Rc_trans st (Rc_trans b (Rc_trans st2 (Rc_trans y jn))))
            · rw [if_neg c2] at r2
              cases r2
              refine ⟨fun t' e q => (by cases q), fun z q => ?_⟩
              cases q
              have : cX K N B 1 false (cln t2 (34 :: S) (e1.2.1 :: W) (dp + 1) (k + e1.2.2.1) (its ++ e1.1) (orF f e1.2.2.2) e2) = some (.error t2) := by
                unfold cln
                conv => lhs; unfold cX
                rw [if_neg (sgL_0.mp n2), if_neg n3]
                simp only [rs, rc]
                rw [if_neg (fun q => c2 q.1), if_neg (fun q => by have := q.2; simp at this), if_neg (by simp)]
              exact Rc_trans a (Rc_trans st b) 1 _ this
        · rw [if_neg c1] at q2
          cases q2
          refine ⟨fun t' e q => ?_, fun x q => by cases q⟩
          cases q
          exact a
    · rw [if_neg c0] at h
      by_cases c1 : l ≤ 10
      · rw [if_pos c1] at h
        have hc := hc c1
        rw [show max l 1 = l by omega] at hc
        have cS : l + 1 ≤ 10 → cmp (max (l + 1) 1) S := fun _ s q g => hc s q ⟨g.1, g.2.1, by have := g.2.2; omega⟩
        have d1 : bS (l + 1) dp ≤ bS l dp := by unfold bS; omega
        have d2 : bW (l + 1) dp ≤ bW l dp := by unfold bW; omega
        have ih1 := SIM n (l + 1) none dp t
        rcases bnd_some h with ⟨x, q1, q2⟩ | ⟨t1, e1, q1, q2⟩
        · obtain ⟨-, b⟩ := ih1 (.error x) (by omega) (fun q => absurd rfl q) q1 S W k its f cS (by omega) (by omega)
          refine ⟨fun t' e q => (by rw [q2] at q; cases q), fun y q => ?_⟩
          rw [q2] at q
          cases q
          exact b x rfl
        · obtain ⟨a, -⟩ := ih1 (.ok (t1, e1)) (by omega) (fun q => absurd rfl q) q1 S W k its f cS (by omega) (by omega)
          have a := a t1 e1 rfl
          have nx := pX_next n (l + 1) none dp t t1 e1 (by omega) (fun q => absurd rfl q) q1
          have hn : sgL (K t1) ≤ l := by
            by_cases q : l + 1 ≤ 10
            · have := nx.1 (by omega) q; omega
            · have := sgL_le (K t1); omega
          have ih2 := SIM n l (some e1) dp t1 r hl (fun _ => ⟨hn, by omega, c1⟩) q2 S W k its f (fun _ => by rw [show max l 1 = l by omega]; exact hc) hS hW
          refine ⟨fun t' e q => Rc_trans a (ih2.1 t' e q), fun x q => ?_⟩
          obtain ⟨m, hm⟩ := ih2.2 x q
          exact a m _ hm
      · rw [if_neg c1] at h
        have l11 : l = 11 := by omega
        subst l11
        have d1 : bS 11 dp = 11 * (31 - dp) := rfl
        have d2 : bW 11 dp = 12 * (31 - dp) := rfl
        by_cases c2 : 30 < dp
        · rw [if_pos c2] at h
          cases h
          refine ⟨fun t' e q => (by cases q), fun x q => ?_⟩
          cases q
          exact ⟨1, by unfold cX; rw [if_pos c2]⟩
        · rw [if_neg c2] at h
          have stp : (K t = 19 ∨ K t = 20 ∨ K t = 15 ∨ K t = 35) → Rc K N B true (t, S, (W, dp, k, its), f) true (t + 1, (if K t = 15 then 21 else K t) :: S, (W, dp + 1, k, its), f) := fun q => Rc_step (fun m => by
            conv => lhs; unfold cX
            rw [if_neg c2, if_neg (by omega), if_pos q, if_pos (show S.length < 400 by omega)])
          by_cases c3 : K t = 19 ∨ K t = 20 ∨ K t = 15
          · rw [if_pos c3] at h
            have d3 : bS 11 (dp + 1) = 11 * (31 - (dp + 1)) := rfl
            have d4 : bW 11 (dp + 1) = 12 * (31 - (dp + 1)) := rfl
            have st := stp (by omega)
            generalize hu : (if K t = 15 then (21 : Int) else K t) = u at st h
            have hu2 : 19 ≤ u ∧ u ≤ 21 := by
              rw [← hu]
              split <;> omega
            have ih1 := SIM n 11 none (dp + 1) (t + 1)
            rcases bnd_some h with ⟨x, q1, q2⟩ | ⟨t1, e1, q1, q2⟩
            · obtain ⟨-, b⟩ := ih1 (.error x) (by omega) (fun q => absurd rfl q) q1 (u :: S) W k its f (fun q => absurd q (by omega)) (by rw [List.length_cons]; omega) (by omega)
              refine ⟨fun t' e q => (by rw [q2] at q; cases q), fun y q => ?_⟩
              rw [q2] at q
              cases q
              obtain ⟨m, hm⟩ := b x rfl
              exact st m _ hm
            · obtain ⟨a, -⟩ := ih1 (.ok (t1, e1)) (by omega) (fun q => absurd rfl q) q1 (u :: S) W k its f (fun q => absurd q (by omega)) (by rw [List.length_cons]; omega) (by omega)
              have a := a t1 e1 rfl
              cases q2
              refine ⟨fun t' e q => ?_, fun x q => by cases q⟩
              cases q
              refine Rc_trans st (Rc_trans a (Rc_same (fun m => ?_)))
              unfold cln
              refine B_same (l := 10) (by decide) (sgL_le _) (fun l' g1 g2 => ?_) m
              conv => lhs; unfold red
              have e11 : stg u = 11 := by unfold stg; rw [if_pos hu2.1]
              rw [if_pos ⟨by omega, hu2.2, by omega⟩, if_pos hu2.1]
              unfold app dwn eU
              rw [if_neg (by omega), if_pos hu2.1]
              simp only [List.append_assoc, Nat.add_assoc, Nat.add_sub_cancel]
          · rw [if_neg c3] at h
            by_cases c4 : K t = 35
            · rw [if_pos c4] at h
              have d3 : bS 0 (dp + 1) = 11 * (31 - (dp + 1)) + 10 := rfl
              have d4 : bW 0 (dp + 1) = 12 * (31 - (dp + 1)) + 10 := rfl
              have st := stp (by omega)
              rw [if_neg (by omega), c4] at st
              have cq : cmp (max 0 1) (35 :: S) := fun x q => by cases q; omega
              have ih1 := SIM n 0 none (dp + 1) (t + 1)
              rcases bnd_some h with ⟨x, q1, q2⟩ | ⟨t1, e1, q1, q2⟩
              · obtain ⟨-, b⟩ := ih1 (.error x) (by omega) (fun q => absurd rfl q) q1 (35 :: S) W k its f (fun _ => cq) (by rw [List.length_cons]; omega) (by omega)
                refine ⟨fun t' e q => (by rw [q2] at q; cases q), fun y q => ?_⟩
                rw [q2] at q
                cases q
                obtain ⟨m, hm⟩ := b x rfl
                exact st m _ hm
              · obtain ⟨a, -⟩ := ih1 (.ok (t1, e1)) (by omega) (fun q => absurd rfl q) q1 (35 :: S) W k its f (fun _ => cq) (by rw [List.length_cons]; omega) (by omega)
                have a := a t1 e1 rfl
                have nx := pX_next n 0 none (dp + 1) (t + 1) t1 e1 (by omega) (fun q => absurd rfl q) q1
                obtain ⟨n2, n3⟩ := nx.2.1 rfl
                have rs : ∀ r : q_Rd, red 1 (35 :: S) r = (35 :: S, r) := fun r => red_stop cq
                have rc : ∀ r : q_Rd, redC (35 :: S) r = (35 :: S, r) := fun r => by unfold redC; rw [if_neg (by decide)]
                by_cases c5 : K t1 = 36
                · rw [if_pos c5] at q2
                  cases q2
                  refine ⟨fun t' e q => ?_, fun x q => by cases q⟩
                  cases q
                  refine Rc_trans st (Rc_trans a (Rc_step (fun m => ?_)))
                  unfold cln
                  conv => lhs; unfold cX
                  rw [if_neg (sgL_0.mp n2), if_neg n3]
                  simp only [rs, rc]
                  rw [if_neg (fun q => by have := q.1; omega), if_pos ⟨c5, rfl⟩]
                  unfold dwn
                  simp only [List.tail_cons, Nat.add_sub_cancel]
                · rw [if_neg c5] at q2
                  cases q2
                  refine ⟨fun t' e q => (by cases q), fun z q => ?_⟩
                  cases q
                  have : cX K N B 1 false (cln t1 (35 :: S) W (dp + 1) k its f e1) = some (.error t1) := by
                    unfold cln
                    conv => lhs; unfold cX
                    rw [if_neg (sgL_0.mp n2), if_neg n3]
                    simp only [rs, rc]
                    rw [if_neg (fun q => by have := q.2; simp at this), if_neg (fun q => c5 q.1), if_neg (by simp)]
                  exact Rc_trans st a 1 _ this
            · rw [if_neg c4] at h
              by_cases c5 : K t = 23 ∨ K t = 30
              · rw [if_pos c5] at h
                cases h
                refine ⟨fun t' e q => ?_, fun x q => by cases q⟩
                cases q
                refine Rc_step (fun m => ?_)
                unfold cln
                conv => lhs; unfold cX
                rw [if_neg c2, if_pos c5, if_pos (show W.length < 400 by omega)]
                rfl
              · rw [if_neg c5] at h
                cases h
                refine ⟨fun t' e q => (by cases q), fun x q => ?_⟩
                cases q
                exact ⟨1, by unfold cX; rw [if_neg c2, if_neg c5, if_neg (by omega)]⟩
end CxP
