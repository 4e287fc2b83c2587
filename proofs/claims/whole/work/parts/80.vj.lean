/-! Solver.visit -/
section VjJ
variable {ω : q_W} {d s top ts lv : Nat} {cs : List Nat} {Ws : Nat → List Nat} {σ : q_H}
theorem s_visit {K : Int → q_H → Prop} {g dn : Nat} (hd : 1 ≤ d) (hE : q_E σ) (hs : s ≤ 10240) (hx : CX s top cs Ws σ) (hX : TX s ts lv cs σ) (hdn : dn < ts) (hg : z σ 81 dn = ng (g : Int)) (hL : z σ 79 (gt (g : Int)) = (lv : Int)) (hQ : WQ (z σ 72) (z σ 78) (z σ 79) (z σ 81) cs dn)
    (kk : ∀ (v : Int) (τ : q_H) (ts' : Nat) (Ws' : Nat → List Nat), CX s top cs Ws' τ → TX s ts' lv cs τ → VK cs ts ts' lv σ τ → ((v = 0 ∧ WQ (z τ 72) (z τ 78) (z τ 79) (z τ 81) cs (dn + 1)) ∨ (WQ (z τ 72) (z τ 78) (z τ 79) (z τ 81) cs dn ∧ ∃ c ∈ cs, v = ((c : Nat) : Int) ∧ (∀ x, inC (z τ 72) c x → z τ 78 x.toNat = -1) ∧ inC (z τ 72) c (g : Int))) → K v τ) :
    J ω m_So_visit d 0 0 0 0 0 [(0, .ref 70), (1, .int (zI (g : Int)))] [] σ (q_ki K) := by
  obtain ⟨d, rfl⟩ : ∃ k, d = k + 1 := ⟨d - 1, by omega⟩
  have hTσ := hX.2.2.2
  have lg : lit s (g : Int) := by
    have := ng_lit (hTσ.1 dn hdn).1
    rw [hg, ng_ng] at this
    exact this
  have hgs : g < 2 * s := by have := lg.2; omega
  have l : ∀ (R P : List Nat) (ca n ts' : Nat) (x5 : Int) (Ws' : Nat → List Nat) (ρ : q_H), n + R.length < 360000 → CX s top cs Ws' ρ → TX s ts' lv cs ρ → VK cs ts ts' lv σ ρ → Ws' g = P ++ R → chn (z ρ 72) (g : Int) x5 R → lkA (z ρ 72) g P ca → WQ (z ρ 72) (z ρ 78) (z ρ 79) (z ρ 81) cs dn →
      (∀ c ∈ P, ∀ e, e ≤ 1 → z ρ 72 (c + 3 + e) = (g : Int) → z ρ 78 (z ρ 72 (c + 3 + (1 - e))).toNat = 1 ∧ z ρ 79 (gt (z ρ 72 (c + 3 + (1 - e)))) ≤ (lv : Int)) →
      J ω m_So_visit (d + 1) 0 0 0 0 27 [(0, .ref 70), (1, .int (zI (g : Int))), (2, .ref 72), (3, .ref 73), (4, .int (zI (ca : Int))), (5, .int (zI x5)), (6, .int (zI (n : Int)))] [] ρ (q_ki K) := by
    intro R
    induction R with
    | nil =>
      intro P ca n ts' x5 Ws' ρ hn hx' hX' hv hW hch hlk hq hP
      have e : x5 = 0 := hch
      subst e
      refine b_So_visit_27 (fr_E hv.1 hE) ⟨⟨by decide, by decide⟩, fun _ => ⟨0, ⟨by decide, by decide⟩, rfl, kk 0 ρ ts' Ws' hx' hX' hv (Or.inl ⟨rfl, ?_⟩)⟩, fun c => absurd rfl c⟩
      intro c hc h2 e he i hi ei
      by_cases ci : i = dn
      · subst ci
        rw [hv.2.2.2.1 i hdn, hg] at ei
        have ew : z ρ 72 (c + 3 + e) = (g : Int) := by rw [← ng_ng (z ρ 72 (c + 3 + e)), ← ei, ng_ng]
        have hm : c ∈ P := by
          have : c ∈ Ws' g := ((hx'.2.2.2 g hgs).2.2 c).mpr ⟨hc, h2, by
            rcases Nat.le_one_iff_eq_zero_or_eq_one.mp he with e0 | e0
            · rw [e0] at ew; exact Or.inl ew
            · rw [e0] at ew; exact Or.inr ew⟩
          rw [hW, List.append_nil] at this; exact this
        have := hP c hm e he ew
        refine ⟨this.1, ?_⟩
        have hl2 : z ρ 79 (gt (g : Int)) = (lv : Int) := by
          have := (hv.2.2.2.2.1 i hdn).1
          rw [hg, gt_ng] at this
          rw [this]; exact hL
        rw [ew, hl2]; exact this.2
      · exact hq c hc h2 e he i (by omega) ei
    | cons c R ih =>
      intro P ca n ts' x5 Ws' ρ hn hx' hX' hv hW hch hlk hq hP
      obtain ⟨e5, hch2⟩ := hch
      subst e5
      obtain ⟨f, fk, hts, fT, fL, fN, fC⟩ := id hv
      obtain ⟨ht, ht1, hcl, hwl⟩ := id hx'
      obtain ⟨t6, t10, h12, hT⟩ := id hX'
      have hEρ := fr_E f hE
      have hlen := TR_len hT
      rw [List.length_cons] at hn
      have hmg : c ∈ Ws' g := by rw [hW]; simp
      obtain ⟨hc, h2, hwa⟩ := ((hwl g hgs).2.2 c).mp hmg
      obtain ⟨a1, a2, a3, a4, a5, a6⟩ := hcl.1 c hc
      have vg : z ρ 78 g = -1 := by
        have := (hT.1 dn (by omega)).2.2
        rw [fT dn hdn, hg, ng_ng, Int.toNat_natCast] at this
        exact this
      have Lg : z ρ 79 (gt (g : Int)) = (lv : Int) := by
        have := (fL dn hdn).1
        rw [hg, gt_ng] at this
        rw [this]; exact hL
      have Ng : ∀ a ∈ P, a ≠ c := fun a ha e => by
        have nd := (hwl g hgs).2.1
        rw [hW, ← e] at nd
        simp [List.nodup_append] at nd
        exact absurd rfl (nd.2.2 a ha).1
      -- from the place on
      have body : ∀ y : Nat, (y = 0 ∨ y = 1) → z ρ 72 (c + 3 + y) = (g : Int) → (y = 1 → z ρ 72 (c + 3) ≠ (g : Int)) → J ω m_So_visit (d + 1) 0 0 0 0 54 [(0, .ref 70), (1, .int (zI (g : Int))), (2, .ref 72), (3, .ref 73), (4, .int (zI (ca : Int))), (5, .int (zI (c : Int))), (6, .int (zI (n : Int)))] [.int (zI (y : Int))] ρ (q_ki K) := by
        intro y hy hgy hy1
        have lo := a4 (1 - y) (by omega)
        have lo1 := lo.2
        have hog : z ρ 72 (c + 3 + (1 - y)) ≠ (g : Int) := by
          rcases hy with e | e
          · subst e; have := a5 0 1 (by omega) (by omega); rw [hgy] at this; exact fun q => this q.symm
          · subst e; exact hy1 rfl
        have hlkc : lk (z ρ 72) c (g : Int) = z ρ 72 (c + 1 + y) := by
          unfold lk
          rcases hy with e | e
          · subst e; rw [if_pos (by exact hgy)]
          · subst e; rw [if_neg (hy1 rfl)]
        rw [hlkc] at hch2
        have hlk2 : ∀ M : Nat → Int, M (c + 3) = z ρ 72 (c + 3) → lkA M g (P ++ [c]) (c + 1 + y) := fun M e3 => by
          refine Or.inr ⟨P, c, rfl, ?_⟩
          rw [e3]
          rcases hy with e | e
          · subst e; rw [if_pos (by exact hgy)]
          · subst e; rw [if_neg (hy1 rfl)]
        have hW2 : Ws' g = (P ++ [c]) ++ R := by rw [hW]; simp
        have hey : ∀ e, e ≤ 1 → z ρ 72 (c + 3 + e) = (g : Int) → e = y := fun e he h => by
          by_cases q : e = y
          · exact q
          · have : e = 1 - y := by omega
            rw [this] at h; exact absurd h hog
        -- behind the choice
        have fin0 : (z ρ 78 (z ρ 72 (c + 3 + (1 - y))).toNat ≠ 1 → ∀ i : Nat, 2 ≤ i → (i : Int) < z ρ 72 c → z ρ 78 (z ρ 72 (c + 3 + i)).toNat = -1) → J ω m_So_visit (d + 1) 0 0 0 0 105 [(0, .ref 70), (1, .int (zI (g : Int))), (2, .ref 72), (3, .ref 73), (4, .int (zI (ca : Int))), (5, .int (zI (c : Int))), (6, .int (zI (n : Int))), (7, .int (zI (y : Int))), (8, .int (zI (z ρ 72 (c + 3 + (1 - y))))), (9, .int (zI ((c + 1 + y : Nat) : Int))), (10, .int (zI (z ρ 72 (c + 1 + y))))] [.int (zI 0)] ρ (q_ki K) := by
          intro hall
          have oth : z ρ 78 (z ρ 72 (c + 3 + (1 - y))).toNat ≠ 1 → ∀ x, inC (z ρ 72) c x → x ≠ z ρ 72 (c + 3 + (1 - y)) → z ρ 78 x.toNat = -1 := fun h1 x ⟨i, hi, ei⟩ hne => by
            by_cases c1 : i = y
            · rw [c1, hgy] at ei; rw [← ei, Int.toNat_natCast]; exact vg
            · by_cases c2 : i = 1 - y
              · rw [c2] at ei; exact absurd ei.symm hne
              · rw [← ei]; exact hall h1 i (by omega) hi
          have V3 := hT.2.2.1 (z ρ 72 (c + 3 + (1 - y))).toNat (by have := lo.1; omega)
          refine b_So_visit_105 hEρ ⟨⟨by decide, by decide⟩, fun _ => ⟨⟨lo.1, by omega⟩, fun c1 => ⟨fun c2 => ?_, fun c2 => ?_⟩, fun c1 => ?_⟩, fun c1 => absurd rfl c1⟩
          · -- the other one holds
            have v1 : z ρ 78 (z ρ 72 (c + 3 + (1 - y))).toNat = 1 := by
              rcases V3 with q | ⟨q | q, -⟩
              · exact absurd q c2
              · exact q
              · exact absurd q c1
            rw [show (n : Int) + 1 = ((n + 1 : Nat) : Int) by omega]
            refine ih (P ++ [c]) (c + 1 + y) (n + 1) ts' _ Ws' ρ (by omega) hx' hX' hv hW2 hch2 (hlk2 _ rfl) hq (fun a ha e he h => ?_)
            rcases List.mem_append.mp ha with q | q
            · exact hP a q e he h
            · have ea : a = c := by simpa using q
              subst ea
              rw [hey e he h]
              refine ⟨v1, ?_⟩
              obtain ⟨i, hi, ei⟩ := TR_pos hT lo v1
              have := (hT.2.2.2.1 i hi).2
              rw [ei] at this; exact this
          · -- it must hold
            have hne1 : z ρ 78 (z ρ 72 (c + 3 + (1 - y))).toNat ≠ 1 := by rw [c2]; decide
            have room := TR_room hT lo c2 (TR_fr hT lo c2)
            refine s_assign hEρ hs lo ⟨by omega, by omega⟩ t6 (by omega) (fun τ ft t78 t79 t80 t81 tt6 tk => ?_)
            have F : fr [70, 72, 73, 78, 79, 80, 81] σ τ := fr_trans f (fr_mono ft (by simp))
            have e72 : z τ 72 = z ρ 72 := fr_zF ft (by decide)
            have e73 : z τ 73 = z ρ 73 := fr_zF ft (by decide)
            have e71 : z τ 71 = z ρ 71 := fr_zF ft (by decide)
            have e82 : z τ 82 = z ρ 82 := fr_zF ft (by decide)
            rw [t10] at t79
            have CX' : CX s top cs Ws' τ := by unfold CX; rw [e71, e72, e73]; exact hx'
            have gyin : inC (z ρ 72) c (g : Int) := ⟨y, by omega, hgy⟩
            have oin : inC (z ρ 72) c (z ρ 72 (c + 3 + (1 - y))) := ⟨1 - y, by omega, rfl⟩
            have hTR := TR_assign (r := (c : Int)) hT lo c2 (fun _ _ _ => Or.inr trivial) (Or.inr ⟨c, hc, rfl, a1, oin, fun q hq2 hne => ⟨by obtain ⟨i, hi, ei⟩ := hq2; rw [← ei]; exact a4 i hi, oth hne1 q hq2 hne⟩, fun _ => ⟨(g : Int), gyin, fun q => hog q.symm, Lg⟩⟩) (fun _ => by omega)
            have TX' : TX s (ts' + 1) lv cs τ := ⟨by rw [tt6]; omega, by rw [tk 10 (by decide)]; exact t10, h12, by rw [e72, t78, t79, t80, t81, e82]; exact hTR⟩
            have keep : ∀ q, lit s q → z ρ 78 q.toNat ≠ 0 → gt q ≠ gt (z ρ 72 (c + 3 + (1 - y))) ∧ z τ 78 q.toNat = z ρ 78 q.toNat := fun q lq vq => by
              rw [t78]; exact AS_o hT lo c2 lq vq
            have VK' : VK cs ts (ts' + 1) lv σ τ := by
              refine ⟨F, fun k hk => by rw [tk k hk]; exact fk k hk, by omega, fun i hi => by rw [t81, up_n (by omega)]; exact fT i hi, fun i hi => ?_, fun i h1 h3 => ?_, fun a ha => by rw [e72]; exact fC a ha⟩
              · have hti := hT.1 i (by omega)
                have := (keep _ hti.1 (by rw [hti.2.1]; decide)).1
                rw [fT i hi] at this
                rw [t79, t80, up_n this, up_n this]; exact fL i hi
              · by_cases ci : i = ts'
                · subst ci
                  rw [t81, up_s, t79, t80, up_s, up_s]; exact ⟨rfl, by omega⟩
                · have hti := hT.1 i (by omega)
                  have := (keep _ hti.1 (by rw [hti.2.1]; decide)).1
                  rw [t81, up_n ci, t79, t80, up_n this, up_n this]; exact fN i h1 (by omega)
            refine b_So_visit_202 (fr_E F hE) ?_
            rw [show (n : Int) + 1 = ((n + 1 : Nat) : Int) by omega]
            refine ih (P ++ [c]) (c + 1 + y) (n + 1) (ts' + 1) _ Ws' τ (by omega) CX' TX' VK' hW2 (by rw [e72]; exact hch2) (hlk2 _ (by rw [e72])) ?_ (fun a ha e he h => ?_)
            · rw [e72, t78, t79, t81]
              exact WQ_assign hT hcl lo c2 (by omega) hq
            · rw [e72] at h ⊢
              rcases List.mem_append.mp ha with q | q
              · obtain ⟨r1, r2⟩ := hP a q e he h
                have ham : a ∈ Ws' g := by rw [hW]; simp [q]
                obtain ⟨b1, b2, -⟩ := ((hwl g hgs).2.2 a).mp ham
                have la := (hcl.1 a b1).2.2.2.1 (1 - e) (by omega)
                obtain ⟨k1, k2⟩ := keep _ la (by rw [r1]; decide)
                rw [k2, t79, up_n k1]; exact ⟨r1, r2⟩
              · have ea : a = c := by simpa using q
                subst ea
                rw [hey e he h, t78, t79, up_s]
                have := ng_ne (z ρ 72 (a + 3 + (1 - y)))
                have h5 := (ng_lit lo).1
                have h6 := lo.1
                rw [up_n (by omega), up_s]
                exact ⟨rfl, Int.le_refl _⟩
          · -- a clash
            have hne1 : z ρ 78 (z ρ 72 (c + 3 + (1 - y))).toNat ≠ 1 := by rw [c1]; decide
            refine ⟨(c : Int), ⟨by omega, by omega⟩, rfl, kk _ ρ ts' Ws' hx' hX' hv (Or.inr ⟨hq, c, hc, rfl, fun x hx2 => ?_, y, by omega, hgy⟩)⟩
            by_cases e : x = z ρ 72 (c + 3 + (1 - y))
            · rw [e]; exact c1
            · exact oth hne1 x hx2 e
        refine b_So_visit_54 hEρ ?_
        rw [show ((c : Int) + 4 - (y : Int)).toNat = c + 3 + (1 - y) by omega, show ((c : Int) + 1 + (y : Int)).toNat = c + 1 + y by omega, show (c : Int) + 1 + (y : Int) = ((c + 1 + y : Nat) : Int) by omega]
        refine ⟨⟨by omega, by omega⟩, ⟨by omega, by omega⟩, ⟨lo.1, by omega⟩, fun c1 => ?_, fun c1 => fin0 (fun h => absurd c1 h)⟩
        refine s_replacement hEρ hs hx' hc h2 (fun hall => fin0 (fun _ => hall)) (fun κ k1 k2 vk => ?_)
        -- another is watched
        have lκ := a4 κ k2
        have lκ1 := lκ.2
        obtain ⟨lt, elt⟩ : ∃ q : Nat, z ρ 72 (c + 3 + κ) = (q : Int) := ⟨(z ρ 72 (c + 3 + κ)).toNat, by have := lκ.1; omega⟩
        refine b_So_visit_105 hEρ ?_
        rw [Int.toNat_natCast, elt, Int.toNat_natCast, Int.toNat_natCast, Int.toNat_natCast, Int.toNat_natCast, show ((c : Int) + 3 + (y : Int)).toNat = c + 3 + y by omega]
        rw [elt] at lκ lκ1 vk
        rw [Int.toNat_natCast] at vk
        have hin : ∀ ρ' : q_H, fr [72, 73] ρ ρ' → (P ≠ [] → z ρ' 72 ca = z ρ 72 (c + 1 + y)) → (∀ j, (P ≠ [] → j ≠ ca) → z ρ' 72 j = up (up (up (z ρ 72) (c + 3 + κ) (g : Int)) (c + 3 + y) (lt : Int)) (c + 1 + y) (z ρ 73 lt) j) → (P = [] → z ρ' 73 g = z ρ 72 (c + 1 + y)) → (∀ j, (P = [] → j ≠ g) → z ρ' 73 j = up (z ρ 73) lt (c : Int) j) → J ω m_So_visit (d + 1) 0 0 0 0 27 [(0, .ref 70), (1, .int (zI (g : Int))), (2, .ref 72), (3, .ref 73), (4, .int (zI (ca : Int))), (5, .int (zI (z ρ 72 (c + 1 + y)))), (6, .int (zI ((n : Int) + 1)))] [] ρ' (q_ki K) := by
          intro ρ' fr' m1 m2 m3 m4
          obtain ⟨S1, S2, S3, S4, S5, S6, S7, S8⟩ := SW hcl hwl hc hy k1 k2 hgy elt hW hlk rfl m1 m2 m3 m4
          have e70 : z ρ' 70 = z ρ 70 := fr_zF fr' (by decide)
          have e71 : z ρ' 71 = z ρ 71 := fr_zF fr' (by decide)
          have e78 : z ρ' 78 = z ρ 78 := fr_zF fr' (by decide)
          have e79 : z ρ' 79 = z ρ 79 := fr_zF fr' (by decide)
          have e80 : z ρ' 80 = z ρ 80 := fr_zF fr' (by decide)
          have e81 : z ρ' 81 = z ρ 81 := fr_zF fr' (by decide)
          have e82 : z ρ' 82 = z ρ 82 := fr_zF fr' (by decide)
          rw [show (n : Int) + 1 = ((n + 1 : Nat) : Int) by omega]
          refine ih P ca (n + 1) ts' _ _ ρ' (by omega) ⟨by rw [e71]; exact ht, ht1, S1, S2⟩ ⟨by rw [e70]; exact t6, by rw [e70]; exact t10, h12, ?_⟩ ⟨fr_trans f (fr_mono fr' (by simp)), fun k hk => by rw [e70]; exact fk k hk, hts, by rw [e81]; exact fT, by rw [e79, e80]; exact fL, by rw [e79, e80, e81]; exact fN, fun a ha => ⟨(S3 a ha).1.trans (fC a ha).1, fun x => ((S3 a ha).2 x).trans ((fC a ha).2 x)⟩⟩ (if_pos rfl) (S7 _ hch2) S8 ?_ (fun a ha e he h => ?_)
          · rw [e78, e79, e80, e81, e82]
            exact TR_cl hT (fun a ha => ⟨ha, (S3 a ha).2⟩)
          · rw [e78, e79, e81]
            intro a ha h2a e he i hi ei
            rw [(S3 a ha).1] at h2a
            by_cases ea : a = c
            · subst ea
              exfalso
              by_cases ee : e = y
              · rw [ee, S6] at ei
                have := (hT.1 i (by omega)).2.2
                rw [ei, ng_ng, Int.toNat_natCast] at this
                exact vk this
              · have e1 : e = 1 - y := by omega
                rw [e1, S5] at ei
                have := (hq a ha h2a (1 - y) (by omega) i hi ei).1
                rw [show 1 - (1 - y) = y by omega, hgy, Int.toNat_natCast, vg] at this
                exact absurd this (by decide)
            · have b1 := S4 a ha ea e (by omega)
              have b2 := S4 a ha ea (1 - e) (by omega)
              rw [b1] at ei
              rw [b1, b2]
              exact hq a ha h2a e he i hi ei
          · have ham : a ∈ Ws' g := by rw [hW]; simp [ha]
            obtain ⟨q1, q2, -⟩ := ((hwl g hgs).2.2 a).mp ham
            have b1 := S4 a q1 (Ng a ha) e (by omega)
            have b2 := S4 a q1 (Ng a ha) (1 - e) (by omega)
            rw [b1] at h
            rw [b2, e78, e79]
            exact hP a ha e he h
        have iW : inR (z ρ 73 lt) := z_R _ _ _
        have caP : (P ≠ [] → 1 ≤ ca ∧ ca < 360000) ∧ (P = [] → ca = 0) := by
          rcases hlk with ⟨q1, q2⟩ | ⟨P0, p, q1, q2⟩
          · exact ⟨fun h => absurd q1 h, fun _ => q2⟩
          · have hm : p ∈ Ws' g := by rw [hW, q1]; simp
            obtain ⟨b1, b2, -⟩ := ((hwl g hgs).2.2 p).mp hm
            have := (hcl.1 p b1).2.2.1
            refine ⟨fun _ => ?_, fun h => by rw [h] at q1; simp at q1⟩
            rw [q2]
            split <;> omega
        have caU : ca < 360000 := by
          by_cases q : P = []
          · rw [caP.2 q]; decide
          · exact (caP.1 q).2
        refine ⟨⟨by omega, by omega⟩, fun c0 => absurd c0 (by omega), fun _ => ⟨⟨by omega, by omega⟩, ⟨by omega, by omega⟩, ⟨by omega, by omega⟩, ⟨by omega, by omega⟩, ⟨by omega, by have := caU; omega⟩, fun c3 => ⟨⟨by omega, by have := caU; omega⟩, ?_⟩, fun c3 => ⟨⟨by omega, by omega⟩, ?_⟩⟩⟩
        · have hne : P ≠ [] := fun q => c3 (by rw [caP.2 q]; rfl)
          have y72 : z (zs (zs (zs (zs (zs ρ 72 (c + 3 + κ) (g : Int)) 72 (c + 3 + y) (lt : Int)) 72 (c + 1 + y) (z ρ 73 lt)) 73 lt (c : Int)) 72 ca (z ρ 72 (c + 1 + y))) 72 = up (up (up (up (z ρ 72) (c + 3 + κ) (g : Int)) (c + 3 + y) (lt : Int)) (c + 1 + y) (z ρ 73 lt)) ca (z ρ 72 (c + 1 + y)) := by
            rw [z_up (z_R _ _ _), z_oF (by decide), z_up iW, z_up ⟨by omega, by omega⟩, z_up ⟨by omega, by omega⟩]
          refine hin _ (fr_s (fr_s (fr_s (fr_s (fr_s fr_refl (by simp)) (by simp)) (by simp)) (by simp)) (by simp)) (fun _ => by rw [y72, up_s]) (fun j hj => by rw [y72, up_n (hj hne)]) (fun q => absurd q hne) (fun j _ => ?_)
          rw [z_oF (by decide), z_up ⟨by omega, by omega⟩, z_oF (by decide), z_oF (by decide), z_oF (by decide)]
        · have he : P = [] := by
            by_cases q : P = []
            · exact q
            · have := (caP.1 q).1; omega
          have y72 : z (zs (zs (zs (zs (zs ρ 72 (c + 3 + κ) (g : Int)) 72 (c + 3 + y) (lt : Int)) 72 (c + 1 + y) (z ρ 73 lt)) 73 lt (c : Int)) 73 g (z ρ 72 (c + 1 + y))) 72 = up (up (up (z ρ 72) (c + 3 + κ) (g : Int)) (c + 3 + y) (lt : Int)) (c + 1 + y) (z ρ 73 lt) := by
            rw [z_oF (by decide), z_oF (by decide), z_up iW, z_up ⟨by omega, by omega⟩, z_up ⟨by omega, by omega⟩]
          have y73 : z (zs (zs (zs (zs (zs ρ 72 (c + 3 + κ) (g : Int)) 72 (c + 3 + y) (lt : Int)) 72 (c + 1 + y) (z ρ 73 lt)) 73 lt (c : Int)) 73 g (z ρ 72 (c + 1 + y))) 73 = up (up (z ρ 73) lt (c : Int)) g (z ρ 72 (c + 1 + y)) := by
            rw [z_up (z_R _ _ _), z_up ⟨by omega, by omega⟩, z_oF (by decide), z_oF (by decide), z_oF (by decide)]
          exact hin _ (fr_s (fr_s (fr_s (fr_s (fr_s fr_refl (by simp)) (by simp)) (by simp)) (by simp)) (by simp)) (fun q => absurd he q) (fun j _ => by rw [y72]) (fun _ => by rw [y73, up_s]) (fun j hj => by rw [y73, up_n (hj he)])
      refine b_So_visit_27 hEρ ?_
      rw [show ((c : Int) + 3).toNat = c + 3 by omega]
      refine ⟨⟨by omega, by omega⟩, fun c0 => absurd c0 (by omega), fun _ => ⟨⟨by omega, by omega⟩, fun c0 => absurd c0 (by omega), fun _ => ⟨⟨by omega, by omega⟩, ⟨by omega, by omega⟩, fun c1 => ?_, fun c1 => ?_⟩⟩⟩
      · exact body 1 (Or.inr rfl) (hwa.resolve_left c1) (fun _ => c1)
      · exact body 0 (Or.inl rfl) c1 (fun h => absurd h (by decide))
  refine b_So_visit_0 hE ?_
  rw [Int.toNat_natCast]
  refine ⟨⟨by omega, by omega⟩, ?_⟩
  obtain ⟨w1, w2, w3⟩ := hx.2.2.2 g hgs
  have hb : (Ws g).length ≤ 359999 := nd_len w2 (fun c hc => by
    obtain ⟨b1, b2, -⟩ := (w3 c).mp hc
    have := (hx.2.2.1.1 c b1).2.2.1
    have := hx.2.1.2
    omega)
  exact l (Ws g) [] 0 0 ts _ Ws σ (by omega) hx hX VK_refl rfl w1 (Or.inl ⟨rfl, rfl⟩) hQ (fun c hc => absurd hc (by simp))
end VjJ
