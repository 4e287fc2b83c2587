/-! THE PARSER, safety: what is open is closed -/
section SyP
variable {h N : Nat} {it as S : Int} {Kd Tu Ro Te In A Wh Fr Ti G : Nat → Int}
theorem cn_top {K : Nat → Int} {h : Nat} (hk : K h ≠ 1) : cn K (h + 1) = cn K h + 1 := by
  show cn K h + (if K h = 1 then 0 else 1) = _
  rw [if_neg hk]
/-- an else: the if's step is told where it goes on -/
theorem SX_else {S' : Int} (hx : SX (h + 1) N it as S Kd Tu Ro Te In A Wh Fr Ti G) (hb : 5 * ((N : Int) + 1 + cn Kd (h + 1)) ≤ 2 * S') (hS : S ≤ S') (h31 : h ≤ 30) (hk : Kd h = 2) (hi : 0 ≤ it) :
    SX (h + 1) (N + 1) it as S' (up Kd h 3) (up Tu h N) Ro Te In (up A N 5) (up Wh N 0) (up Fr N it) (up Ti N it) (up (up G N 0) (Tu h).toNat ((N : Int) + 1)) := by
  obtain ⟨a, b, c, d, f⟩ := hx
  have hcb := cn_bd Kd h
  have ct := cn_top (K := Kd) (h := h) (by omega)
  have ah := a h (by omega)
  have ht := ah.2.1 (by omega)
  have hA := ah.2.2.1 hk
  have e1 : dp (up A N 5) (N + 1) = dp A N := by
    show dp (up A N 5) N + dl (up A N 5 N) = _
    rw [dp_up N (Nat.le_refl _), up_s]
    show dp A N + 0 = _
    omega
  have ec : cn (up Kd h 3) (h + 1) = cn Kd (h + 1) := by
    rw [cn_top (by rw [up_s]; decide), cn_up h (Nat.le_refl _), ct]
  refine ⟨fun j hj => ?_, by rw [e1, ec, b], fun i hi2 => ?_, by rw [ec]; omega, ⟨f.1.1, by have := f.1; omega⟩, F1_add f.2 (fun c => absurd c (by omega)) (fun c c7 => absurd hA (by rw [show (Tu h).toNat = 0 by omega, c7]; decide))⟩
  · by_cases cj : j = h
    · subst cj
      obtain ⟨o1, o2, o3, o4, o5, o6⟩ := ah
      unfold OPj
      rw [up_s, up_s, Int.toNat_natCast, up_s]
      exact ⟨by decide, fun _ => by omega, fun k => absurd k (by decide), fun _ => rfl, fun k => absurd k (by decide), o6⟩
    · obtain ⟨o1, o2, o3, o4, o5, o6⟩ := a j hj
      have u : Kd j ≠ 1 → up A N 5 (Tu j).toNat = A (Tu j).toNat ∧ dp (up A N 5) (Tu j).toNat = dp A (Tu j).toNat := fun k => by
        have := o2 k
        exact ⟨up_n (by omega), dp_up _ (by omega)⟩
      unfold OPj
      rw [up_n cj, up_n cj, cn_up j (by omega)]
      refine ⟨o1, fun k => by have := o2 k; omega, fun k => ?_, fun k => ?_, fun k => ?_, o6⟩
      · rw [(u (by omega)).1]; exact o3 k
      · rw [(u (by omega)).1]; exact o4 k
      · rw [(u (by omega)).1, (u (by omega)).2]; exact o5 k
  · by_cases ci : i = N
    · subst ci
      unfold SVi
      rw [up_s, up_s, up_s, up_s, up_n (by omega), up_s, dp_up i (Nat.le_refl _), b]
      exact ⟨by decide, ⟨hi, Int.le_refl _, Int.le_refl _⟩, fun k => absurd k (by decide), fun k => absurd k (by decide), fun k => absurd k (by decide), fun k => absurd k (by decide), fun _ => by omega, ⟨by omega, by omega⟩, fun _ => by omega, fun k => absurd k (by decide), fun k => absurd k (by decide)⟩
    · obtain ⟨c1, c2, c3, c4, c5, c6, c7, c8, c9, c10, c11⟩ := c i (by omega)
      have op : opn (h + 1) Kd Tu i → opn (h + 1) (up Kd h 3) (up Tu h N) i := by
        rintro ⟨j, hj, k1, k2⟩
        have : j ≠ h := fun e => by rw [e, hk] at k1; omega
        exact ⟨j, hj, by rw [up_n this]; exact k1, by rw [up_n this]; exact k2⟩
      by_cases c2i : i = (Tu h).toNat
      · have hA' : A i = 4 := by rw [c2i]; exact hA
        unfold SVi
        rw [up_n ci, up_n ci, up_n ci, up_n ci, c2i, up_s, ← c2i, dp_up i (by omega), hA']
        exact ⟨by decide, c2, fun k => absurd k (by decide), fun k => absurd k (by decide), fun k => absurd k (by decide), fun k => absurd k (by decide), fun _ => by omega, c8, fun k => absurd k (by decide), fun k => absurd k (by decide), fun k => absurd k (by decide)⟩
      · have gd : A i = 9 ∨ A i = 8 → dp (up A N 5) (G i).toNat = dp A (G i).toNat := fun k => by
          have := c7 (by omega)
          exact dp_up _ (by omega)
        unfold SVi
        rw [up_n ci, up_n ci, up_n ci, up_n ci, up_n c2i, up_n ci, dp_up i (by omega)]
        refine ⟨c1, c2, c3, c4, c5, c6, fun k => by have := c7 k; omega, c8, c9, fun k => ?_, fun k => ?_⟩
        · rw [gd (Or.inl k)]; exact c10 k
        · rw [gd (Or.inr k)]; exact (c11 k).imp id op
/-- an if is closed -/
theorem SX_branch (hx : SX (h + 1) N it as S Kd Tu Ro Te In A Wh Fr Ti G) (h31 : h ≤ 30) (hk : Kd h = 2 ∨ Kd h = 3) (hi : 0 ≤ it) :
    SX h (N + 1) it as S Kd Tu Ro Te In (up A N 6) (up Wh N 0) (up Fr N it) (up Ti N it) (up (up G N 0) (Tu h).toNat (N : Int)) := by
  obtain ⟨a, b, c, d, f⟩ := hx
  have hcb := cn_bd Kd h
  have ct := cn_top (K := Kd) (h := h) (by omega)
  have ah := a h (by omega)
  have ht := ah.2.1 (by omega)
  have hA : A (Tu h).toNat = 4 ∨ A (Tu h).toNat = 5 := hk.imp ah.2.2.1 ah.2.2.2.1
  have e1 : dp (up A N 6) (N + 1) = dp A N - 1 := by
    show dp (up A N 6) N + dl (up A N 6 N) = _
    rw [dp_up N (Nat.le_refl _), up_s]
    show dp A N + -1 = _
    omega
  refine ⟨fun j hj => ?_, by rw [e1, b]; omega, fun i hi2 => ?_, by omega, f.1, F1_add f.2 (fun c => absurd c (by omega)) (fun c c7 => absurd hA (by rw [show (Tu h).toNat = 0 by omega, c7]; decide))⟩
  · obtain ⟨o1, o2, o3, o4, o5, o6⟩ := a j (by omega)
    have u : Kd j ≠ 1 → up A N 6 (Tu j).toNat = A (Tu j).toNat ∧ dp (up A N 6) (Tu j).toNat = dp A (Tu j).toNat := fun k => by
      have := o2 k
      exact ⟨up_n (by omega), dp_up _ (by omega)⟩
    refine ⟨o1, fun k => by have := o2 k; omega, fun k => ?_, fun k => ?_, fun k => ?_, o6⟩
    · rw [(u (by omega)).1]; exact o3 k
    · rw [(u (by omega)).1]; exact o4 k
    · rw [(u (by omega)).1, (u (by omega)).2]; exact o5 k
  · by_cases ci : i = N
    · subst ci
      unfold SVi
      rw [up_s, up_s, up_s, up_s, up_n (by omega), up_s, dp_up i (Nat.le_refl _), b]
      exact ⟨by decide, ⟨hi, Int.le_refl _, Int.le_refl _⟩, fun k => absurd k (by decide), fun k => absurd k (by decide), fun k => absurd k (by decide), fun k => absurd k (by decide), fun _ => by omega, ⟨by omega, by omega⟩, fun _ => by omega, fun k => absurd k (by decide), fun k => absurd k (by decide)⟩
    · obtain ⟨c1, c2, c3, c4, c5, c6, c7, c8, c9, c10, c11⟩ := c i (by omega)
      have op : opn (h + 1) Kd Tu i → opn h Kd Tu i := by
        rintro ⟨j, hj, k1, k2⟩
        have : j ≠ h := fun e => by rw [e] at k1; omega
        exact ⟨j, by omega, k1, k2⟩
      by_cases c2i : i = (Tu h).toNat
      · have hA' : A i = 4 ∨ A i = 5 := by rw [c2i]; exact hA
        unfold SVi
        rw [up_n ci, up_n ci, up_n ci, up_n ci, c2i, up_s, ← c2i, dp_up i (by omega)]
        exact ⟨c1, c2, c3, c4, fun k => absurd k (by omega), c6, fun _ => by omega, c8, c9, fun k => absurd k (by omega), fun k => absurd k (by omega)⟩
      · have gd : A i = 9 ∨ A i = 8 → dp (up A N 6) (G i).toNat = dp A (G i).toNat := fun k => by
          have := c7 (by omega)
          exact dp_up _ (by omega)
        unfold SVi
        rw [up_n ci, up_n ci, up_n ci, up_n ci, up_n c2i, up_n ci, dp_up i (by omega)]
        refine ⟨c1, c2, c3, c4, c5, c6, fun k => by have := c7 k; omega, c8, c9, fun k => ?_, fun k => ?_⟩
        · rw [gd (Or.inl k)]; exact c10 k
        · rw [gd (Or.inr k)]; exact (c11 k).imp id op
/-- a loop is closed -/
theorem SX_loop (hx : SX (h + 1) N it as S Kd Tu Ro Te In A Wh Fr Ti G) (h31 : h ≤ 30) (hk : Kd h = 4) (hi : 0 ≤ it) :
    SX h (N + 1) it as S Kd Tu Ro Te In (up A N 9) (up Wh N 0) (up Fr N it) (up Ti N it) (up (up (up G N 0) N (Tu h)) (Tu h).toNat ((N : Int) + 1)) := by
  obtain ⟨a, b, c, d, f⟩ := hx
  have hcb := cn_bd Kd h
  have ct := cn_top (K := Kd) (h := h) (by omega)
  have ah := a h (by omega)
  have ht := ah.2.1 (by omega)
  have hA := ah.2.2.2.2.1 hk
  have e1 : dp (up A N 9) (N + 1) = dp A N - 1 := by
    show dp (up A N 9) N + dl (up A N 9 N) = _
    rw [dp_up N (Nat.le_refl _), up_s]
    show dp A N + -1 = _
    omega
  refine ⟨fun j hj => ?_, by rw [e1, b]; omega, fun i hi2 => ?_, by omega, f.1, F1_add f.2 (fun c => absurd c (by omega)) (fun c c7 => absurd hA.1 (by rw [show (Tu h).toNat = 0 by omega, c7]; decide))⟩
  · obtain ⟨o1, o2, o3, o4, o5, o6⟩ := a j (by omega)
    have u : Kd j ≠ 1 → up A N 9 (Tu j).toNat = A (Tu j).toNat ∧ dp (up A N 9) (Tu j).toNat = dp A (Tu j).toNat := fun k => by
      have := o2 k
      exact ⟨up_n (by omega), dp_up _ (by omega)⟩
    refine ⟨o1, fun k => by have := o2 k; omega, fun k => ?_, fun k => ?_, fun k => ?_, o6⟩
    · rw [(u (by omega)).1]; exact o3 k
    · rw [(u (by omega)).1]; exact o4 k
    · rw [(u (by omega)).1, (u (by omega)).2]; exact o5 k
  · by_cases ci : i = N
    · subst ci
      unfold SVi
      rw [up_s, up_s, up_s, up_s, up_n (by omega), up_s, dp_up i (Nat.le_refl _), b, dp_up (Tu h).toNat (by omega), hA.2]
      exact ⟨by decide, ⟨hi, Int.le_refl _, Int.le_refl _⟩, fun k => absurd k (by decide), fun k => absurd k (by decide), fun k => absurd k (by decide), fun k => absurd k (by decide), fun _ => by omega, ⟨by omega, by omega⟩, fun _ => by omega, fun _ => by omega, fun k => absurd k (by decide)⟩
    · obtain ⟨c1, c2, c3, c4, c5, c6, c7, c8, c9, c10, c11⟩ := c i (by omega)
      by_cases c2i : i = (Tu h).toNat
      · have hA' : A i = 8 := by rw [c2i]; exact hA.1
        have hd' : dp A i = cn Kd h := by rw [c2i]; exact hA.2
        unfold SVi
        rw [up_n ci, up_n ci, up_n ci, up_n ci, c2i, up_s, ← c2i, dp_up i (by omega), show ((N : Int) + 1).toNat = N + 1 by omega, e1, b]
        exact ⟨c1, c2, c3, c4, fun k => absurd k (by omega), c6, fun _ => by omega, c8, c9, fun k => absurd k (by omega), fun _ => Or.inl (by omega)⟩
      · have op : opn (h + 1) Kd Tu i → opn h Kd Tu i := by
          rintro ⟨j, hj, k1, k2⟩
          have : j ≠ h := fun e => by rw [e] at k2; omega
          exact ⟨j, by omega, k1, k2⟩
        have gd : A i = 9 ∨ A i = 8 → dp (up A N 9) (G i).toNat = dp A (G i).toNat := fun k => by
          have := c7 (by omega)
          exact dp_up _ (by omega)
        unfold SVi
        rw [up_n ci, up_n ci, up_n ci, up_n ci, up_n c2i, up_n ci, up_n ci, dp_up i (by omega)]
        refine ⟨c1, c2, c3, c4, c5, c6, fun k => by have := c7 k; omega, c8, c9, fun k => ?_, fun k => ?_⟩
        · rw [gd (Or.inl k)]; exact c10 k
        · rw [gd (Or.inr k)]; exact (c11 k).imp id op
end SyP
