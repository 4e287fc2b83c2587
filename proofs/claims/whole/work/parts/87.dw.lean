/-! Decisions are wishes -/
def DW (wc lv : Nat) (w V L T St : Nat → Int) : Prop := ∀ k, 1 ≤ k → k ≤ lv → ∃ i, i < wc ∧ T (St k).toNat = w i ∧ ∀ j, j < i → V (w j).toNat ≠ 0 ∧ L (gt (w j)) < (k : Int)
section DwP
variable {s ts ts2 lv lv2 t0 wc : Nat} {M M2 : Nat → Int} {cs cs2 : List Nat} {w V V2 L L2 Rs Rs2 T T2 St : Nat → Int}
/-- what has a value is on the trail -/
theorem TR_on {x : Int} (h : TRp s ts lv M cs V L Rs T St) (lx : lit s x) (v : V x.toNat ≠ 0) : ∃ i, i < ts ∧ gt (T i) = gt x := by
  have l0 := lx.1
  have l1 := lx.2
  rcases h.2.2.1 x.toNat (by omega) with e | ⟨-, i, hi, e⟩
  · exact absurd e v
  · refine ⟨i, hi, ?_⟩
    unfold gt
    rw [show ((x.toNat : Nat) : Int) = x by omega] at e
    rw [e]
theorem TR_val {x : Int} {i : Nat} (h : TRp s ts lv M cs V L Rs T St) (lx : lit s x) (hi : i < ts) (e : gt (T i) = gt x) : V x.toNat ≠ 0 := by
  obtain ⟨a, b, c⟩ := h.1 i hi
  have l0 := lx.1
  have l1 := a.1
  have : x / 2 = T i / 2 := by unfold gt at e; omega
  rcases ng_or this with q | q
  · rw [q, b]; decide
  · rw [q, c]; decide
theorem DW_mono (h : TRp s ts lv M cs V L Rs T St) (h2 : TRp s ts2 lv2 M2 cs2 V2 L2 Rs2 T2 St) (hw : ∀ i, i < wc → lit s (w i)) (hd : DW wc lv w V L T St) (hlv : lv2 ≤ lv) (ht : t0 ≤ ts2) (hT : ∀ i, i < t0 → T2 i = T i ∧ L2 (gt (T i)) = L (gt (T i))) (hb : ∀ i, i < ts → L (gt (T i)) < (lv2 : Int) → i < t0) (hs : ∀ k, 1 ≤ k → k ≤ lv2 → (St k).toNat < t0) : DW wc lv2 w V2 L2 T2 St := by
  intro k h1 hk
  obtain ⟨i, hi, ei, o⟩ := hd k h1 (by omega)
  refine ⟨i, hi, by rw [(hT _ (hs k h1 hk)).1]; exact ei, fun j hj => ?_⟩
  obtain ⟨v, l⟩ := o j hj
  obtain ⟨p, hp, ep⟩ := TR_on h (hw j (by omega)) v
  have hpt : p < t0 := hb p hp (by rw [ep]; omega)
  obtain ⟨e1, e2⟩ := hT p hpt
  refine ⟨TR_val h2 (hw j (by omega)) (i := p) (by omega) (by rw [e1]; exact ep), ?_⟩
  rw [← ep, e2, ep]; exact l
/-- there is a level for one more wish -/
theorem DW_room {i0 : Nat} (h : TRp s ts lv M cs V L Rs T St) (hw : ∀ i, i < wc → lit s (w i)) (hd : DW wc lv w V L T St) (hi : i0 < wc) (hv : V (w i0).toNat = 0) : lv < wc := by
  classical
  have ch : ∀ k, k < lv → ∃ i, i < wc ∧ T (St (k + 1)).toNat = w i := fun k hk => by
    obtain ⟨i, a, b, -⟩ := hd (k + 1) (by omega) (by omega)
    exact ⟨i, a, b⟩
  have st : ∀ k, k < lv → (St (k + 1)).toNat < ts := fun k hk => by
    have := h.2.2.2.2.1 (k + 1) (by omega) (by omega); omega
  have := pigeon wc (lv + 1) (fun k => if hk : k < lv then (ch k hk).choose else i0) (fun k hk => by
    show (if hk : k < lv then (ch k hk).choose else i0) < wc
    split
    · next q => exact (ch k q).choose_spec.1
    · exact hi) (fun j k hjk hk => by
    show (if hk : j < lv then (ch j hk).choose else i0) ≠ (if hk : k < lv then (ch k hk).choose else i0)
    rw [dif_pos (show j < lv by omega)]
    have sj := (ch j (by omega)).choose_spec
    have hj := st j (by omega)
    by_cases q : k < lv
    · rw [dif_pos q]
      have sk := (ch k q).choose_spec
      have hk2 := st k q
      intro e
      rw [e] at sj
      have : (St (j + 1)).toNat = (St (k + 1)).toNat := TR_inj h hj hk2 (congrArg gt (sj.2.trans sk.2.symm))
      have f1 := h.2.2.2.2.1 (j + 1) (by omega) (by omega)
      have f2 := h.2.2.2.2.1 (k + 1) (by omega) (by omega)
      have := St_lt h (a := j + 1) (by omega) (k + 1) (by omega) (by omega)
      omega
    · rw [dif_neg q]
      intro e
      rw [e] at sj
      have := (h.1 _ hj).2.1
      rw [sj.2, hv] at this
      exact absurd this (by decide))
  omega
end DwP
