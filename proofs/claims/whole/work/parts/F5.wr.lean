/-! The reference's words: base 256 beside base 32 -/
def r32 : List Nat → Nat
  | [] => 0
  | c :: l => r32 l * 32 + (c - 96)
def r256 : List Nat → Nat
  | [] => 0
  | c :: l => r256 l * 256 + c
def ltO (l : List Nat) : Prop := ∀ c, c ∈ l → 97 ≤ c ∧ c ≤ 122
theorem ltO_c {c : Nat} {l : List Nat} (h : ltO (c :: l)) : (97 ≤ c ∧ c ≤ 122) ∧ ltO l := ⟨h c (by simp), fun x hx => h x (by simp [hx])⟩
theorem r32_inj : ∀ (l l' : List Nat), ltO l → ltO l' → r32 l = r32 l' → l = l'
  | [], [], _, _, _ => rfl
  | [], c :: l, _, h, e => by
    have := (ltO_c h).1
    have e' : 0 = r32 l * 32 + (c - 96) := e
    omega
  | c :: l, [], h, _, e => by
    have := (ltO_c h).1
    have e' : r32 l * 32 + (c - 96) = 0 := e
    omega
  | c :: l, c' :: l', h, h', e => by
    have a := ltO_c h
    have b := ltO_c h'
    have e' : r32 l * 32 + (c - 96) = r32 l' * 32 + (c' - 96) := e
    have e1 : c = c' := by omega
    rw [e1, r32_inj l l' a.2 b.2 (by omega)]
theorem r256_inj : ∀ (l l' : List Nat), ltO l → ltO l' → r256 l = r256 l' → l = l'
  | [], [], _, _, _ => rfl
  | [], c :: l, _, h, e => by
    have := (ltO_c h).1
    have e' : 0 = r256 l * 256 + c := e
    omega
  | c :: l, [], h, _, e => by
    have := (ltO_c h).1
    have e' : r256 l * 256 + c = 0 := e
    omega
  | c :: l, c' :: l', h, h', e => by
    have a := ltO_c h
    have b := ltO_c h'
    have e' : r256 l * 256 + c = r256 l' * 256 + c' := e
    have e1 : c = c' := by omega
    rw [e1, r256_inj l l' a.2 b.2 (by omega)]
theorem r256_lt : ∀ (l : List Nat), ltO l → r256 l < 256 ^ l.length
  | [], _ => by decide
  | c :: l, h => by
    have a := ltO_c h
    have b := r256_lt l a.2
    show r256 l * 256 + c < 256 ^ (l.length + 1)
    rw [Nat.pow_succ]
    omega
theorem r32_lt : ∀ (l : List Nat), ltO l → r32 l < 32 ^ l.length
  | [], _ => by decide
  | c :: l, h => by
    have a := ltO_c h
    have b := r32_lt l a.2
    show r32 l * 32 + (c - 96) < 32 ^ (l.length + 1)
    rw [Nat.pow_succ]
    omega
def vN (x : Int64) : Nat := x.toBitVec.toNat
theorem vN_eq {x y : Int64} : vN x = vN y ↔ x = y := by
  constructor
  · intro h
    exact Int64.toBitVec_inj.mp (BitVec.eq_of_toNat_eq h)
  · intro h; rw [h]
theorem vN_zI {c : Int} (h : 0 ≤ c ∧ c < 256) : vN (zI c).toInt64 = c.toNat := by
  have : ∀ j : Nat, j < 256 → vN (zI (j : Int)).toInt64 = j := by decide +kernel
  have q := this c.toNat (by omega)
  rwa [show ((c.toNat : Nat) : Int) = c by omega] at q
theorem l256 {x : Int64} {c : Int} (hx : vN x < 256 ^ 7) (hc : 0 ≤ c ∧ c < 256) : vN ((x <<< ((zI 8).toInt64 &&& 63)) ||| (zI c).toInt64) = vN x * 256 + c.toNat := by
  have e8 : (zI 8).toInt64 &&& 63 = 8 := by decide
  have ec := vN_zI hc
  rw [e8]
  unfold vN at hx ec ⊢
  rw [Int64.toBitVec_or, BitVec.toNat_or, ec]
  have es : (x <<< (8 : Int64)).toBitVec = x.toBitVec <<< 8 := rfl
  rw [es, BitVec.toNat_shiftLeft, Nat.mod_eq_of_lt (by rw [Nat.shiftLeft_eq]; have : (256 : Nat) ^ 7 * 2 ^ 8 = 2 ^ 64 := by decide
                                                       omega), ← Nat.shiftLeft_add_eq_or_of_lt (by omega), Nat.shiftLeft_eq]
/-- the letters from s on, the last first -/
def lr (f : Nat → Int) (s : Nat) : Nat → List Nat
  | 0 => []
  | k + 1 => (f (s + k)).toNat :: lr f s k
theorem lr_len {f : Nat → Int} {s : Nat} : ∀ k, (lr f s k).length = k
  | 0 => rfl
  | k + 1 => by show (lr f s k).length + 1 = k + 1; rw [lr_len k]
theorem lr_O {f : Nat → Int} {s : Nat} : ∀ k, (∀ j, s ≤ j → j < s + k → lxL (f j) = true) → ltO (lr f s k)
  | 0, _ => fun c hc => by cases hc
  | k + 1, h => fun c hc => by
    rcases List.mem_cons.mp hc with q | q
    · have := lxL_iff.mp (h (s + k) (by omega) (by omega))
      omega
    · exact lr_O k (fun j h1 h2 => h j h1 (by omega)) c q
theorem wva_app {f : Nat → Int} : ∀ (k s : Nat) (acc : Int64), wva f s (k + 1) acc = wva f s k acc * 32 + (zI (f (s + k) - 96)).toInt64
  | 0, s, acc => rfl
  | k + 1, s, acc => by
    show wva f (s + 1) (k + 1) _ = wva f (s + 1) k _ * 32 + _
    rw [wva_app k (s + 1), show s + 1 + k = s + (k + 1) by omega]
theorem wva_r {f : Nat → Int} {s : Nat} : ∀ k, k ≤ 8 → (∀ j, s ≤ j → j < s + k → lxL (f j) = true) → (wva f s k 0).toInt = ((r32 (lr f s k) : Nat) : Int)
  | 0, _, _ => rfl
  | k + 1, hk, h => by
    have ih := wva_r (s := s) k (by omega) (fun j h1 h2 => h j h1 (by omega))
    have lt := r32_lt _ (lr_O k (fun j h1 h2 => h j h1 (by omega)))
    rw [lr_len] at lt
    have c := lxL_iff.mp (h (s + k) (by omega) (by omega))
    have p : (32 : Nat) ^ k ≤ 32 ^ 7 := Nat.pow_le_pow_right (by decide) (by omega)
    have p7 : (32 : Nat) ^ 7 = 34359738368 := by decide
    rw [wva_app, i64_step (by omega) (by omega) (by omega) (by omega), ih]
    show _ = ((r32 (lr f s k) * 32 + ((f (s + k)).toNat - 96) : Nat) : Int)
    omega
/-- the seven words, in both -/
def wdL : List (List Nat) := [[116, 117, 112, 110, 105], [114, 97, 118], [102, 105], [101, 115, 108, 101], [101, 108, 105, 104, 119], [116, 114, 101, 115, 115, 97], [101, 109, 117, 115, 115, 97]]
theorem wd_ok : ∀ j : Nat, j < 7 → (∀ c, c ∈ wdL.getD j [] → 97 ≤ c ∧ c ≤ 122) ∧ (wds.getD j 0).toInt = ((r32 (wdL.getD j []) : Nat) : Int) := by decide +kernel
theorem wd_iff {x w v : Int64} {l : List Nat} {j : Nat} (hj : j < 7) (hl : ltO l) (hx : vN x = r256 l) (hw : w.toInt = ((r32 l : Nat) : Int)) (hv : vN v = r256 (wdL.getD j [])) : x = v ↔ wds.getD j 0 = w := by
  obtain ⟨a, b⟩ := wd_ok j hj
  constructor
  · intro h
    rw [h, hv] at hx
    have := r256_inj _ _ a hl hx
    apply Int64.toInt_inj.mp
    rw [b, hw, this]
  · intro h
    rw [← h, b] at hw
    have := r32_inj _ _ a hl (by omega)
    apply vN_eq.mp
    rw [hx, hv, this]
section WrJ
variable {ω : q_W} {d s : Nat} {σ : q_H}
theorem m_sp {Kk : Int64 → q_H → Prop} {i : Nat} {lst : List Int32} {tx : String × Nat × String} (hd : 4 ≤ d) (hi : q_strs[i]? = some tx) (hm : (1000100 + i, FieldType.byte, lst) ∈ q_olds) (hlen : lst.length < 65536) (kk : Kk (spF lst lst.length) σ) : J ω m_M_spelled d 0 0 0 0 0 [(0, .ref (1000010 + i))] [] σ (q_kl Kk) := by
  obtain ⟨d, rfl⟩ : ∃ k, d = k + 4 := ⟨d - 4, by omega⟩
  exact j_mono (fun r τ h => ⟨_, h.1, by rw [h.2]; exact kk⟩) (c_M_spelled hi hm hlen)
theorem m_word {Kk : Int → q_H → Prop} {x w : Int64} {l : List Nat} (hd : 5 ≤ d) (hq : RQ s σ) (hl : ltO l) (hx : vN x = r256 l) (hw : w.toInt = ((r32 l : Nat) : Int)) (kk : Kk (kmp (wk w)) σ) : J ω m_M_word d 0 0 0 0 0 [(0, .ref 94), (1, .long x)] [] σ (q_ki Kk) := by
  obtain ⟨d, rfl⟩ : ∃ k, d = k + 1 := ⟨d - 1, by omega⟩
  obtain ⟨⟨hs, r0, r1, r2, r3, r4, r5⟩, hE⟩ := id hq
  have i0 := wd_iff (j := 0) (v := spF [105, 110, 112, 117, 116] 5) (by decide) hl hx hw (by decide +kernel)
  have i1 := wd_iff (j := 1) (v := spF [118, 97, 114] 3) (by decide) hl hx hw (by decide +kernel)
  have i2 := wd_iff (j := 2) (v := spF [105, 102] 2) (by decide) hl hx hw (by decide +kernel)
  have i3 := wd_iff (j := 3) (v := spF [101, 108, 115, 101] 4) (by decide) hl hx hw (by decide +kernel)
  have i4 := wd_iff (j := 4) (v := spF [119, 104, 105, 108, 101] 5) (by decide) hl hx hw (by decide +kernel)
  have i5 := wd_iff (j := 5) (v := spF [97, 115, 115, 101, 114, 116] 6) (by decide) hl hx hw (by decide +kernel)
  have i6 := wd_iff (j := 6) (v := spF [97, 115, 115, 117, 109, 101] 6) (by decide) hl hx hw (by decide +kernel)
  unfold wk at kk
  refine b_M_word_0 hs r0 r1 r2 r3 r4 r5 hE (m_sp (i := 7) (lst := [105, 110, 112, 117, 116]) (by omega) rfl (by decide +kernel) (by decide) (b_M_word_6 hs r0 r1 r2 r3 r4 r5 hE ⟨fun c => ?_, fun c => ⟨256, ⟨by decide, by decide⟩, rfl, by rw [if_pos (i0.mp c)] at kk; exact kk⟩⟩))
  rw [if_neg (fun q => c (i0.mpr q))] at kk
  refine m_sp (i := 8) (lst := [118, 97, 114]) (by omega) rfl (by decide +kernel) (by decide) (b_M_word_20 hs r0 r1 r2 r3 r4 r5 hE ⟨fun c => ?_, fun c => ⟨257, ⟨by decide, by decide⟩, rfl, by rw [if_pos (i1.mp c)] at kk; exact kk⟩⟩)
  rw [if_neg (fun q => c (i1.mpr q))] at kk
  refine m_sp (i := 9) (lst := [105, 102]) (by omega) rfl (by decide +kernel) (by decide) (b_M_word_34 hs r0 r1 r2 r3 r4 r5 hE ⟨fun c => ?_, fun c => ⟨258, ⟨by decide, by decide⟩, rfl, by rw [if_pos (i2.mp c)] at kk; exact kk⟩⟩)
  rw [if_neg (fun q => c (i2.mpr q))] at kk
  refine m_sp (i := 10) (lst := [101, 108, 115, 101]) (by omega) rfl (by decide +kernel) (by decide) (b_M_word_48 hs r0 r1 r2 r3 r4 r5 hE ⟨fun c => ?_, fun c => ⟨259, ⟨by decide, by decide⟩, rfl, by rw [if_pos (i3.mp c)] at kk; exact kk⟩⟩)
  rw [if_neg (fun q => c (i3.mpr q))] at kk
  refine m_sp (i := 11) (lst := [119, 104, 105, 108, 101]) (by omega) rfl (by decide +kernel) (by decide) (b_M_word_62 hs r0 r1 r2 r3 r4 r5 hE ⟨fun c => ?_, fun c => ⟨260, ⟨by decide, by decide⟩, rfl, by rw [if_pos (i4.mp c)] at kk; exact kk⟩⟩)
  rw [if_neg (fun q => c (i4.mpr q))] at kk
  refine m_sp (i := 12) (lst := [97, 115, 115, 101, 114, 116]) (by omega) rfl (by decide +kernel) (by decide) (b_M_word_76 hs r0 r1 r2 r3 r4 r5 hE ⟨fun c => ?_, fun c => ⟨261, ⟨by decide, by decide⟩, rfl, by rw [if_pos (i5.mp c)] at kk; exact kk⟩⟩)
  rw [if_neg (fun q => c (i5.mpr q))] at kk
  refine m_sp (i := 13) (lst := [97, 115, 115, 117, 109, 101]) (by omega) rfl (by decide +kernel) (by decide) (b_M_word_90 hs r0 r1 r2 r3 r4 r5 hE ⟨fun c => ⟨263, ⟨by decide, by decide⟩, rfl, ?_⟩, fun c => ⟨262, ⟨by decide, by decide⟩, rfl, ?_⟩⟩)
  · rw [if_neg (fun q => c (i6.mpr q))] at kk; exact kk
  · rw [if_pos (i6.mp c)] at kk; exact kk
/-- what the reference sees of a byte -/
def seeB (f : Nat → Int) (n i : Nat) : Int := if i < n then f i % 256 else -1
theorem m_look {Kk : Int → q_H → Prop} {f : Nat → Int} {n i : Nat} (hq : RQ s σ) (h2 : z σ 94 2 = (n : Int)) (hn : n ≤ 4096) (hi : i ≤ 5000) (hf : ∀ j, j < n → z σ 95 j = f j) (kk : Kk (seeB f n i) σ) : J ω m_M_look d 0 0 0 0 0 [(0, .ref 94), (1, .int (zI (i : Int)))] [] σ (q_ki Kk) := by
  obtain ⟨⟨hs, r0, r1, r2, r3, r4, r5⟩, hE⟩ := id hq
  refine b_M_look_0 hs r0 r1 r2 r3 r4 r5 hE ?_
  rw [h2]
  unfold seeB at kk
  refine ⟨⟨by omega, by omega⟩, fun c => ?_, fun c => ⟨⟨by omega, by omega⟩, ?_⟩⟩
  · rw [if_neg (by omega)] at kk
    exact ⟨-1, ⟨by decide, by decide⟩, rfl, kk⟩
  · rw [if_pos (by omega)] at kk
    refine ⟨zAnd (z σ 95 (i : Int).toNat) 255, inR_of _, rfl, ?_⟩
    rw [Int.toNat_natCast, hf i (by omega)]
    have := zAnd_mod (v := f i) (k := 8) (by decide)
    rw [show (((2 ^ 8 - 1 : Nat)) : Int) = 255 by decide, show (((2 ^ 8 : Nat)) : Int) = 256 by decide] at this
    rw [this]; exact kk
theorem sg2_no {a b : Int} (h1 : ¬ (a = 61 ∧ b = 61)) (h2 : ¬ (a = 33 ∧ b = 61)) (h3 : ¬ (a = 60 ∧ b = 61)) (h4 : ¬ (a = 62 ∧ b = 61)) (h5 : ¬ (a = 60 ∧ b = 60)) (h6 : ¬ (a = 62 ∧ b = 62)) (h7 : ¬ (a = 38 ∧ b = 38)) (h8 : ¬ (a = 124 ∧ b = 124)) : sg2 a b = 47 := by
  unfold sg2
  split
  · rw [if_neg (by omega)]
  · split
    · rw [if_neg (by omega)]
    · split
      · rw [if_neg (by omega), if_neg (by omega)]
      · split
        · rw [if_neg (by omega), if_neg (by omega)]
        · split
          · rw [if_neg (by omega)]
          · split
            · rw [if_neg (by omega)]
            · rfl
theorem m_pair {Kk : Int → q_H → Prop} {x y a b : Int} (hE : q_E σ) (xR : inR x) (yR : inR y) (hx : ∀ c, 33 ≤ c ∧ c ≤ 126 → (x = c ↔ a = c)) (hy : ∀ c, 33 ≤ c ∧ c ≤ 126 → (y = c ↔ b = c)) (kk : Kk (if sg2 a b = 47 then 0 else kmp (sg2 a b)) σ) : J ω m_M_pair d 0 0 0 0 0 [(0, .int (zI x)), (1, .int (zI y))] [] σ (q_ki Kk) := by
  have X := fun c h => (hx c h).mp
  have Y := fun c h => (hy c h).mp
  have X' := fun c h => (hx c h).mpr
  have Y' := fun c h => (hy c h).mpr
  have fin : ∀ (k : Int) (m : Int), sg2 a b = m → (if m = 47 then 0 else kmp m) = k → inR k → q_ki Kk (.inl (some (.int (zI k)))) σ := fun k m h1 h2 h3 => by
    rw [h1, h2] at kk
    exact ⟨k, h3, rfl, kk⟩
  have hit : ∀ (u w k m : Int), 33 ≤ u ∧ u ≤ 126 → 33 ≤ w ∧ w ≤ 126 → sg2 u w = m → (if m = 47 then 0 else kmp m) = k → inR k → x = u → y = w → q_ki Kk (.inl (some (.int (zI k)))) σ := fun u w k m hu hw h1 h2 h3 e1 e2 => fin k m (by rw [X u hu e1, Y w hw e2]; exact h1) h2 h3
  have no : ∀ (u w : Int), 33 ≤ u ∧ u ≤ 126 → 33 ≤ w ∧ w ≤ 126 → (x ≠ u ∨ y ≠ w) → ¬ (a = u ∧ b = w) := fun u w hu hw h e => h.elim (fun q => q (X' u hu e.1)) (fun q => q (Y' w hw e.2))
  clear kk hx hy X Y X' Y'
  have g112 : ¬ (a = 61 ∧ b = 61) → ¬ (a = 33 ∧ b = 61) → ¬ (a = 60 ∧ b = 61) → ¬ (a = 62 ∧ b = 61) → ¬ (a = 60 ∧ b = 60) → ¬ (a = 62 ∧ b = 62) → ¬ (a = 38 ∧ b = 38) → J ω m_M_pair d 0 0 0 0 112 [(0, .int (zI x)), (1, .int (zI y))] [] σ (q_ki Kk) := fun n1 n2 n3 n4 n5 n6 n7 =>
    b_M_pair_112 hE ⟨xR, fun c => fin 0 47 (sg2_no n1 n2 n3 n4 n5 n6 n7 (no 124 124 (by decide) (by decide) (Or.inl c))) (by decide) ⟨by decide, by decide⟩, fun c => ⟨yR, fun e => fin 0 47 (sg2_no n1 n2 n3 n4 n5 n6 n7 (no 124 124 (by decide) (by decide) (Or.inr e))) (by decide) ⟨by decide, by decide⟩, fun e => hit 124 124 272 1 (by decide) (by decide) (by decide) (by decide) ⟨by decide, by decide⟩ c e⟩⟩
  have g96 : ¬ (a = 61 ∧ b = 61) → ¬ (a = 33 ∧ b = 61) → ¬ (a = 60 ∧ b = 61) → ¬ (a = 62 ∧ b = 61) → ¬ (a = 60 ∧ b = 60) → ¬ (a = 62 ∧ b = 62) → J ω m_M_pair d 0 0 0 0 96 [(0, .int (zI x)), (1, .int (zI y))] [] σ (q_ki Kk) := fun n1 n2 n3 n4 n5 n6 =>
    b_M_pair_96 hE ⟨xR, fun c => g112 n1 n2 n3 n4 n5 n6 (no 38 38 (by decide) (by decide) (Or.inl c)), fun c => ⟨yR, fun e => g112 n1 n2 n3 n4 n5 n6 (no 38 38 (by decide) (by decide) (Or.inr e)), fun e => hit 38 38 271 2 (by decide) (by decide) (by decide) (by decide) ⟨by decide, by decide⟩ c e⟩⟩
  have g80 : ¬ (a = 61 ∧ b = 61) → ¬ (a = 33 ∧ b = 61) → ¬ (a = 60 ∧ b = 61) → ¬ (a = 62 ∧ b = 61) → ¬ (a = 60 ∧ b = 60) → J ω m_M_pair d 0 0 0 0 80 [(0, .int (zI x)), (1, .int (zI y))] [] σ (q_ki Kk) := fun n1 n2 n3 n4 n5 =>
    b_M_pair_80 hE ⟨xR, fun c => g96 n1 n2 n3 n4 n5 (no 62 62 (by decide) (by decide) (Or.inl c)), fun c => ⟨yR, fun e => g96 n1 n2 n3 n4 n5 (no 62 62 (by decide) (by decide) (Or.inr e)), fun e => hit 62 62 270 13 (by decide) (by decide) (by decide) (by decide) ⟨by decide, by decide⟩ c e⟩⟩
  have g64 : ¬ (a = 61 ∧ b = 61) → ¬ (a = 33 ∧ b = 61) → ¬ (a = 60 ∧ b = 61) → ¬ (a = 62 ∧ b = 61) → J ω m_M_pair d 0 0 0 0 64 [(0, .int (zI x)), (1, .int (zI y))] [] σ (q_ki Kk) := fun n1 n2 n3 n4 =>
    b_M_pair_64 hE ⟨xR, fun c => g80 n1 n2 n3 n4 (no 60 60 (by decide) (by decide) (Or.inl c)), fun c => ⟨yR, fun e => g80 n1 n2 n3 n4 (no 60 60 (by decide) (by decide) (Or.inr e)), fun e => hit 60 60 269 12 (by decide) (by decide) (by decide) (by decide) ⟨by decide, by decide⟩ c e⟩⟩
  have g48 : ¬ (a = 61 ∧ b = 61) → ¬ (a = 33 ∧ b = 61) → ¬ (a = 60 ∧ b = 61) → J ω m_M_pair d 0 0 0 0 48 [(0, .int (zI x)), (1, .int (zI y))] [] σ (q_ki Kk) := fun n1 n2 n3 =>
    b_M_pair_48 hE ⟨xR, fun c => g64 n1 n2 n3 (no 62 61 (by decide) (by decide) (Or.inl c)), fun c => ⟨yR, fun e => g64 n1 n2 n3 (no 62 61 (by decide) (by decide) (Or.inr e)), fun e => hit 62 61 268 11 (by decide) (by decide) (by decide) (by decide) ⟨by decide, by decide⟩ c e⟩⟩
  have g32 : ¬ (a = 61 ∧ b = 61) → ¬ (a = 33 ∧ b = 61) → J ω m_M_pair d 0 0 0 0 32 [(0, .int (zI x)), (1, .int (zI y))] [] σ (q_ki Kk) := fun n1 n2 =>
    b_M_pair_32 hE ⟨xR, fun c => g48 n1 n2 (no 60 61 (by decide) (by decide) (Or.inl c)), fun c => ⟨yR, fun e => g48 n1 n2 (no 60 61 (by decide) (by decide) (Or.inr e)), fun e => hit 60 61 267 9 (by decide) (by decide) (by decide) (by decide) ⟨by decide, by decide⟩ c e⟩⟩
  have g16 : ¬ (a = 61 ∧ b = 61) → J ω m_M_pair d 0 0 0 0 16 [(0, .int (zI x)), (1, .int (zI y))] [] σ (q_ki Kk) := fun n1 =>
    b_M_pair_16 hE ⟨xR, fun c => g32 n1 (no 33 61 (by decide) (by decide) (Or.inl c)), fun c => ⟨yR, fun e => g32 n1 (no 33 61 (by decide) (by decide) (Or.inr e)), fun e => hit 33 61 266 7 (by decide) (by decide) (by decide) (by decide) ⟨by decide, by decide⟩ c e⟩⟩
  exact b_M_pair_0 hE ⟨xR, fun c => g16 (no 61 61 (by decide) (by decide) (Or.inl c)), fun c => ⟨yR, fun e => g16 (no 61 61 (by decide) (by decide) (Or.inr e)), fun e => hit 61 61 265 6 (by decide) (by decide) (by decide) (by decide) ⟨by decide, by decide⟩ c e⟩⟩
end WrJ
