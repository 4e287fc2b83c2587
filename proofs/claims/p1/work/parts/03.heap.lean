/-- an array's cell of a new content -/
theorem q_arr_at {ω : q_W} {σ σ' : q_H} {H H1 : Heap} {o n : Nat} {tg : Nat} (hb : q_below ω) (hr : q_rep ω σ H) (ho : 0 < o ∧ o ≤ q_n σ) (en : q_n σ' = q_n σ) (et : q_t σ' = q_t σ)
    (hs : ∀ j, j ≠ o → q_i σ' j = q_i σ j ∧ q_r σ' j = q_r σ j ∧ q_l σ' j = q_l σ j) (hat : q_at ω σ' H1 o) (e2 : H1.size = H.size) (e3 : ∀ q, q ≠ q_ad ω o → H1[q]? = H[q]?) : q_rep ω σ' H1 :=
  q_rep_upd hb hr ho.1 ho.2 en (fun j hj => ⟨by rw [et], hs j hj⟩) hat e2 e3
section HeapJ
variable {ω : q_W} {μ : q_M} {d mc ms cs sl pc : Nat} {L : List (Nat × Value)} {st : List Value} {σ : q_H} {Q : q_R → q_H → Prop}
theorem j_getI {idx ci k o : Nat} (hF : q_F μ.1.cls idx ci k "I") (hd : decode μ.2.1 pc = .ok (.getfield idx, 3)) (ht : q_t σ o = (1, ci)) (ho : 0 < o ∧ o ≤ q_n σ)
    (kk : J ω μ d mc ms cs sl (pc + 3) L (.int (q_i σ o k) :: st) σ Q) : J ω μ d mc ms cs sl pc L (.ref o :: st) σ Q :=
  fun p l e R s m args below meth c H locs ls C hr hl hf => q_get C hr hF ht ho hd (kk p l e R s m args below meth c H locs ls C hr hl hf)
theorem j_getZ {idx ci k o : Nat} (hF : q_F μ.1.cls idx ci k "Z") (hd : decode μ.2.1 pc = .ok (.getfield idx, 3)) (ht : q_t σ o = (1, ci)) (ho : 0 < o ∧ o ≤ q_n σ)
    (kk : J ω μ d mc ms cs sl (pc + 3) L (.int (q_i σ o k) :: st) σ Q) : J ω μ d mc ms cs sl pc L (.ref o :: st) σ Q :=
  fun p l e R s m args below meth c H locs ls C hr hl hf => q_get C hr hF ht ho hd (kk p l e R s m args below meth c H locs ls C hr hl hf)
def q_FR (own : String) (idx ci k : Nat) : Prop := ∃ dsc, q_k dsc = 2 ∧ q_F own idx ci k dsc
def q_GR (own : String) (idx ci k : Nat) (nm : String) : Prop := ∃ dsc, q_k dsc = 2 ∧ q_G own idx ci k dsc nm
theorem j_getR {idx ci k o : Nat} (x : Nat) (hF : q_FR μ.1.cls idx ci k) (hd : decode μ.2.1 pc = .ok (.getfield idx, 3)) (ht : q_t σ o = (1, ci)) (ho : 0 < o ∧ o ≤ q_n σ) (hx : q_r σ o k = x) (h0 : 0 < x)
    (kk : J ω μ d mc ms cs sl (pc + 3) L (.ref x :: st) σ Q) : J ω μ d mc ms cs sl pc L (.ref o :: st) σ Q := by
  intro p l e R s m args below meth c H locs ls C hr hl hf
  obtain ⟨dsc, hk, hF⟩ := hF
  refine q_get C hr hF ht ho hd ?_
  have e1 : q_fd ω σ dsc o k = .ref (q_ad ω x) := by
    unfold q_fd
    rw [hk, hx]
    show q_rv ω x = _
    unfold q_rv
    rw [if_neg (Nat.ne_of_gt h0)]
  rw [e1]
  exact kk p l e R s m args below meth c H locs ls C hr hl hf
theorem q_lo {ω : q_W} {locs locs1 : List Loc} (h : ∀ q ∈ locs1, q ∈ locs ∨ ω.1 < q.base) (hf : ∀ q ∈ locs, ω.1 < q.base) : ∀ q ∈ locs1, ω.1 < q.base := fun q hq => (h q hq).elim (hf q) id
theorem q_fd_seti {o k : Nat} {x : Int32} {dsc : String} (hk : q_k dsc = 0) (j : Nat) (d' : String) (h : j = k → d' = dsc) : q_fd ω (q_seti σ o k x) d' o j = if j = k then .int x else q_fd ω σ d' o j := by
  unfold q_fd
  by_cases e : j = k
  · rw [if_pos e, h e, hk, e]
    show Value.int (q_row (q_i σ) o (q_row (q_i σ o) k x) o k) = _
    rw [q_row_s, q_row_s]
  · rw [if_neg e]
    have e2 : q_i (q_seti σ o k x) o j = q_i σ o j := by
      show q_row (q_i σ) o (q_row (q_i σ o) k x) o j = _
      rw [q_row_s, q_row_n _ _ e]
    rw [e2]
    rfl
theorem q_fd_setr {o k x : Nat} {dsc : String} (hk : q_k dsc = 2) (j : Nat) (d' : String) (h : j = k → d' = dsc) : q_fd ω (q_setr σ o k x) d' o j = if j = k then q_rv ω x else q_fd ω σ d' o j := by
  unfold q_fd
  by_cases e : j = k
  · rw [if_pos e, h e, hk, e]
    show q_rv ω (q_row (q_r σ) o (q_row (q_r σ o) k x) o k) = _
    rw [q_row_s, q_row_s]
  · rw [if_neg e]
    have e2 : q_r (q_setr σ o k x) o j = q_r σ o j := by
      show q_row (q_r σ) o (q_row (q_r σ o) k x) o j = _
      rw [q_row_s, q_row_n _ _ e]
    rw [e2]
    rfl
theorem j_putI {idx ci k o : Nat} {x : Int32} (hF : q_G μ.1.cls idx ci k "I" μ.1.name) (hd : decode μ.2.1 pc = .ok (.putfield idx, 3)) (ht : q_t σ o = (1, ci)) (ho : 0 < o ∧ o ≤ q_n σ)
    (kk : J ω μ d mc ms cs sl (pc + 3) L st (q_seti σ o k x) Q) : J ω μ d mc ms cs sl pc L (.int x :: .ref o :: st) σ Q :=
  fun p l e R s m args below meth c H locs ls C hr hl hf => q_put (σ' := q_seti σ o k x) C hr hF ht ho (fun ty h _ => by
    have e1 : ty = .int := Option.some.inj (h.symm.trans (by decide))
    rw [e1]; exact ⟨rfl, rfl⟩) rfl rfl (fun j hj => ⟨q_row_n _ _ hj, rfl, rfl⟩) (q_fd_seti (dsc := "I") (by decide)) hd (fun H1 locs1 hr1 hl1 => kk p l e R s m args below meth c H1 locs1 ls C hr1 hl (q_lo hl1 hf))
theorem j_putZ {idx ci k o : Nat} {x : Int32} (hF : q_G μ.1.cls idx ci k "Z" μ.1.name) (hd : decode μ.2.1 pc = .ok (.putfield idx, 3)) (ht : q_t σ o = (1, ci)) (ho : 0 < o ∧ o ≤ q_n σ) (hx : x = 0 ∨ x = 1)
    (kk : J ω μ d mc ms cs sl (pc + 3) L st (q_seti σ o k x) Q) : J ω μ d mc ms cs sl pc L (.int x :: .ref o :: st) σ Q :=
  fun p l e R s m args below meth c H locs ls C hr hl hf => q_put (σ' := q_seti σ o k x) C hr hF ht ho (fun ty h _ => by
    have e1 : ty = .boolean := Option.some.inj (h.symm.trans (by decide))
    rw [e1]; rcases hx with rfl | rfl <;> exact ⟨rfl, rfl⟩) rfl rfl (fun j hj => ⟨q_row_n _ _ hj, rfl, rfl⟩) (q_fd_seti (dsc := "Z") (by decide)) hd (fun H1 locs1 hr1 hl1 => kk p l e R s m args below meth c H1 locs1 ls C hr1 hl (q_lo hl1 hf))
theorem j_putR {idx ci k o x : Nat} (hF : q_GR μ.1.cls idx ci k μ.1.name) (hd : decode μ.2.1 pc = .ok (.putfield idx, 3)) (ht : q_t σ o = (1, ci)) (ho : 0 < o ∧ o ≤ q_n σ) (h0 : 0 < x)
    (kk : J ω μ d mc ms cs sl (pc + 3) L st (q_setr σ o k x) Q) : J ω μ d mc ms cs sl pc L (.ref x :: .ref o :: st) σ Q := by
  intro p l e R s m args below meth c H locs ls C hr hl hf
  obtain ⟨dsc, hk, hF⟩ := hF
  have e0 : q_rv ω x = .ref (q_ad ω x) := if_neg (Nat.ne_of_gt h0)
  refine q_put (v := .ref (q_ad ω x)) (σ' := q_setr σ o k x) C hr hF ht ho (fun ty _ h => ?_) rfl rfl (fun j hj => ⟨rfl, q_row_n _ _ hj, rfl⟩) (fun j d' h => by rw [q_fd_setr hk j d' h, e0]) hd (fun H1 locs1 hr1 hl1 => kk p l e R s m args below meth c H1 locs1 ls C hr1 hl (q_lo hl1 hf))
  have h2 := h hk
  cases ty <;> first | exact ⟨rfl, rfl⟩ | cases h2
theorem q_in_of {i : Int32} {j n : Nat} (hi : i = nI j) (hj : j < n) (hn : n < 2147483648) : vp_in i n ∧ i.toNatClampNeg = j := by
  subst hi
  exact ⟨vp_in_nI hj hn, nI_clamp (by omega)⟩
theorem j_iald {a n : Nat} {i : Int32} (j : Nat) (hd : decode μ.2.1 pc = .ok (.iaload, 1)) (ht : q_t σ a = (2, n)) (ha : 0 < a ∧ a ≤ q_n σ) (hi : i = nI j) (hj : j < n) (hn : n < 2147483648)
    (kk : J ω μ d mc ms cs sl (pc + 1) L (.int (q_i σ a j) :: st) σ Q) : J ω μ d mc ms cs sl pc L (.int i :: .ref a :: st) σ Q := by
  intro p l e R s m args below meth c H locs ls C hr hl hf
  have hat := hr.1 a ha
  unfold q_at at hat
  rw [ht] at hat
  obtain ⟨h1, h2⟩ := q_in_of hi hj hn
  obtain ⟨hx, hb, -, -, -, -, -, -, -, -, -, hK, -⟩ := id C
  refine va_iald hx hb hK (ws := [(q_ad ω a, .inl (ω.2.2.1 2, n, .inl (q_i σ a)))]) (fun k q hq => ?_) 0 0 rfl rfl h1 hd ?_
  · match k, hq with
    | 0, hq => cases hq; exact hat
    | k + 1, hq => simp at hq
  · rw [h2]; exact kk p l e R s m args below meth c H locs ls C hr hl hf
theorem j_bald {a n : Nat} {i : Int32} (j : Nat) (hd : decode μ.2.1 pc = .ok (.baload, 1)) (ht : q_t σ a = (3, n)) (ha : 0 < a ∧ a ≤ q_n σ) (hi : i = nI j) (hj : j < n) (hn : n < 2147483648)
    (kk : J ω μ d mc ms cs sl (pc + 1) L (.int (q_i σ a j) :: st) σ Q) : J ω μ d mc ms cs sl pc L (.int i :: .ref a :: st) σ Q := by
  intro p l e R s m args below meth c H locs ls C hr hl hf
  have hat := hr.1 a ha
  unfold q_at at hat
  rw [ht] at hat
  obtain ⟨h1, h2⟩ := q_in_of hi hj hn
  obtain ⟨hx, hb, -, -, -, -, -, -, -, -, -, hK, -⟩ := id C
  refine va_bald hx hb hK (ws := [(q_ad ω a, .inl (ω.2.2.1 3, n, .inl (q_i σ a)))]) (fun k q hq => ?_) 0 1 rfl rfl h1 hd ?_
  · match k, hq with
    | 0, hq => cases hq; exact hat
    | k + 1, hq => simp at hq
  · rw [h2]; exact kk p l e R s m args below meth c H locs ls C hr hl hf
theorem j_lald {a n : Nat} {i : Int32} (j : Nat) (hd : decode μ.2.1 pc = .ok (.laload, 1)) (ht : q_t σ a = (4, n)) (ha : 0 < a ∧ a ≤ q_n σ) (hi : i = nI j) (hj : j < n) (hn : n < 2147483648)
    (kk : J ω μ d mc ms cs sl (pc + 1) L (.long (q_l σ a j) :: st) σ Q) : J ω μ d mc ms cs sl pc L (.int i :: .ref a :: st) σ Q := by
  intro p l e R s m args below meth c H locs ls C hr hl hf
  have hat := hr.1 a ha
  unfold q_at at hat
  rw [ht] at hat
  obtain ⟨h1, h2⟩ := q_in_of hi hj hn
  obtain ⟨hx, hb, -, -, -, -, -, -, -, -, -, hK, -⟩ := id C
  refine va_lald hx hb hK (ws := [(q_ad ω a, .inl (ω.2.2.1 4, n, .inr (.inl (q_l σ a))))]) (fun k q hq => ?_) 0 2 rfl rfl h1 hd ?_
  · match k, hq with
    | 0, hq => cases hq; exact hat
    | k + 1, hq => simp at hq
  · rw [h2]; exact kk p l e R s m args below meth c H locs ls C hr hl hf
theorem q_lc1 {ω : q_W} {locs : List Loc} {a i : Nat} (h : ∀ q ∈ locs, ω.1 < q.base) (ha : ω.1 < a) : ∀ q ∈ locs ++ [⟨a, i⟩], ω.1 < q.base := by
  intro q hq
  rcases List.mem_append.mp hq with h1 | h1
  · exact h q h1
  · rw [List.mem_singleton.mp h1]; exact ha
theorem q_adlt {ω : q_W} {H : Heap} {a : Nat} (hr : q_rep ω σ H) (ha : 0 < a ∧ a ≤ q_n σ) : ω.1 < q_ad ω a := by
  rw [q_ad_new (Nat.lt_of_le_of_lt ha.2 hr.2.2.1)]
  omega
theorem j_iast {a n : Nat} {i x : Int32} (j : Nat) (hd : decode μ.2.1 pc = .ok (.iastore, 1)) (ht : q_t σ a = (2, n)) (ha : 0 < a ∧ a ≤ q_n σ) (hi : i = nI j) (hj : j < n) (hn : n < 2147483648)
    (kk : J ω μ d mc ms cs sl (pc + 1) L st (q_seti σ a j x) Q) : J ω μ d mc ms cs sl pc L (.int x :: .int i :: .ref a :: st) σ Q := by
  intro p l e R s m args below meth c H locs ls C hr hl hf
  have hat := hr.1 a ha
  unfold q_at at hat
  rw [ht] at hat
  obtain ⟨h1, h2⟩ := q_in_of hi hj hn
  obtain ⟨hx, hb, -, -, -, -, -, -, -, -, -, hK, hbl, -⟩ := id C
  refine W.iast hx hb hat ((hK.2 0 _ rfl).1 n (fun j => .int (q_i σ a j))) (fun q => by cases q) (by show ¬ (i < 0 ∨ (arrV _ _ _).slots.size ≤ _); rw [arrV_size]; exact h1) rfl rfl hd fun H1 e1 e2 e3 => ?_
  rw [h2] at e1 ⊢
  refine kk p l e R s m args below meth c H1 _ ls C (q_arr_at (tg := 0) (n := 0) hbl hr ha rfl rfl (fun j hj => ⟨q_row_n _ _ hj, rfl, rfl⟩) ?_ e2 e3) hl (q_lc1 hf (q_adlt hr ha))
  unfold q_at
  rw [show q_t (q_seti σ a j x) a = (2, n) from ht]
  show H1[q_ad ω a]? = some (vp_cell _ _)
  rw [e1, vp_cell_i, vp_cell_i, arrV_store]
  congr 2
  funext q
  show (if q = j then Value.int x else Value.int (q_i σ a q)) = Value.int (q_row (q_i σ) a (q_row (q_i σ a) j x) a q)
  rw [q_row_s]
  unfold q_row
  split <;> rfl
theorem j_bast {a n : Nat} {i x : Int32} (j : Nat) (hd : decode μ.2.1 pc = .ok (.bastore, 1)) (ht : q_t σ a = (3, n)) (ha : 0 < a ∧ a ≤ q_n σ) (hi : i = nI j) (hj : j < n) (hn : n < 2147483648)
    (kk : J ω μ d mc ms cs sl (pc + 1) L st (q_seti σ a j x.toInt8.toInt32) Q) : J ω μ d mc ms cs sl pc L (.int x :: .int i :: .ref a :: st) σ Q := by
  intro p l e R s m args below meth c H locs ls C hr hl hf
  have hat := hr.1 a ha
  unfold q_at at hat
  rw [ht] at hat
  obtain ⟨h1, h2⟩ := q_in_of hi hj hn
  obtain ⟨hx, hb, -, -, -, -, -, -, -, -, -, hK, hbl, -⟩ := id C
  refine W.bast hx hb hat ((hK.2 1 _ rfl).1 n (fun j => .int (q_i σ a j))) (fun q => by cases q) (by show ¬ (i < 0 ∨ (arrV _ _ _).slots.size ≤ _); rw [arrV_size]; exact h1) rfl rfl hd fun H1 e1 e2 e3 => ?_
  rw [h2] at e1 ⊢
  refine kk p l e R s m args below meth c H1 _ ls C (q_arr_at (tg := 0) (n := 0) hbl hr ha rfl rfl (fun j hj => ⟨q_row_n _ _ hj, rfl, rfl⟩) ?_ e2 e3) hl (q_lc1 hf (q_adlt hr ha))
  unfold q_at
  rw [show q_t (q_seti σ a j x.toInt8.toInt32) a = (3, n) from ht]
  show H1[q_ad ω a]? = some (vp_cell _ _)
  rw [e1, vp_cell_i, vp_cell_i, arrV_store]
  congr 2
  funext q
  show (if q = j then Value.int x.toInt8.toInt32 else Value.int (q_i σ a q)) = Value.int (q_row (q_i σ) a (q_row (q_i σ a) j x.toInt8.toInt32) a q)
  rw [q_row_s]
  unfold q_row
  split <;> rfl
theorem j_last {a n : Nat} {i : Int32} {x : Int64} (j : Nat) (hd : decode μ.2.1 pc = .ok (.lastore, 1)) (ht : q_t σ a = (4, n)) (ha : 0 < a ∧ a ≤ q_n σ) (hi : i = nI j) (hj : j < n) (hn : n < 2147483648)
    (kk : J ω μ d mc ms cs sl (pc + 1) L st (q_setl σ a j x) Q) : J ω μ d mc ms cs sl pc L (.long x :: .int i :: .ref a :: st) σ Q := by
  intro p l e R s m args below meth c H locs ls C hr hl hf
  have hat := hr.1 a ha
  unfold q_at at hat
  rw [ht] at hat
  obtain ⟨h1, h2⟩ := q_in_of hi hj hn
  obtain ⟨hx, hb, -, -, -, -, -, -, -, -, -, hK, hbl, -⟩ := id C
  refine W.last hx hb hat ((hK.2 2 _ rfl).1 n (fun j => .long (q_l σ a j))) (fun q => by cases q) (by show ¬ (i < 0 ∨ (arrV _ _ _).slots.size ≤ _); rw [arrV_size]; exact h1) rfl rfl hd fun H1 e1 e2 e3 => ?_
  rw [h2] at e1 ⊢
  refine kk p l e R s m args below meth c H1 _ ls C (q_arr_at (tg := 0) (n := 0) hbl hr ha rfl rfl (fun j hj => ⟨rfl, rfl, q_row_n _ _ hj⟩) ?_ e2 e3) hl (q_lc1 hf (q_adlt hr ha))
  unfold q_at
  rw [show q_t (q_setl σ a j x) a = (4, n) from ht]
  show H1[q_ad ω a]? = some (vp_cell _ _)
  rw [e1, vp_cell_l, vp_cell_l, arrV_store]
  congr 2
  funext q
  show (if q = j then Value.long x else Value.long (q_l σ a q)) = Value.long (q_row (q_l σ) a (q_row (q_l σ a) j x) a q)
  rw [q_row_s]
  unfold q_row
  split <;> rfl
theorem j_alen {a n tg : Nat} (hd : decode μ.2.1 pc = .ok (.arraylength, 1)) (ht : q_t σ a = (tg, n)) (htg : tg = 2 ∨ tg = 3 ∨ tg = 4) (ha : 0 < a ∧ a ≤ q_n σ)
    (kk : J ω μ d mc ms cs sl (pc + 1) L (.int (nI n) :: st) σ Q) : J ω μ d mc ms cs sl pc L (.ref a :: st) σ Q := by
  intro p l e R s m args below meth c H locs ls C hr hl hf
  have hat := hr.1 a ha
  unfold q_at at hat
  rw [ht] at hat
  obtain ⟨hx, hb, -, -, -, -, -, -, -, -, -, hK, -⟩ := id C
  have k := kk p l e R s m args below meth c H locs ls C hr hl hf
  rcases htg with rfl | rfl | rfl
  · exact W.alen (n := nI n) hx hb hat ((hK.2 0 _ rfl).1 n (fun j => .int (q_i σ a j))) (by show ((arrV _ _ _).slots.size).toInt32 = _; rw [arrV_size]; rfl) rfl rfl hd k
  · exact W.alen (n := nI n) hx hb hat ((hK.2 1 _ rfl).1 n (fun j => .int (q_i σ a j))) (by show ((arrV _ _ _).slots.size).toInt32 = _; rw [arrV_size]; rfl) rfl rfl hd k
  · exact W.alen (n := nI n) hx hb hat ((hK.2 2 _ rfl).1 n (fun j => .long (q_l σ a j))) (by show ((arrV _ _ _).slots.size).toInt32 = _; rw [arrV_size]; rfl) rfl rfl hd k
end HeapJ
