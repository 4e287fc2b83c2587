/-! THE HEAP AS A VALUE. Cells made since the law began are numbered 1, 2, ..; old ones from 1000000 on. -/
/-- how many cells were made; their tags (1: object of the class with that number, 2: int[], 3: byte[], 4: long[] of that length, 5: exception); numbers, references (0: null), longs -/
abbrev q_H : Type := Nat × (Nat → Nat × Nat) × (Nat → Nat → Int32) × (Nat → Nat → Nat) × (Nat → Nat → Int64)
abbrev q_n (σ : q_H) : Nat := σ.1
abbrev q_t (σ : q_H) : Nat → Nat × Nat := σ.2.1
abbrev q_i (σ : q_H) : Nat → Nat → Int32 := σ.2.2.1
abbrev q_r (σ : q_H) : Nat → Nat → Nat := σ.2.2.2.1
abbrev q_l (σ : q_H) : Nat → Nat → Int64 := σ.2.2.2.2
def q_row {α : Type} (f : Nat → α) (k : Nat) (x : α) : Nat → α := fun j => if j = k then x else f j
theorem q_row_s {α : Type} (f : Nat → α) (k : Nat) (x : α) : q_row f k x k = x := if_pos rfl
theorem q_row_n {α : Type} (f : Nat → α) {k j : Nat} (x : α) (h : j ≠ k) : q_row f k x j = f j := if_neg h
def q_seti (σ : q_H) (o k : Nat) (x : Int32) : q_H := (q_n σ, q_t σ, q_row (q_i σ) o (q_row (q_i σ o) k x), q_r σ, q_l σ)
def q_setr (σ : q_H) (o k x : Nat) : q_H := (q_n σ, q_t σ, q_i σ, q_row (q_r σ) o (q_row (q_r σ o) k x), q_l σ)
def q_setl (σ : q_H) (o k : Nat) (x : Int64) : q_H := (q_n σ, q_t σ, q_i σ, q_r σ, q_row (q_l σ) o (q_row (q_l σ o) k x))
def q_add (σ : q_H) (t : Nat × Nat) : q_H := (q_n σ + 1, q_row (q_t σ) (q_n σ + 1) t, q_row (q_i σ) (q_n σ + 1) (fun _ => 0), q_row (q_r σ) (q_n σ + 1) (fun _ => 0), q_row (q_l σ) (q_n σ + 1) (fun _ => 0))
/-- where cell 0 would lie; the classes' numbers and slots; the array classes; where the old cells lie; the exceptions' classes; the heap at the law's beginning; the script -/
abbrev q_W : Type := Nat × va_G × (Nat → ClassId) × (Nat → Nat) × (Nat → ClassId) × Heap × Nat × (Nat → Int32)
abbrev q_od (ω : q_W) : Nat → Nat := ω.2.2.2.1
abbrev q_xc (ω : q_W) : Nat → ClassId := ω.2.2.2.2.1
abbrev q_H0 (ω : q_W) : Heap := ω.2.2.2.2.2.1
abbrev q_sL (ω : q_W) : Nat := ω.2.2.2.2.2.2.1
abbrev q_sx (ω : q_W) : Nat → Int32 := ω.2.2.2.2.2.2.2
def q_ad (ω : q_W) (k : Nat) : Nat := if k < 1000000 then ω.1 + k else (q_od ω) k
def q_cv (ω : q_W) : Value → Value
  | .ref k => .ref (q_ad ω k)
  | v => v
def q_cl (ω : q_W) (q : Nat × Value) : Nat × Value := (q.1, q_cv ω q.2)
def q_rv (ω : q_W) (x : Nat) : Value := if x = 0 then .null else .ref (q_ad ω x)
def q_fd (ω : q_W) (σ : q_H) (d : String) (o j : Nat) : Value := match q_k d with
  | 0 => .int (q_i σ o j)
  | 1 => .long (q_l σ o j)
  | _ => q_rv ω (q_r σ o j)
def q_fv (ω : q_W) (σ : q_H) (T : u_T) (o j : Nat) : Value := q_fd ω σ (T j).2.2.1 o j
def q_at (ω : q_W) (σ : q_H) (H : Heap) (k : Nat) : Prop := match (q_t σ k).1 with
  | 0 => True
  | 1 => ∃ r : vw_C, q_cls[(q_t σ k).2]? = some r ∧ t_OB (q_ad ω k) (ω.2.1.1 (q_t σ k).2) r.2.2 (ω.2.1.2 (q_t σ k).2) H (q_fv ω σ r.2.1 k)
  | 2 => H[q_ad ω k]? = some (vp_cell (ω.2.2.1 2) ((q_t σ k).2, .inl (q_i σ k)))
  | 3 => H[q_ad ω k]? = some (vp_cell (ω.2.2.1 3) ((q_t σ k).2, .inl (q_i σ k)))
  | 4 => H[q_ad ω k]? = some (vp_cell (ω.2.2.1 4) ((q_t σ k).2, .inr (.inl (q_l σ k))))
  | _ => ∃ cell : Cell, H[q_ad ω k]? = some cell ∧ cell.cls = (q_xc ω) (q_t σ k).2 ∧ cell.vm = .none
def q_rep (ω : q_W) (σ : q_H) (H : Heap) : Prop := (∀ k, 0 < k ∧ k ≤ q_n σ → q_at ω σ H k) ∧ H.size = ω.1 + q_n σ + 1 ∧ q_n σ < 1000000 ∧ ∀ q, q ≤ ω.1 → H[q]? = (q_H0 ω)[q]?
theorem q_i_seti (σ : q_H) (o k : Nat) (x : Int32) : q_i (q_seti σ o k x) = q_row (q_i σ) o (q_row (q_i σ o) k x) := rfl
theorem q_r_setr (σ : q_H) (o k x : Nat) : q_r (q_setr σ o k x) = q_row (q_r σ) o (q_row (q_r σ o) k x) := rfl
theorem q_l_setl (σ : q_H) (o k : Nat) (x : Int64) : q_l (q_setl σ o k x) = q_row (q_l σ) o (q_row (q_l σ o) k x) := rfl
theorem q_fv_congr {ω : q_W} {σ σ' : q_H} {T : u_T} {o : Nat} (hi : q_i σ' o = q_i σ o) (hr : q_r σ' o = q_r σ o) (hl : q_l σ' o = q_l σ o) : q_fv ω σ' T o = q_fv ω σ T o := by
  funext j
  unfold q_fv q_fd
  rw [hi, hr, hl]
theorem q_at_congr {ω : q_W} {σ σ' : q_H} {H H' : Heap} {k : Nat} (ht : q_t σ' k = q_t σ k) (hi : q_i σ' k = q_i σ k) (hr : q_r σ' k = q_r σ k) (hl : q_l σ' k = q_l σ k) (hH : H'[q_ad ω k]? = H[q_ad ω k]?) (h : q_at ω σ H k) : q_at ω σ' H' k := by
  unfold q_at at h ⊢
  rw [ht, hi, hl]
  split at h
  · trivial
  · obtain ⟨r, h1, h2⟩ := h
    refine ⟨r, h1, ?_⟩
    rw [q_fv_congr hi hr hl]
    exact h2.kept hH
  · rw [hH]; exact h
  · rw [hH]; exact h
  · rw [hH]; exact h
  · rw [hH]; exact h
theorem q_ad_new {ω : q_W} {k : Nat} (h : k < 1000000) : q_ad ω k = ω.1 + k := if_pos h
theorem q_ad_old {ω : q_W} {k : Nat} (h : 1000000 ≤ k) : q_ad ω k = (q_od ω) k := if_neg (Nat.not_lt.mpr h)
def q_below (_ : q_W) : Prop := True
theorem q_ad_ne {ω : q_W} (_ : q_below ω) {n k j : Nat} (hn : n < 1000000) (hk : 0 < k) (hkn : k ≤ n) (hj : 0 < j ∧ j ≤ n) (hne : j ≠ k) : q_ad ω j ≠ q_ad ω k := by
  rw [q_ad_new (by omega : k < 1000000), q_ad_new (by omega : j < 1000000)]; omega
theorem q_rep_upd {ω : q_W} {σ σ' : q_H} {H H' : Heap} {k : Nat} (hb : q_below ω) (hr : q_rep ω σ H) (hk : 0 < k) (hkn : k ≤ q_n σ) (en : q_n σ' = q_n σ)
    (hs : ∀ j, j ≠ k → q_t σ' j = q_t σ j ∧ q_i σ' j = q_i σ j ∧ q_r σ' j = q_r σ j ∧ q_l σ' j = q_l σ j) (hat : q_at ω σ' H' k) (z : H'.size = H.size) (oq : ∀ q, q ≠ q_ad ω k → H'[q]? = H[q]?) : q_rep ω σ' H' := by
  obtain ⟨h1, h2, h3, h4⟩ := hr
  refine ⟨fun j hj => ?_, by rw [z, en]; exact h2, by rw [en]; exact h3, fun q hq => (oq q ?_).trans (h4 q hq)⟩
  rotate_left
  · rw [q_ad_new (Nat.lt_of_le_of_lt hkn h3)]; omega
  rw [en] at hj
  by_cases e : j = k
  · rw [e]; exact hat
  · obtain ⟨a1, a2, a3, a4⟩ := hs j e
    exact q_at_congr a1 a2 a3 a4 (oq _ (q_ad_ne hb h3 hk hkn hj e)) (h1 j hj)
theorem q_rep_add {ω : q_W} {σ : q_H} {H H' : Heap} {t : Nat × Nat} (hb : q_below ω) (hr : q_rep ω σ H) (hlt : q_n σ + 1 < 1000000) (hat : q_at ω (q_add σ t) H' (q_n σ + 1)) (z : H'.size = H.size + 1) (oq : ∀ q, q < H.size → H'[q]? = H[q]?) : q_rep ω (q_add σ t) H' := by
  obtain ⟨h1, h2, h3, h4⟩ := hr
  refine ⟨fun j hj => ?_, by rw [z, h2]; rfl, hlt, fun q hq => (oq q (by rw [h2]; omega)).trans (h4 q hq)⟩
  by_cases e : j = q_n σ + 1
  · rw [e]; exact hat
  · have h9 : j ≤ q_n σ + 1 := hj.2
    have hj' : 0 < j ∧ j ≤ q_n σ := ⟨hj.1, by omega⟩
    refine q_at_congr (q_row_n _ _ e) (q_row_n _ _ e) (q_row_n _ _ e) (q_row_n _ _ e) (oq _ ?_) (h1 j hj')
    rw [q_ad_new (by omega), h2]; omega
/-! THE JUDGEMENT. μ: the method's name, code, locals, what it returns, its handlers. -/
/-- exceptions by their numbers -/
def q_xn : List String := ["java/lang/IndexOutOfBoundsException", "java/lang/IllegalArgumentException", "java/lang/IllegalStateException", "java/util/NoSuchElementException", "java/lang/ArithmeticException"]
/-- a static that holds a reference or null, in an old cell -/
def q_ZL (ω : q_W) (C n d : String) (s : State) : Prop := ∃ (c : ClassId) (k : Class) (i : Nat) (f : Field) (a : Nat) (cell : Cell) (u : RefV), s.vm.findClass C = some c ∧ s.fieldFound? C n d = some (c, k, i, f) ∧ f.isStatic = true ∧ k.statics = some a ∧ (q_H0 ω)[a]? = some cell ∧ cell.vm.isStatics = true ∧ cell.cls = c ∧ f.slot < cell.slots.size ∧ k.staticTypes[f.slot]? = some f.type ∧ a ≤ ω.1 ∧ cell.slots[f.slot]? = some u.v
theorem q_ZL_moved {ω : q_W} {C n d : String} {u U : State} (hvm : u.vm.Alike U.vm) (h : q_ZL ω C n d u) : q_ZL ω C n d U := by
  obtain ⟨c, k, i, f, a, cell, v, h1, h2, h3, h4, h5, h6, h7, h8, h9, h10, h11⟩ := h
  obtain ⟨k', hi', he⟩ := State.fieldFound?_setVm hvm h2
  exact ⟨c, k', i, f, a, cell, v, by rw [hvm.findClass]; exact h1, hi', h3, by rw [he]; exact h4, h5, h6, h7, h8, by rw [he]; exact h9, h10, h11⟩
/-- old arrays that nobody writes: number, type, contents -/
def q_olds : List (Nat × FieldType × List Int32) := [(1000001, .int, [0, 1, 2, 3, 4, 5, 6, 6, 7, 7, 7, 7, 8, 8, 9, 9, 10, 10, 10, 11, 11, 11]),
  (1000002, .int, [0, 1, 1, 0, 0, 0, 1, 1, 1, 1, 1, 1, 2, 2, 0, 0, 0, 0, 0, 1, 0, 0, 3]),
  (1000003, .int, [0, 0, 0, 0, 0, 0, 0, 0, 0, 0, 0, 0, 1, 1, 0, 0, 2, 2, 2, 0, 0, 0, 0]),
  (1000100, .byte, [105, 110, 112, 117, 116]),
  (1000101, .byte, [118, 97, 114]),
  (1000102, .byte, [105, 102]),
  (1000103, .byte, [101, 108, 115, 101]),
  (1000104, .byte, [119, 104, 105, 108, 101]),
  (1000105, .byte, [97, 115, 115, 101, 114, 116]),
  (1000106, .byte, [97, 115, 115, 117, 109, 101]),
  (1000107, .byte, [105, 110, 112, 117, 116]),
  (1000108, .byte, [118, 97, 114]),
  (1000109, .byte, [105, 102]),
  (1000110, .byte, [101, 108, 115, 101]),
  (1000111, .byte, [119, 104, 105, 108, 101]),
  (1000112, .byte, [97, 115, 115, 101, 114, 116]),
  (1000113, .byte, [97, 115, 115, 117, 109, 101]),
  (1000114, .byte, [59, 58, 40, 41, 123, 125, 61, 63, 33, 126, 43, 45, 42, 47, 37, 38, 124, 94, 60, 62])]
/-- the string constants: class, entry, text; the i-th is the old cell 1000010 + i, its bytes 1000100 + i -/
def q_strs : List (String × Nat × String) := [("ProofHall$Scanner", 26, "input"), ("ProofHall$Scanner", 32, "var"), ("ProofHall$Scanner", 34, "if"), ("ProofHall$Scanner", 36, "else"), ("ProofHall$Scanner", 38, "while"), ("ProofHall$Scanner", 40, "assert"), ("ProofHall$Scanner", 42, "assume"), ("ProofHallModel", 168, "input"), ("ProofHallModel", 174, "var"), ("ProofHallModel", 176, "if"), ("ProofHallModel", 178, "else"), ("ProofHallModel", 180, "while"), ("ProofHallModel", 182, "assert"), ("ProofHallModel", 184, "assume"), ("ProofHallModel", 213, ";:(){}=?!~+-*/%&|^<>")]
/-- statics -/
def q_stas : List (String × String × String × Value) := [("ProofHall", "STRENGTH", "[I", .ref 1000001), ("ProofHall", "OUTCOME", "[I", .ref 1000002), ("ProofHall", "PRICE", "[I", .ref 1000003), ("java/lang/String", "COMPACT_STRINGS", "Z", .int 1)]
def q_old (ω : q_W) : Nat → Prop := fun q => ω.1 < q
def q_str (ω : q_W) (s : State) (i : Nat) (e : String × Nat × String) : Prop := vk_R e.1 e.2.1 e.2.2 (q_od ω (1000010 + i)) s ∧ va_O "java/lang/String" (q_od ω (1000010 + i)) (q_old ω) s (q_H0 ω) ∧ va_OF "java/lang/String" "coder" "B" (.int 0) (q_od ω (1000010 + i)) (q_old ω) s (q_H0 ω) ∧ va_OF "java/lang/String" "value" "[B" (.ref (q_od ω (1000100 + i))) (q_od ω (1000010 + i)) (q_old ω) s (q_H0 ω)
/-- what the old cells hold -/
def q_sta (ω : q_W) (s : State) : Prop := (∀ q, q ≤ ω.1 → s.heap[q]? = (q_H0 ω)[q]?) ∧ q_ZL ω "java/lang/Throwable" "UNASSIGNED_STACK" "[Ljava/lang/StackTraceElement;" s ∧ q_ZL ω "java/lang/Throwable" "SUPPRESSED_SENTINEL" "Ljava/util/List;" s ∧
  (∀ (k : Nat) (X : String), q_xn[k]? = some X → s.vm.findClass X = some (q_xc ω k)) ∧ s.vm.assignable (q_xc ω 3) (q_xc ω 2) = false ∧
  (∀ e ∈ q_stas, va_Z e.1 e.2.1 e.2.2.1 (q_cv ω e.2.2.2) (q_old ω) s (q_H0 ω)) ∧ (∃ v : Value, va_Z "jdk/internal/util/Preconditions" "SIOOBE_FORMATTER" "Ljava/util/function/BiFunction;" v (q_old ω) s (q_H0 ω) ∧ (v = .null ∨ v = .ref (q_od ω 1000004))) ∧
  (∀ e ∈ q_olds, va_T e.2.1 (q_od ω e.1) e.2.2.length (fun j => .int (e.2.2.getD j 0)) (q_old ω) s (q_H0 ω)) ∧ (∀ (i : Nat) (e : String × Nat × String), q_strs[i]? = some e → q_str ω s i e) ∧ va_T .int (q_od ω 1000000) (q_sL ω) (fun j => .int (q_sx ω j)) (q_old ω) s (q_H0 ω)
theorem q_sta_moved {ω : q_W} {u U : State} (hW : u.WarmedH U.vm) (hU : ∀ q, q ≤ ω.1 → U.heap[q]? = (q_H0 ω)[q]?) (h : q_sta ω u) : q_sta ω U := by
  have hvm := hW.alike
  obtain ⟨-, h2, h3, h4, h5, h6, ⟨v, h7, h7'⟩, h8, h9, h10⟩ := h
  refine ⟨hU, q_ZL_moved hvm h2, q_ZL_moved hvm h3, fun k X hk => by rw [hvm.findClass]; exact h4 k X hk, by rw [hvm.assignable]; exact h5, fun e he => (h6 e he).moved hvm, ⟨v, h7.moved hvm, h7'⟩, fun e he => (h8 e he).moved hvm, fun i e he => ?_, h10.moved hvm⟩
  obtain ⟨a1, a2, a3, a4⟩ := h9 i e he
  exact ⟨a1.warm hW, a2.moved hvm, a3.moved hvm, a4.moved hvm⟩
def q_tab (ω : q_W) (s : State) : Prop := va_K ω.2.1 q_cls [(ω.2.2.1 2, .int), (ω.2.2.1 3, .byte), (ω.2.2.1 4, .long)] s ∧ q_below ω ∧ q_sta ω s
theorem q_tab_moved {ω : q_W} {u U : State} (hW : u.WarmedH U.vm) (hU : ∀ q, q ≤ ω.1 → U.heap[q]? = (q_H0 ω)[q]?) (h : q_tab ω u) : q_tab ω U := ⟨va_K.moved hW.alike h.1, h.2.1, q_sta_moved hW hU h.2.2⟩
/-- the launch has no stack traces -/
def q_off (l : Launch) : Prop := ∀ e, l.admits e → e.platform.stackTraces = false
/-- what a method's walk stands on -/
def q_ctx (ω : q_W) (μ : q_M) (d mc ms : Nat) (p : Program) (l : Launch) (e : Env) (R : Room) (s : State) (m : MethodId) (args : Array Value) (meth : Method) (c : Code) : Prop :=
  p.tables.exec = Jvm.exec ∧ c.code = μ.2.1 ∧ c.maxLocals = μ.2.2.1 ∧ meth.sig.returnType = μ.2.2.2.1 ∧ meth.locks = false ∧ s.vm.findClass μ.1.cls = some m.cls ∧ meth.name = μ.1.name ∧
  (∀ w ∈ q_tb, w.before args s = true) ∧ c.exceptionTable.toList = tableOf μ.2.2.2.2 ∧ q_off l ∧ (d ≤ R.frames ∧ 40 * d ≤ R.locals ∧ mc ≤ R.cells ∧ ms ≤ R.slots) ∧ q_tab ω s
/-- how a method ends: with a value, or with the exception of that number -/
abbrev q_R : Type := Option Value ⊕ Nat
def q_out (ω : q_W) : q_R → Outcome
  | .inl v => .returned (v.map (q_cv ω))
  | .inr k => .threw (q_ad ω k)
def q_end (ω : q_W) (mc ms : Nat) (Q : q_R → q_H → Prop) (below : List Frame) (s : State) : State → Prop := fun t =>
  ∃ (r : q_R) (σ : q_H) (L : List Loc), t.status = .running ∧ Ended t below (q_out ω r) ∧ Q r σ ∧ q_rep ω σ t.heap ∧ s.WarmedH t.vm ∧ s.sameButNew ({ t with vm := s.vm } : State) L mc ms ∧ ∀ q ∈ L, ω.1 < q.base
def J (ω : q_W) (μ : q_M) (d mc ms cs sl pc : Nat) (L : List (Nat × Value)) (st : List Value) (σ : q_H) (Q : q_R → q_H → Prop) : Prop :=
  ∀ (p : Program) (l : Launch) (e : Env) (R : Room) (s : State) (m : MethodId) (args : Array Value) (below : List Frame) (meth : Method) (c : Code) (H : Heap) (locs : List Loc) (ls : Array Slot),
    q_ctx ω μ d mc ms p l e R s m args meth c → q_rep ω σ H → lv_has ls μ.2.2.1 (L.map (q_cl ω)) → (∀ q ∈ locs, ω.1 < q.base) →
    W p l e R s m args below meth c H locs cs sl (q_end ω mc ms Q below s) (F0 m pc ls (st.map (q_cv ω)))
section Rows
variable {ω : q_W} {μ : q_M} {d mc ms cs sl pc : Nat} {L : List (Nat × Value)} {st : List Value} {σ : q_H} {Q : q_R → q_H → Prop}
theorem j_iadd {x y : Int32} (hd : decode μ.2.1 pc = .ok (.iadd, 1)) (k : J ω μ d mc ms cs sl (pc + 1) L (.int (x + y) :: st) σ Q) : J ω μ d mc ms cs sl pc L (.int y :: .int x :: st) σ Q :=
  fun p l e R s m args below meth c H locs ls C hr hl hf => lv_iadd C.1 C.2.1 hd (k p l e R s m args below meth c H locs ls C hr hl hf)
theorem j_isub {x y : Int32} (hd : decode μ.2.1 pc = .ok (.isub, 1)) (k : J ω μ d mc ms cs sl (pc + 1) L (.int (x - y) :: st) σ Q) : J ω μ d mc ms cs sl pc L (.int y :: .int x :: st) σ Q :=
  fun p l e R s m args below meth c H locs ls C hr hl hf => lv_isub C.1 C.2.1 hd (k p l e R s m args below meth c H locs ls C hr hl hf)
theorem j_imul {x y : Int32} (hd : decode μ.2.1 pc = .ok (.imul, 1)) (k : J ω μ d mc ms cs sl (pc + 1) L (.int (x * y) :: st) σ Q) : J ω μ d mc ms cs sl pc L (.int y :: .int x :: st) σ Q :=
  fun p l e R s m args below meth c H locs ls C hr hl hf => lv_imul C.1 C.2.1 hd (k p l e R s m args below meth c H locs ls C hr hl hf)
theorem j_iand {x y : Int32} (hd : decode μ.2.1 pc = .ok (.iand, 1)) (k : J ω μ d mc ms cs sl (pc + 1) L (.int (x &&& y) :: st) σ Q) : J ω μ d mc ms cs sl pc L (.int y :: .int x :: st) σ Q :=
  fun p l e R s m args below meth c H locs ls C hr hl hf => lv_iand C.1 C.2.1 hd (k p l e R s m args below meth c H locs ls C hr hl hf)
theorem j_ior {x y : Int32} (hd : decode μ.2.1 pc = .ok (.ior, 1)) (k : J ω μ d mc ms cs sl (pc + 1) L (.int (x ||| y) :: st) σ Q) : J ω μ d mc ms cs sl pc L (.int y :: .int x :: st) σ Q :=
  fun p l e R s m args below meth c H locs ls C hr hl hf => lv_ior C.1 C.2.1 hd (k p l e R s m args below meth c H locs ls C hr hl hf)
theorem j_ixor {x y : Int32} (hd : decode μ.2.1 pc = .ok (.ixor, 1)) (k : J ω μ d mc ms cs sl (pc + 1) L (.int (x ^^^ y) :: st) σ Q) : J ω μ d mc ms cs sl pc L (.int y :: .int x :: st) σ Q :=
  fun p l e R s m args below meth c H locs ls C hr hl hf => lv_ixor C.1 C.2.1 hd (k p l e R s m args below meth c H locs ls C hr hl hf)
theorem j_ishl {x y : Int32} (hd : decode μ.2.1 pc = .ok (.ishl, 1)) (k : J ω μ d mc ms cs sl (pc + 1) L (.int (x <<< (y &&& 31)) :: st) σ Q) : J ω μ d mc ms cs sl pc L (.int y :: .int x :: st) σ Q :=
  fun p l e R s m args below meth c H locs ls C hr hl hf => lv_ishl C.1 C.2.1 hd (k p l e R s m args below meth c H locs ls C hr hl hf)
theorem j_ishr {x y : Int32} (hd : decode μ.2.1 pc = .ok (.ishr, 1)) (k : J ω μ d mc ms cs sl (pc + 1) L (.int (x >>> (y &&& 31)) :: st) σ Q) : J ω μ d mc ms cs sl pc L (.int y :: .int x :: st) σ Q :=
  fun p l e R s m args below meth c H locs ls C hr hl hf => lv_ishr C.1 C.2.1 hd (k p l e R s m args below meth c H locs ls C hr hl hf)
theorem j_iushr {x y : Int32} (hd : decode μ.2.1 pc = .ok (.iushr, 1)) (k : J ω μ d mc ms cs sl (pc + 1) L (.int ((x.toUInt32 >>> (y.toUInt32 &&& Int32.toUInt32 31)).toInt32) :: st) σ Q) : J ω μ d mc ms cs sl pc L (.int y :: .int x :: st) σ Q :=
  fun p l e R s m args below meth c H locs ls C hr hl hf => lv_iushr C.1 C.2.1 hd rfl (k p l e R s m args below meth c H locs ls C hr hl hf)
theorem j_idiv {x y : Int32} (hd : decode μ.2.1 pc = .ok (.idiv, 1)) (h0 : ¬ y = 0) (k : J ω μ d mc ms cs sl (pc + 1) L (.int (x / y) :: st) σ Q) : J ω μ d mc ms cs sl pc L (.int y :: .int x :: st) σ Q :=
  fun p l e R s m args below meth c H locs ls C hr hl hf => lv_idiv C.1 C.2.1 hd h0 (k p l e R s m args below meth c H locs ls C hr hl hf)
theorem j_irem {x y : Int32} (hd : decode μ.2.1 pc = .ok (.irem, 1)) (h0 : ¬ y = 0) (k : J ω μ d mc ms cs sl (pc + 1) L (.int (x - x / y * y) :: st) σ Q) : J ω μ d mc ms cs sl pc L (.int y :: .int x :: st) σ Q :=
  fun p l e R s m args below meth c H locs ls C hr hl hf => lv_irem C.1 C.2.1 hd h0 (k p l e R s m args below meth c H locs ls C hr hl hf)
theorem j_ineg {x : Int32} (hd : decode μ.2.1 pc = .ok (.ineg, 1)) (k : J ω μ d mc ms cs sl (pc + 1) L (.int (-x) :: st) σ Q) : J ω μ d mc ms cs sl pc L (.int x :: st) σ Q :=
  fun p l e R s m args below meth c H locs ls C hr hl hf => lv_ineg C.1 C.2.1 hd (k p l e R s m args below meth c H locs ls C hr hl hf)
theorem j_ladd {x y : Int64} (hd : decode μ.2.1 pc = .ok (.ladd, 1)) (k : J ω μ d mc ms cs sl (pc + 1) L (.long (x + y) :: st) σ Q) : J ω μ d mc ms cs sl pc L (.long y :: .long x :: st) σ Q :=
  fun p l e R s m args below meth c H locs ls C hr hl hf => lv_ladd C.1 C.2.1 hd (k p l e R s m args below meth c H locs ls C hr hl hf)
theorem j_lsub {x y : Int64} (hd : decode μ.2.1 pc = .ok (.lsub, 1)) (k : J ω μ d mc ms cs sl (pc + 1) L (.long (x - y) :: st) σ Q) : J ω μ d mc ms cs sl pc L (.long y :: .long x :: st) σ Q :=
  fun p l e R s m args below meth c H locs ls C hr hl hf => lv_lsub C.1 C.2.1 hd (k p l e R s m args below meth c H locs ls C hr hl hf)
theorem j_lmul {x y : Int64} (hd : decode μ.2.1 pc = .ok (.lmul, 1)) (k : J ω μ d mc ms cs sl (pc + 1) L (.long (x * y) :: st) σ Q) : J ω μ d mc ms cs sl pc L (.long y :: .long x :: st) σ Q :=
  fun p l e R s m args below meth c H locs ls C hr hl hf => lv_lmul C.1 C.2.1 hd (k p l e R s m args below meth c H locs ls C hr hl hf)
theorem j_land {x y : Int64} (hd : decode μ.2.1 pc = .ok (.land, 1)) (k : J ω μ d mc ms cs sl (pc + 1) L (.long (x &&& y) :: st) σ Q) : J ω μ d mc ms cs sl pc L (.long y :: .long x :: st) σ Q :=
  fun p l e R s m args below meth c H locs ls C hr hl hf => lv_land C.1 C.2.1 hd (k p l e R s m args below meth c H locs ls C hr hl hf)
theorem j_lor {x y : Int64} (hd : decode μ.2.1 pc = .ok (.lor, 1)) (k : J ω μ d mc ms cs sl (pc + 1) L (.long (x ||| y) :: st) σ Q) : J ω μ d mc ms cs sl pc L (.long y :: .long x :: st) σ Q :=
  fun p l e R s m args below meth c H locs ls C hr hl hf => lv_lor C.1 C.2.1 hd (k p l e R s m args below meth c H locs ls C hr hl hf)
theorem j_lxor {x y : Int64} (hd : decode μ.2.1 pc = .ok (.lxor, 1)) (k : J ω μ d mc ms cs sl (pc + 1) L (.long (x ^^^ y) :: st) σ Q) : J ω μ d mc ms cs sl pc L (.long y :: .long x :: st) σ Q :=
  fun p l e R s m args below meth c H locs ls C hr hl hf => lv_lxor C.1 C.2.1 hd (k p l e R s m args below meth c H locs ls C hr hl hf)
theorem j_lshl {x : Int64} {y : Int32} (hd : decode μ.2.1 pc = .ok (.lshl, 1)) (k : J ω μ d mc ms cs sl (pc + 1) L (.long (x <<< (y.toInt64 &&& 63)) :: st) σ Q) : J ω μ d mc ms cs sl pc L (.int y :: .long x :: st) σ Q :=
  fun p l e R s m args below meth c H locs ls C hr hl hf => lv_lshl C.1 C.2.1 hd rfl (k p l e R s m args below meth c H locs ls C hr hl hf)
theorem j_lcmp {x y : Int64} (hd : decode μ.2.1 pc = .ok (.lcmp, 1)) (k : J ω μ d mc ms cs sl (pc + 1) L (.int (lg_cmp x y) :: st) σ Q) : J ω μ d mc ms cs sl pc L (.long y :: .long x :: st) σ Q :=
  fun p l e R s m args below meth c H locs ls C hr hl hf => W.lcmp C.1 C.2.1 hd (k p l e R s m args below meth c H locs ls C hr hl hf)
theorem j_i2l {x : Int32} (hd : decode μ.2.1 pc = .ok (.i2l, 1)) (k : J ω μ d mc ms cs sl (pc + 1) L (.long x.toInt64 :: st) σ Q) : J ω μ d mc ms cs sl pc L (.int x :: st) σ Q :=
  fun p l e R s m args below meth c H locs ls C hr hl hf => lv_i2l C.1 C.2.1 hd rfl (k p l e R s m args below meth c H locs ls C hr hl hf)
theorem j_l2i {x : Int64} (hd : decode μ.2.1 pc = .ok (.l2i, 1)) (k : J ω μ d mc ms cs sl (pc + 1) L (.int x.toInt32 :: st) σ Q) : J ω μ d mc ms cs sl pc L (.long x :: st) σ Q :=
  fun p l e R s m args below meth c H locs ls C hr hl hf => lv_l2i C.1 C.2.1 hd rfl (k p l e R s m args below meth c H locs ls C hr hl hf)
theorem j_i2b {x : Int32} (hd : decode μ.2.1 pc = .ok (.i2b, 1)) (k : J ω μ d mc ms cs sl (pc + 1) L (.int x.toInt8.toInt32 :: st) σ Q) : J ω μ d mc ms cs sl pc L (.int x :: st) σ Q :=
  fun p l e R s m args below meth c H locs ls C hr hl hf => lv_i2b C.1 C.2.1 hd rfl (k p l e R s m args below meth c H locs ls C hr hl hf)
theorem j_iconst {n : Int} {v : Int32} (hd : decode μ.2.1 pc = .ok (.iconst n, 1)) (hv : Int32.ofInt n = v) (k : J ω μ d mc ms cs sl (pc + 1) L (.int v :: st) σ Q) : J ω μ d mc ms cs sl pc L (st) σ Q :=
  fun p l e R s m args below meth c H locs ls C hr hl hf => lv_iconst C.1 C.2.1 hd hv (k p l e R s m args below meth c H locs ls C hr hl hf)
theorem j_bipush {n : Int} {v : Int32} (hd : decode μ.2.1 pc = .ok (.bipush n, 2)) (hv : (Int8.ofInt n).toInt32 = v) (k : J ω μ d mc ms cs sl (pc + 2) L (.int v :: st) σ Q) : J ω μ d mc ms cs sl pc L (st) σ Q :=
  fun p l e R s m args below meth c H locs ls C hr hl hf => lv_bipush C.1 C.2.1 hd hv (k p l e R s m args below meth c H locs ls C hr hl hf)
theorem j_sipush {n : Int} {v : Int32} (hd : decode μ.2.1 pc = .ok (.sipush n, 3)) (hv : (Int16.ofInt n).toInt32 = v) (k : J ω μ d mc ms cs sl (pc + 3) L (.int v :: st) σ Q) : J ω μ d mc ms cs sl pc L (st) σ Q :=
  fun p l e R s m args below meth c H locs ls C hr hl hf => lv_sipush C.1 C.2.1 hd hv (k p l e R s m args below meth c H locs ls C hr hl hf)
theorem j_lconst {n : Fin 2} {v : Int64} (hd : decode μ.2.1 pc = .ok (.lconst n, 1)) (hv : Int64.ofNat (n : Nat) = v) (k : J ω μ d mc ms cs sl (pc + 1) L (.long v :: st) σ Q) : J ω μ d mc ms cs sl pc L (st) σ Q :=
  fun p l e R s m args below meth c H locs ls C hr hl hf => lv_lconst C.1 C.2.1 hd hv (k p l e R s m args below meth c H locs ls C hr hl hf)
theorem q_lk {j i : Nat} {v : Value} (h : L[j]? = some (i, v)) : (L.map (q_cl ω))[j]? = some (i, q_cv ω v) := by rw [List.getElem?_map, h]; rfl
theorem j_iload_n {i : Fin 4} {x : Int32} (hd : decode μ.2.1 pc = .ok (.iload_n i, 1)) (j : Nat) (h : L[j]? = some ((i : Nat), .int x)) (k : J ω μ d mc ms cs sl (pc + 1) L (.int x :: st) σ Q) : J ω μ d mc ms cs sl pc L st σ Q :=
  fun p l e R s m args below meth c H locs ls C hr hl hf => lv_iload_n C.1 C.2.1 hd rfl (lv_at hl j (q_lk h)) (k p l e R s m args below meth c H locs ls C hr hl hf)
theorem j_iload {i : Nat} {x : Int32} (hd : decode μ.2.1 pc = .ok (.iload i, 2)) (j : Nat) (h : L[j]? = some (i, .int x)) (k : J ω μ d mc ms cs sl (pc + 2) L (.int x :: st) σ Q) : J ω μ d mc ms cs sl pc L st σ Q :=
  fun p l e R s m args below meth c H locs ls C hr hl hf => lv_iload C.1 C.2.1 hd (lv_at hl j (q_lk h)) (k p l e R s m args below meth c H locs ls C hr hl hf)
theorem j_lload_n {i : Fin 4} {x : Int64} (hd : decode μ.2.1 pc = .ok (.lload_n i, 1)) (j : Nat) (h : L[j]? = some ((i : Nat), .long x)) (k : J ω μ d mc ms cs sl (pc + 1) L (.long x :: st) σ Q) : J ω μ d mc ms cs sl pc L st σ Q :=
  fun p l e R s m args below meth c H locs ls C hr hl hf => lv_lload_n C.1 C.2.1 hd rfl (lv_at hl j (q_lk h)) (k p l e R s m args below meth c H locs ls C hr hl hf)
theorem j_lload {i : Nat} {x : Int64} (hd : decode μ.2.1 pc = .ok (.lload i, 2)) (j : Nat) (h : L[j]? = some (i, .long x)) (k : J ω μ d mc ms cs sl (pc + 2) L (.long x :: st) σ Q) : J ω μ d mc ms cs sl pc L st σ Q :=
  fun p l e R s m args below meth c H locs ls C hr hl hf => lv_lload C.1 C.2.1 hd (lv_at hl j (q_lk h)) (k p l e R s m args below meth c H locs ls C hr hl hf)
theorem j_aload_n {i : Fin 4} {x : Nat} (hd : decode μ.2.1 pc = .ok (.aload_n i, 1)) (j : Nat) (h : L[j]? = some ((i : Nat), .ref x)) (k : J ω μ d mc ms cs sl (pc + 1) L (.ref x :: st) σ Q) : J ω μ d mc ms cs sl pc L st σ Q :=
  fun p l e R s m args below meth c H locs ls C hr hl hf => lv_aload_n C.1 C.2.1 hd rfl (lv_at hl j (q_lk h)) (k p l e R s m args below meth c H locs ls C hr hl hf)
theorem j_aload {i : Nat} {x : Nat} (hd : decode μ.2.1 pc = .ok (.aload i, 2)) (j : Nat) (h : L[j]? = some (i, .ref x)) (k : J ω μ d mc ms cs sl (pc + 2) L (.ref x :: st) σ Q) : J ω μ d mc ms cs sl pc L st σ Q :=
  fun p l e R s m args below meth c H locs ls C hr hl hf => lv_aload C.1 C.2.1 hd (lv_at hl j (q_lk h)) (k p l e R s m args below meth c H locs ls C hr hl hf)
/-- the locals behind a store -/
def q_st (L : List (Nat × Value)) (i : Nat) (v : Value) : List (Nat × Value) := (i, v) :: L.filter (fun q => !(q.1 == i) && !(q.1 + 1 == i && q.2.category == 2))
def q_st2 (L : List (Nat × Value)) (i : Nat) (v : Value) : List (Nat × Value) := (i, v) :: L.filter (fun q => !(q.1 == i) && (!(q.1 == i + 1) && !(q.1 + 1 == i && q.2.category == 2)))
theorem q_cat (ω : q_W) (v : Value) : (q_cv ω v).category = v.category := by cases v <;> rfl
theorem q_stm (i : Nat) (v : Value) : (i, q_cv ω v) :: (L.map (q_cl ω)).filter (fun q => !(q.1 == i) && !(q.1 + 1 == i && q.2.category == 2)) = (q_st L i v).map (q_cl ω) := by
  unfold q_st
  rw [List.map_cons, List.filter_map]
  congr 2
  apply List.filter_congr
  intro q _
  show (!(q.1 == i) && !(q.1 + 1 == i && (q_cv ω q.2).category == 2)) = _
  rw [q_cat]
theorem q_stm2 (i : Nat) (v : Value) : (i, q_cv ω v) :: (L.map (q_cl ω)).filter (fun q => !(q.1 == i) && (!(q.1 == i + 1) && !(q.1 + 1 == i && q.2.category == 2))) = (q_st2 L i v).map (q_cl ω) := by
  unfold q_st2
  rw [List.map_cons, List.filter_map]
  congr 2
  apply List.filter_congr
  intro q _
  show (!(q.1 == i) && (!(q.1 == i + 1) && !(q.1 + 1 == i && (q_cv ω q.2).category == 2))) = _
  rw [q_cat]
theorem j_istore_n {i : Fin 4} {x : Int32} {L' : List (Nat × Value)} (hd : decode μ.2.1 pc = .ok (.istore_n i, 1)) (hi : (i : Nat) < μ.2.2.1) (hL : q_st L i (.int x) = L') (k : J ω μ d mc ms cs sl (pc + 1) L' st σ Q) : J ω μ d mc ms cs sl pc L (.int x :: st) σ Q := by
  subst hL
  intro p l e R s m args below meth c H locs ls C hr hl hf
  exact lv_istore_n C.1 C.2.1 hd rfl hl hi (q_stm (i : Nat) (.int x)) (fun ls hl => k p l e R s m args below meth c H locs ls C hr hl hf)
theorem j_istore {i : Nat} {x : Int32} {L' : List (Nat × Value)} (hd : decode μ.2.1 pc = .ok (.istore i, 2)) (hi : i < μ.2.2.1) (hL : q_st L i (.int x) = L') (k : J ω μ d mc ms cs sl (pc + 2) L' st σ Q) : J ω μ d mc ms cs sl pc L (.int x :: st) σ Q := by
  subst hL
  intro p l e R s m args below meth c H locs ls C hr hl hf
  exact lv_istore C.1 C.2.1 hd hl hi (q_stm i (.int x)) (fun ls hl => k p l e R s m args below meth c H locs ls C hr hl hf)
theorem j_astore_n {i : Fin 4} {x : Nat} {L' : List (Nat × Value)} (hd : decode μ.2.1 pc = .ok (.astore_n i, 1)) (hi : (i : Nat) < μ.2.2.1) (hL : q_st L i (.ref x) = L') (k : J ω μ d mc ms cs sl (pc + 1) L' st σ Q) : J ω μ d mc ms cs sl pc L (.ref x :: st) σ Q := by
  subst hL
  intro p l e R s m args below meth c H locs ls C hr hl hf
  exact lv_astore_n C.1 C.2.1 hd rfl hl hi (q_stm (i : Nat) (.ref x)) (fun ls hl => k p l e R s m args below meth c H locs ls C hr hl hf)
theorem j_astore {i : Nat} {x : Nat} {L' : List (Nat × Value)} (hd : decode μ.2.1 pc = .ok (.astore i, 2)) (hi : i < μ.2.2.1) (hL : q_st L i (.ref x) = L') (k : J ω μ d mc ms cs sl (pc + 2) L' st σ Q) : J ω μ d mc ms cs sl pc L (.ref x :: st) σ Q := by
  subst hL
  intro p l e R s m args below meth c H locs ls C hr hl hf
  exact lv_astore C.1 C.2.1 hd hl hi (q_stm i (.ref x)) (fun ls hl => k p l e R s m args below meth c H locs ls C hr hl hf)
theorem j_lstore_n {i : Fin 4} {x : Int64} {L' : List (Nat × Value)} (hd : decode μ.2.1 pc = .ok (.lstore_n i, 1)) (hi : (i : Nat) + 1 < μ.2.2.1) (hL : q_st2 L i (.long x) = L') (k : J ω μ d mc ms cs sl (pc + 1) L' st σ Q) : J ω μ d mc ms cs sl pc L (.long x :: st) σ Q := by
  subst hL
  intro p l e R s m args below meth c H locs ls C hr hl hf
  exact lv_lstore_n C.1 C.2.1 hd rfl hl hi (q_stm2 (i : Nat) (.long x)) (fun ls hl => k p l e R s m args below meth c H locs ls C hr hl hf)
theorem j_lstore {i : Nat} {x : Int64} {L' : List (Nat × Value)} (hd : decode μ.2.1 pc = .ok (.lstore i, 2)) (hi : i + 1 < μ.2.2.1) (hL : q_st2 L i (.long x) = L') (k : J ω μ d mc ms cs sl (pc + 2) L' st σ Q) : J ω μ d mc ms cs sl pc L (.long x :: st) σ Q := by
  subst hL
  intro p l e R s m args below meth c H locs ls C hr hl hf
  exact lv_lstore C.1 C.2.1 hd hl hi (q_stm2 i (.long x)) (fun ls hl => k p l e R s m args below meth c H locs ls C hr hl hf)
theorem j_iinc {i : Nat} {n : Int} {x v : Int32} {L' : List (Nat × Value)} (hd : decode μ.2.1 pc = .ok (.iinc i n, 3)) (j : Nat) (h : L[j]? = some (i, .int x)) (hv : x + Int32.ofInt n = v) (hi : i < μ.2.2.1) (hL : q_st L i (.int v) = L') (k : J ω μ d mc ms cs sl (pc + 3) L' st σ Q) : J ω μ d mc ms cs sl pc L st σ Q := by
  subst hL
  intro p l e R s m args below meth c H locs ls C hr hl hf
  exact lv_iinc C.1 C.2.1 hd hl (k := j) (q_lk h) hv hi (q_stm i (.int v)) (fun ls hl => k p l e R s m args below meth c H locs ls C hr hl hf)
theorem j_dup {v : Value} (hd : decode μ.2.1 pc = .ok (.dup, 1)) (hv : v.category = 1) (k : J ω μ d mc ms cs sl (pc + 1) L (v :: v :: st) σ Q) : J ω μ d mc ms cs sl pc L (v :: st) σ Q :=
  fun p l e R s m args below meth c H locs ls C hr hl hf => lv_dup C.1 C.2.1 hd ((q_cat ω v).trans hv) (k p l e R s m args below meth c H locs ls C hr hl hf)
theorem j_pop {v : Value} (hd : decode μ.2.1 pc = .ok (.pop, 1)) (hv : v.category = 1) (k : J ω μ d mc ms cs sl (pc + 1) L st σ Q) : J ω μ d mc ms cs sl pc L (v :: st) σ Q :=
  fun p l e R s m args below meth c H locs ls C hr hl hf => lv_pop C.1 C.2.1 hd ((q_cat ω v).trans hv) (k p l e R s m args below meth c H locs ls C hr hl hf)
theorem j_dup_x1 {v w : Value} (hd : decode μ.2.1 pc = .ok (.dup_x1, 1)) (hv : v.category = 1) (hw : w.category = 1) (k : J ω μ d mc ms cs sl (pc + 1) L (v :: w :: v :: st) σ Q) : J ω μ d mc ms cs sl pc L (v :: w :: st) σ Q :=
  fun p l e R s m args below meth c H locs ls C hr hl hf => lv_dup_x1 C.1 C.2.1 hd ((q_cat ω v).trans hv) ((q_cat ω w).trans hw) (k p l e R s m args below meth c H locs ls C hr hl hf)
theorem j_dup_x2 {v w u : Value} (hd : decode μ.2.1 pc = .ok (.dup_x2, 1)) (hv : v.category = 1) (hw : w.category = 1) (hu : u.category = 1) (k : J ω μ d mc ms cs sl (pc + 1) L (v :: w :: u :: v :: st) σ Q) : J ω μ d mc ms cs sl pc L (v :: w :: u :: st) σ Q :=
  fun p l e R s m args below meth c H locs ls C hr hl hf => lv_dup_x2 C.1 C.2.1 hd ((q_cat ω v).trans hv) ((q_cat ω w).trans hw) ((q_cat ω u).trans hu) (k p l e R s m args below meth c H locs ls C hr hl hf)
theorem j_dup2 {v w : Value} (hd : decode μ.2.1 pc = .ok (.dup2, 1)) (hv : v.category = 1) (hw : w.category = 1) (k : J ω μ d mc ms cs sl (pc + 1) L (v :: w :: v :: w :: st) σ Q) : J ω μ d mc ms cs sl pc L (v :: w :: st) σ Q :=
  fun p l e R s m args below meth c H locs ls C hr hl hf => lv_dup2_11 C.1 C.2.1 hd ((q_cat ω v).trans hv) ((q_cat ω w).trans hw) (k p l e R s m args below meth c H locs ls C hr hl hf)
theorem j_if_eq {x : Int32} {off : Int} (tgt : Nat) (hd : decode μ.2.1 pc = .ok (.ifCond .eq off, 3)) (ht : (pc : Int) + off = (tgt : Int)) (kt : x = 0 → J ω μ d mc ms cs sl tgt L st σ Q) (kf : ¬ x = 0 → J ω μ d mc ms cs sl (pc + 3) L st σ Q) : J ω μ d mc ms cs sl pc L (.int x :: st) σ Q :=
  fun p l e R s m args below meth c H locs ls C hr hl hf => lv_if_eq C.1 C.2.1 hd ht (fun q => kt q p l e R s m args below meth c H locs ls C hr hl hf) (fun q => kf q p l e R s m args below meth c H locs ls C hr hl hf)
theorem j_if_ne {x : Int32} {off : Int} (tgt : Nat) (hd : decode μ.2.1 pc = .ok (.ifCond .ne off, 3)) (ht : (pc : Int) + off = (tgt : Int)) (kt : ¬ x = 0 → J ω μ d mc ms cs sl tgt L st σ Q) (kf : x = 0 → J ω μ d mc ms cs sl (pc + 3) L st σ Q) : J ω μ d mc ms cs sl pc L (.int x :: st) σ Q :=
  fun p l e R s m args below meth c H locs ls C hr hl hf => lv_if_ne C.1 C.2.1 hd ht (fun q => kt q p l e R s m args below meth c H locs ls C hr hl hf) (fun q => kf q p l e R s m args below meth c H locs ls C hr hl hf)
theorem j_if_lt {x : Int32} {off : Int} (tgt : Nat) (hd : decode μ.2.1 pc = .ok (.ifCond .lt off, 3)) (ht : (pc : Int) + off = (tgt : Int)) (kt : x < 0 → J ω μ d mc ms cs sl tgt L st σ Q) (kf : ¬ x < 0 → J ω μ d mc ms cs sl (pc + 3) L st σ Q) : J ω μ d mc ms cs sl pc L (.int x :: st) σ Q :=
  fun p l e R s m args below meth c H locs ls C hr hl hf => lv_if_lt C.1 C.2.1 hd ht (fun q => kt q p l e R s m args below meth c H locs ls C hr hl hf) (fun q => kf q p l e R s m args below meth c H locs ls C hr hl hf)
theorem j_if_ge {x : Int32} {off : Int} (tgt : Nat) (hd : decode μ.2.1 pc = .ok (.ifCond .ge off, 3)) (ht : (pc : Int) + off = (tgt : Int)) (kt : 0 ≤ x → J ω μ d mc ms cs sl tgt L st σ Q) (kf : ¬ 0 ≤ x → J ω μ d mc ms cs sl (pc + 3) L st σ Q) : J ω μ d mc ms cs sl pc L (.int x :: st) σ Q :=
  fun p l e R s m args below meth c H locs ls C hr hl hf => lv_if_ge C.1 C.2.1 hd ht (fun q => kt q p l e R s m args below meth c H locs ls C hr hl hf) (fun q => kf q p l e R s m args below meth c H locs ls C hr hl hf)
theorem j_if_gt {x : Int32} {off : Int} (tgt : Nat) (hd : decode μ.2.1 pc = .ok (.ifCond .gt off, 3)) (ht : (pc : Int) + off = (tgt : Int)) (kt : 0 < x → J ω μ d mc ms cs sl tgt L st σ Q) (kf : ¬ 0 < x → J ω μ d mc ms cs sl (pc + 3) L st σ Q) : J ω μ d mc ms cs sl pc L (.int x :: st) σ Q :=
  fun p l e R s m args below meth c H locs ls C hr hl hf => lv_if_gt C.1 C.2.1 hd ht (fun q => kt q p l e R s m args below meth c H locs ls C hr hl hf) (fun q => kf q p l e R s m args below meth c H locs ls C hr hl hf)
theorem j_if_le {x : Int32} {off : Int} (tgt : Nat) (hd : decode μ.2.1 pc = .ok (.ifCond .le off, 3)) (ht : (pc : Int) + off = (tgt : Int)) (kt : x ≤ 0 → J ω μ d mc ms cs sl tgt L st σ Q) (kf : ¬ x ≤ 0 → J ω μ d mc ms cs sl (pc + 3) L st σ Q) : J ω μ d mc ms cs sl pc L (.int x :: st) σ Q :=
  fun p l e R s m args below meth c H locs ls C hr hl hf => lv_if_le C.1 C.2.1 hd ht (fun q => kt q p l e R s m args below meth c H locs ls C hr hl hf) (fun q => kf q p l e R s m args below meth c H locs ls C hr hl hf)
theorem j_icmp_eq {x y : Int32} {off : Int} (tgt : Nat) (hd : decode μ.2.1 pc = .ok (.if_icmp .eq off, 3)) (ht : (pc : Int) + off = (tgt : Int)) (kt : x = y → J ω μ d mc ms cs sl tgt L st σ Q) (kf : ¬ x = y → J ω μ d mc ms cs sl (pc + 3) L st σ Q) : J ω μ d mc ms cs sl pc L (.int y :: .int x :: st) σ Q :=
  fun p l e R s m args below meth c H locs ls C hr hl hf => lv_icmp_eq C.1 C.2.1 hd ht (fun q => kt q p l e R s m args below meth c H locs ls C hr hl hf) (fun q => kf q p l e R s m args below meth c H locs ls C hr hl hf)
theorem j_icmp_ne {x y : Int32} {off : Int} (tgt : Nat) (hd : decode μ.2.1 pc = .ok (.if_icmp .ne off, 3)) (ht : (pc : Int) + off = (tgt : Int)) (kt : ¬ x = y → J ω μ d mc ms cs sl tgt L st σ Q) (kf : x = y → J ω μ d mc ms cs sl (pc + 3) L st σ Q) : J ω μ d mc ms cs sl pc L (.int y :: .int x :: st) σ Q :=
  fun p l e R s m args below meth c H locs ls C hr hl hf => lv_icmp_ne C.1 C.2.1 hd ht (fun q => kt q p l e R s m args below meth c H locs ls C hr hl hf) (fun q => kf q p l e R s m args below meth c H locs ls C hr hl hf)
theorem j_icmp_lt {x y : Int32} {off : Int} (tgt : Nat) (hd : decode μ.2.1 pc = .ok (.if_icmp .lt off, 3)) (ht : (pc : Int) + off = (tgt : Int)) (kt : x < y → J ω μ d mc ms cs sl tgt L st σ Q) (kf : ¬ x < y → J ω μ d mc ms cs sl (pc + 3) L st σ Q) : J ω μ d mc ms cs sl pc L (.int y :: .int x :: st) σ Q :=
  fun p l e R s m args below meth c H locs ls C hr hl hf => lv_icmp_lt C.1 C.2.1 hd ht (fun q => kt q p l e R s m args below meth c H locs ls C hr hl hf) (fun q => kf q p l e R s m args below meth c H locs ls C hr hl hf)
theorem j_icmp_ge {x y : Int32} {off : Int} (tgt : Nat) (hd : decode μ.2.1 pc = .ok (.if_icmp .ge off, 3)) (ht : (pc : Int) + off = (tgt : Int)) (kt : y ≤ x → J ω μ d mc ms cs sl tgt L st σ Q) (kf : ¬ y ≤ x → J ω μ d mc ms cs sl (pc + 3) L st σ Q) : J ω μ d mc ms cs sl pc L (.int y :: .int x :: st) σ Q :=
  fun p l e R s m args below meth c H locs ls C hr hl hf => lv_icmp_ge C.1 C.2.1 hd ht (fun q => kt q p l e R s m args below meth c H locs ls C hr hl hf) (fun q => kf q p l e R s m args below meth c H locs ls C hr hl hf)
theorem j_icmp_gt {x y : Int32} {off : Int} (tgt : Nat) (hd : decode μ.2.1 pc = .ok (.if_icmp .gt off, 3)) (ht : (pc : Int) + off = (tgt : Int)) (kt : y < x → J ω μ d mc ms cs sl tgt L st σ Q) (kf : ¬ y < x → J ω μ d mc ms cs sl (pc + 3) L st σ Q) : J ω μ d mc ms cs sl pc L (.int y :: .int x :: st) σ Q :=
  fun p l e R s m args below meth c H locs ls C hr hl hf => lv_icmp_gt C.1 C.2.1 hd ht (fun q => kt q p l e R s m args below meth c H locs ls C hr hl hf) (fun q => kf q p l e R s m args below meth c H locs ls C hr hl hf)
theorem j_icmp_le {x y : Int32} {off : Int} (tgt : Nat) (hd : decode μ.2.1 pc = .ok (.if_icmp .le off, 3)) (ht : (pc : Int) + off = (tgt : Int)) (kt : x ≤ y → J ω μ d mc ms cs sl tgt L st σ Q) (kf : ¬ x ≤ y → J ω μ d mc ms cs sl (pc + 3) L st σ Q) : J ω μ d mc ms cs sl pc L (.int y :: .int x :: st) σ Q :=
  fun p l e R s m args below meth c H locs ls C hr hl hf => lv_icmp_le C.1 C.2.1 hd ht (fun q => kt q p l e R s m args below meth c H locs ls C hr hl hf) (fun q => kf q p l e R s m args below meth c H locs ls C hr hl hf)
theorem j_goto {off : Int} (tgt : Nat) (hd : decode μ.2.1 pc = .ok (.goto off, 3)) (ht : (pc : Int) + off = (tgt : Int)) (k : J ω μ d mc ms cs sl tgt L st σ Q) : J ω μ d mc ms cs sl pc L st σ Q :=
  fun p l e R s m args below meth c H locs ls C hr hl hf => lv_goto C.1 C.2.1 hd ht (k p l e R s m args below meth c H locs ls C hr hl hf)
theorem j_topi {x : Int32} (k : ∀ y : Int32, y = x → J ω μ d mc ms cs sl pc L (.int y :: st) σ Q) : J ω μ d mc ms cs sl pc L (.int x :: st) σ Q := k x rfl
theorem j_topl {x : Int64} (k : ∀ y : Int64, y = x → J ω μ d mc ms cs sl pc L (.long y :: st) σ Q) : J ω μ d mc ms cs sl pc L (.long x :: st) σ Q := k x rfl
end Rows
/-! ROWS THAT TOUCH THE HEAP -/
def q_F (own : String) (idx ci k : Nat) (dsc : String) : Prop := ∃ (C : String) (T : u_T) (N : Nat), q_cls[ci]? = some (C, T, N) ∧ k < N ∧ (T k).2.2.1 = dsc ∧
  (Cond.fieldLink own idx (T k).1 (T k).2.1 (T k).2.2.1 ∈ tables_1 ∨ ∃ host, Cond.fieldLinkNest own idx (T k).1 (T k).2.1 (T k).2.2.1 host ∈ tables_1)
/-- .. and it may be written: not final, or in a constructor of the class that declares it -/
def q_G (own : String) (idx ci k : Nat) (dsc : String) (nm : String) : Prop := ∃ (C : String) (T : u_T) (N : Nat), q_cls[ci]? = some (C, T, N) ∧ k < N ∧ (T k).2.2.1 = dsc ∧
  Cond.fieldLink own idx (T k).1 (T k).2.1 (T k).2.2.1 ∈ tables_1 ∧ ((T k).2.2.2 = false ∨ ((T k).2.2.2 = true ∧ nm = "<init>" ∧ (T k).1 = own))
section HeapW
variable {p : Program} {l : Launch} {e : Env} {R : Room} {s : State} {m : MethodId} {args : Array Value} {below : List Frame} {meth : Method} {c : Code} {H : Heap} {locs : List Loc} {cells slots : Nat} {Qs : State → Prop}
variable {ω : q_W} {μ : q_M} {d mc ms pc : Nat} {σ : q_H} {ls : Array Slot} {rest : List Value}
theorem q_get (C0 : q_ctx ω μ d mc ms p l e R s m args meth c) (hr : q_rep ω σ H) {idx ci k o : Nat} {dsc : String} (hF : q_F μ.1.cls idx ci k dsc) (ht : q_t σ o = (1, ci)) (ho : 0 < o ∧ o ≤ q_n σ)
    (hd : decode μ.2.1 pc = .ok (.getfield idx, 3)) (kk : W p l e R s m args below meth c H locs cells slots Qs (F0 m (pc + 3) ls (q_fd ω σ dsc o k :: rest))) : W p l e R s m args below meth c H locs cells slots Qs (F0 m pc ls (.ref (q_ad ω o) :: rest)) := by
  obtain ⟨hx, hb, hml, hret, hlocks, hown, hname, hts, hexc, htr, hroom, hK, hbl, hsta⟩ := C0
  obtain ⟨C, T, N, hc, hk, hdsc, hlink⟩ := hF
  have hat := hr.1 o ho
  unfold q_at at hat
  rw [ht] at hat
  obtain ⟨r, h1, cell, q1, q2, q3, q4⟩ := hat
  have hr' : r = (C, T, N) := Option.some.inj (h1.symm.trans hc)
  subst hr'
  obtain ⟨hin, ty, hty, hnm, hdf⟩ := q_cls_ok ci C T N hc
  obtain ⟨hS, hfc, kC, hkC, hkind⟩ := hK.1 ci _ hc
  obtain ⟨cf, kf, fi, f, hi, hsl⟩ := hS k hk
  have hst := (u_facts hfc hkC (u_lays hts hin hk) hi).1
  have hv : cell.slots[f.slot]? = some (q_fd ω σ dsc o k) := by
    rw [hsl, q4 k hk, ← hdsc]
    rfl
  rcases hlink with hlink | ⟨host, hlink⟩
  · exact W.getf hx hb hown (hts _ (q_in hlink)) hi hst q1 (by rw [q3]; exact fun h => by cases h) hv rfl rfl hd kk
  · exact va_Wgetf hx hb hown (hts _ (q_in hlink)) hi hst q1 (by rw [q3]; exact fun h => by cases h) hv rfl rfl hd kk
theorem q_put (C0 : q_ctx ω μ d mc ms p l e R s m args meth c) (hr : q_rep ω σ H) {idx ci k o : Nat} {dsc : String} (hF : q_G μ.1.cls idx ci k dsc μ.1.name) (ht : q_t σ o = (1, ci)) (ho : 0 < o ∧ o ≤ q_n σ) {v : Value}
    (hv : ∀ ty, parseFieldDescriptor dsc = some ty → (q_k dsc = 2 → q_rt ty = true) → narrow ty v = v ∧ fits ty v = true) {σ' : q_H} (en : q_n σ' = q_n σ) (et : q_t σ' = q_t σ)
    (hs : ∀ j, j ≠ o → q_i σ' j = q_i σ j ∧ q_r σ' j = q_r σ j ∧ q_l σ' j = q_l σ j) (hf : ∀ j d', (j = k → d' = dsc) → q_fd ω σ' d' o j = if j = k then v else q_fd ω σ d' o j)
    (hd : decode μ.2.1 pc = .ok (.putfield idx, 3)) (kk : ∀ (H1 : Heap) (locs1 : List Loc), q_rep ω σ' H1 → (∀ q ∈ locs1, q ∈ locs ∨ ω.1 < q.base) → W p l e R s m args below meth c H1 locs1 cells slots Qs (F0 m (pc + 3) ls rest)) : W p l e R s m args below meth c H locs cells slots Qs (F0 m pc ls (v :: .ref (q_ad ω o) :: rest)) := by
  obtain ⟨hx, hb, hml, hret, hlocks, hown, hname, hts, hexc, htr, hroom, hK, hbl, hsta⟩ := C0
  obtain ⟨C, T, N, hc, hk, hdsc, hlink, hfin⟩ := hF
  have hat := hr.1 o ho
  unfold q_at at hat
  rw [ht] at hat
  obtain ⟨r, h1, cell, q1, q2, q3, q4⟩ := hat
  have hr' : r = (C, T, N) := Option.some.inj (h1.symm.trans hc)
  subst hr'
  obtain ⟨hin, ty, hty, hnm, hdf⟩ := q_cls_ok ci C T N hc
  have hap := va_apart (own := μ.1.cls) hts hin ty hty hnm hK hc
  obtain ⟨hS, hfc, kC, hkC, hkind⟩ := hK.1 ci _ hc
  obtain ⟨cf, kf, fi, f, hi, hsl⟩ := hS k hk
  have hlay := hts _ (hin _ (u_in_lay hk))
  unfold u_lay at hlay
  have hst := (u_facts hfc hkC (u_lays hts hin hk) hi).1
  obtain ⟨hn, hfit⟩ := hv (ty k) (by rw [← hdsc]; exact hty k hk) (by rw [← hdsc]; exact (hdf k hk).2)
  have fin : ∀ H1 : Heap, H1[q_ad ω o]? = some (cell.setSlot f.slot v) → H1.size = H.size → (∀ q, q ≠ q_ad ω o → H1[q]? = H[q]?) → q_rep ω σ' H1 := by
    intro H1 e1 e2 e3
    refine q_rep_upd hbl hr ho.1 ho.2 en (fun j hj => ⟨by rw [et], hs j hj⟩) ?_ e2 e3
    unfold q_at
    rw [et, ht]
    rw [hsl] at e1
    refine ⟨_, hc, t_OB.to (V := updV (q_fv ω σ T o) k v) ⟨_, e1, q2, q3, t_set q4 hap hk v⟩ (fun j _ => ?_)⟩
    show (if j = k then v else q_fv ω σ T o j) = q_fd ω σ' (T j).2.2.1 o j
    rw [hf j _ (fun e => by rw [e]; exact hdsc)]
    rfl
  have hlb : ω.1 < q_ad ω o := by
    rw [q_ad_new (Nat.lt_of_le_of_lt ho.2 hr.2.2.1)]
    omega
  have hlc : ∀ q ∈ locs ++ [⟨q_ad ω o, f.slot⟩], q ∈ locs ∨ ω.1 < q.base := by
    intro q hq
    rcases List.mem_append.mp hq with h | h
    · exact Or.inl h
    · rw [List.mem_singleton.mp h]; exact Or.inr hlb
  rcases hfin with hfin | ⟨hfin, hin2, hdecl⟩
  · rw [if_neg (by rw [hfin]; decide)] at hlay
    have h6 := u_store hfc hkC hkind hlay hi (hty k hk) hn hfit
    exact W.putK hx hb (f := f) ⟨hown, hts _ (q_in hlink), ⟨_, _, _, hi⟩, hst⟩ (by rw [q2]; exact h6) q1 q3 (by rw [hsl]; exact k2_hasslot (q4 k hk)) rfl rfl hd fun H' e1 e2 e3 => kk H' _ (fin H' e1 e2 e3) hlc
  · rw [if_pos hfin] at hlay
    have hcf : m.cls = cf := by
      obtain ⟨_, _, c', _, _, _, -, -, hf', -, -, -, hown2, -⟩ := Cond.laysFinal_spec hlay
      have e1 : c' = cf := by have := hi.symm.trans hf'; simp at this; exact this.1.symm
      rw [hdecl] at hown2
      rw [← e1]; exact Option.some.inj (hown.symm.trans hown2)
    have h6 := u_fits hfc hkC hkind (Or.inr hlay) hi (hty k hk) hn hfit
    exact W.putFinK hx hb hown (hts _ (q_in hlink)) hi hst hcf (hname.trans hin2) (by rw [q2]; exact h6) q1 q3 (by rw [hsl]; exact k2_hasslot (q4 k hk)) rfl rfl hd fun H' e1 e2 e3 => kk H' _ (fin H' e1 e2 e3) hlc
end HeapW
