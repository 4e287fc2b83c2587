/-! THE INTEGERS: values as zI e, e an integer; cells as z σ o k; writes as zs -/
def inR (a : Int) : Prop := -2147483648 ≤ a ∧ a < 2147483648
def zI (a : Int) : Int32 := Int32.ofInt a
theorem zI_toInt {a : Int} (h : inR a) : (zI a).toInt = a := Int32.toInt_ofInt_of_le h.1 h.2
theorem zI_of (x : Int32) : x = zI x.toInt := (Int32.ofInt_toInt x).symm
theorem zI_nat {e : Int} (h : 0 ≤ e) : zI e = nI e.toNat := by
  show Int32.ofInt e = Int32.ofNat e.toNat
  rw [← Int32.ofInt_eq_ofNat, Int.toNat_of_nonneg h]
theorem nI_zI (n : Nat) : nI n = zI (n : Int) := by rw [zI_nat (by omega)]; rfl
theorem inR_of (x : Int32) : inR x.toInt := ⟨Int32.le_toInt x, Int32.toInt_lt x⟩
theorem zI_eq {a b : Int} (ha : inR a) (hb : inR b) : zI a = zI b ↔ a = b :=
  ⟨fun h => by rw [← zI_toInt ha, ← zI_toInt hb, h], fun h => by rw [h]⟩
theorem zI_lt {a b : Int} (ha : inR a) (hb : inR b) : zI a < zI b ↔ a < b := by
  rw [Int32.lt_iff_toInt_lt, zI_toInt ha, zI_toInt hb]
theorem zI_le {a b : Int} (ha : inR a) (hb : inR b) : zI a ≤ zI b ↔ a ≤ b := by
  rw [Int32.le_iff_toInt_le, zI_toInt ha, zI_toInt hb]
theorem zI_0 : (0 : Int32) = zI 0 := by decide
def zAnd (a b : Int) : Int := (zI a &&& zI b).toInt
def zOr (a b : Int) : Int := (zI a ||| zI b).toInt
def zXor (a b : Int) : Int := (zI a ^^^ zI b).toInt
def zShl (a b : Int) : Int := (zI a <<< (zI b &&& 31)).toInt
def zShr (a b : Int) : Int := (zI a >>> (zI b &&& 31)).toInt
def zUshr (a b : Int) : Int := (((zI a).toUInt32 >>> ((zI b).toUInt32 &&& Int32.toUInt32 31)).toInt32).toInt
def zDiv (a b : Int) : Int := (zI a / zI b).toInt
def zRem (a b : Int) : Int := (zI a - zI a / zI b * zI b).toInt
def zB (a : Int) : Int := (zI a).toInt8.toInt32.toInt
def zL (x : Int64) : Int := x.toInt32.toInt
def z (σ : q_H) (o k : Nat) : Int := (q_i σ o k).toInt
theorem z_R (σ : q_H) (o k : Nat) : inR (z σ o k) := inR_of _
theorem q_z (σ : q_H) (o k : Nat) : q_i σ o k = zI (z σ o k) := zI_of _
def zs (σ : q_H) (o k : Nat) (e : Int) : q_H := q_seti σ o k (zI e)
def zt (σ : q_H) (o k : Nat) (x : Int64) : q_H := q_setl σ o k x
def zr (σ : q_H) (o k x : Nat) : q_H := q_setr σ o k x
theorem zs_E {σ : q_H} {o k : Nat} {e : Int} (h : q_E σ) : q_E (zs σ o k e) := q_E_i h
theorem zt_E {σ : q_H} {o k : Nat} {x : Int64} (h : q_E σ) : q_E (zt σ o k x) := q_E_l h
theorem zr_E {σ : q_H} {o k x : Nat} (h : q_E σ) (hd : q_dyn o k = true) : q_E (zr σ o k x) := q_E_r h hd
theorem qs_s {σ : q_H} {o k : Nat} {e : Int} : q_i (zs σ o k e) o k = zI e := q_si_s
theorem qs_o {σ : q_H} {o k a j : Nat} {e : Int} (h : a ≠ o) : q_i (zs σ o k e) a j = q_i σ a j := congrFun (q_si_o h) j
theorem qs_k {σ : q_H} {o k a j : Nat} {e : Int} (h : j ≠ k) : q_i (zs σ o k e) a j = q_i σ a j := by
  by_cases ha : a = o
  · subst ha; exact q_si_k h
  · exact qs_o ha
theorem qt_i {σ : q_H} {o k a j : Nat} {x : Int64} : q_i (zt σ o k x) a j = q_i σ a j := rfl
theorem qr_i {σ : q_H} {o k x a j : Nat} : q_i (zr σ o k x) a j = q_i σ a j := rfl
theorem zs_r {σ : q_H} {o k a j : Nat} {e : Int} : q_r (zs σ o k e) a j = q_r σ a j := rfl
theorem zt_r {σ : q_H} {o k a j : Nat} {x : Int64} : q_r (zt σ o k x) a j = q_r σ a j := rfl
theorem zs_l {σ : q_H} {o k a j : Nat} {e : Int} : q_l (zs σ o k e) a j = q_l σ a j := rfl
theorem zr_l {σ : q_H} {o k x a j : Nat} : q_l (zr σ o k x) a j = q_l σ a j := rfl
theorem zr_s {σ : q_H} {o k x : Nat} : q_r (zr σ o k x) o k = x := by
  show q_row (q_r σ) o (q_row (q_r σ o) k x) o k = _
  rw [q_row_s, q_row_s]
theorem zr_o {σ : q_H} {o k x a j : Nat} (h : a ≠ o) : q_r (zr σ o k x) a j = q_r σ a j := congrFun (q_row_n _ _ h) j
theorem zr_k {σ : q_H} {o k x a j : Nat} (h : j ≠ k) : q_r (zr σ o k x) a j = q_r σ a j := by
  by_cases ha : a = o
  · subst ha
    show q_row (q_r σ) a (q_row (q_r σ a) k x) a j = _
    rw [q_row_s, q_row_n _ _ h]
  · exact zr_o ha
theorem zt_s {σ : q_H} {o k : Nat} {x : Int64} : q_l (zt σ o k x) o k = x := q_sl_s
theorem zt_o {σ : q_H} {o k a j : Nat} {x : Int64} (h : a ≠ o) : q_l (zt σ o k x) a j = q_l σ a j := congrFun (q_row_n _ _ h) j
theorem zt_k {σ : q_H} {o k a j : Nat} {x : Int64} (h : j ≠ k) : q_l (zt σ o k x) a j = q_l σ a j := by
  by_cases ha : a = o
  · subst ha
    show q_row (q_l σ) a (q_row (q_l σ a) k x) a j = _
    rw [q_row_s, q_row_n _ _ h]
  · exact zt_o ha
theorem z_s {σ : q_H} {o k : Nat} {e : Int} (h : inR e) : z (zs σ o k e) o k = e := by unfold z; rw [qs_s, zI_toInt h]
theorem z_o {σ : q_H} {o k a j : Nat} {e : Int} (h : a ≠ o) : z (zs σ o k e) a j = z σ a j := by unfold z; rw [qs_o h]
theorem z_k {σ : q_H} {o k a j : Nat} {e : Int} (h : j ≠ k) : z (zs σ o k e) a j = z σ a j := by unfold z; rw [qs_k h]
theorem z_t {σ : q_H} {o k a j : Nat} {x : Int64} : z (zt σ o k x) a j = z σ a j := rfl
theorem z_r {σ : q_H} {o k x a j : Nat} : z (zr σ o k x) a j = z σ a j := rfl
theorem z_if {σ : q_H} {o k a j : Nat} {e : Int} (h : inR e) : z (zs σ o k e) a j = if a = o ∧ j = k then e else z σ a j := by
  split
  · next c => rw [c.1, c.2]; exact z_s h
  · next c =>
    by_cases ha : a = o
    · exact z_k (fun hj => c ⟨ha, hj⟩)
    · exact z_o ha
/-- how calls go on -/
def q_ki (k : Int → q_H → Prop) (r : q_R) (τ : q_H) : Prop := ∃ v : Int, inR v ∧ r = .inl (some (.int (zI v))) ∧ k v τ
def q_kl (k : Int64 → q_H → Prop) (r : q_R) (τ : q_H) : Prop := ∃ v : Int64, r = .inl (some (.long v)) ∧ k v τ
def q_kv (k : q_H → Prop) (r : q_R) (τ : q_H) : Prop := r = .inl none ∧ k τ
def q_kr (k : Nat → q_H → Prop) (r : q_R) (τ : q_H) : Prop := ∃ v : Nat, r = .inl (some (.ref v)) ∧ k v τ
/-- the same where it may throw: kx -/
def q_ox (K : q_R → q_H → Prop) (kx : Nat → q_H → Prop) (r : q_R) (τ : q_H) : Prop := K r τ ∨ ∃ x : Nat, r = .inr x ∧ kx x τ
theorem zsB (σ : q_H) (a k : Nat) (x : Int) : zs σ a k (zB x) = q_seti σ a k (zI x).toInt8.toInt32 := by
  unfold zs zB
  rw [← zI_of]
theorem lg_0 {x y : Int64} : lg_cmp x y = 0 ↔ x = y := by
  unfold lg_cmp
  constructor
  · intro h
    split at h
    · exact absurd h (by decide)
    · split at h
      · assumption
      · exact absurd h (by decide)
  · rintro rfl
    simp
theorem lg_gt {x y : Int64} : 0 < lg_cmp x y ↔ y < x := by
  unfold lg_cmp
  constructor
  · intro h
    split at h
    · assumption
    · split at h <;> exact absurd h (by decide)
  · intro h
    rw [if_pos h]
    decide
section ZetJ
variable {ω : q_W} {μ : q_M} {d mc ms cs sl pc : Nat} {L : List (Nat × Value)} {st : List Value} {σ : q_H} {Q : q_R → q_H → Prop}
theorem j_sel (is : List Nat) {L' : List (Nat × Value)} (h : is.map (fun i => L[i]?) = L'.map some) (kk : J ω μ d mc ms cs sl pc L' st σ Q) : J ω μ d mc ms cs sl pc L st σ Q := by
  intro p l e R s m args below meth c H locs ls C hr hl hf
  refine kk p l e R s m args below meth c H locs ls C hr ⟨hl.1, hl.2.1, fun q hq => hl.2.2 q ?_⟩ hf
  obtain ⟨a, ha, rfl⟩ := List.mem_map.mp hq
  have : some a ∈ L'.map some := List.mem_map.mpr ⟨a, ha, rfl⟩
  rw [← h] at this
  obtain ⟨i, _, hi⟩ := List.mem_map.mp this
  exact List.mem_map.mpr ⟨a, List.mem_of_getElem? hi, rfl⟩
theorem zj_iconst {n : Int} (hd : decode μ.2.1 pc = .ok (.iconst n, 1)) (k : J ω μ d mc ms cs sl (pc + 1) L (.int (zI n) :: st) σ Q) : J ω μ d mc ms cs sl pc L st σ Q := j_iconst hd rfl k
theorem zj_iadd {x y : Int} (e : Int) (he : x + y = e) (hd : decode μ.2.1 pc = .ok (.iadd, 1)) (k : J ω μ d mc ms cs sl (pc + 1) L (.int (zI e) :: st) σ Q) : J ω μ d mc ms cs sl pc L (.int (zI y) :: .int (zI x) :: st) σ Q :=
  j_iadd hd (j_topE (by subst he; exact (Int32.ofInt_add x y).symm) k)
theorem zj_isub {x y : Int} (e : Int) (he : x - y = e) (hd : decode μ.2.1 pc = .ok (.isub, 1)) (k : J ω μ d mc ms cs sl (pc + 1) L (.int (zI e) :: st) σ Q) : J ω μ d mc ms cs sl pc L (.int (zI y) :: .int (zI x) :: st) σ Q :=
  j_isub hd (j_topE (by subst he; exact (Int32.ofInt_sub x y).symm) k)
theorem zj_imul {x y : Int} (e : Int) (he : x * y = e) (hd : decode μ.2.1 pc = .ok (.imul, 1)) (k : J ω μ d mc ms cs sl (pc + 1) L (.int (zI e) :: st) σ Q) : J ω μ d mc ms cs sl pc L (.int (zI y) :: .int (zI x) :: st) σ Q :=
  j_imul hd (j_topE (by subst he; exact (Int32.ofInt_mul x y).symm) k)
theorem zj_ineg {x : Int} (hd : decode μ.2.1 pc = .ok (.ineg, 1)) (k : J ω μ d mc ms cs sl (pc + 1) L (.int (zI (-x)) :: st) σ Q) : J ω μ d mc ms cs sl pc L (.int (zI x) :: st) σ Q :=
  j_ineg hd (j_topE (by exact (Int32.ofInt_neg x).symm) k)
theorem zj_iand {x y : Int} (hd : decode μ.2.1 pc = .ok (.iand, 1)) (k : J ω μ d mc ms cs sl (pc + 1) L (.int (zI (zAnd x y)) :: st) σ Q) : J ω μ d mc ms cs sl pc L (.int (zI y) :: .int (zI x) :: st) σ Q := j_iand hd (j_topE (zI_of _) k)
theorem zj_ior {x y : Int} (hd : decode μ.2.1 pc = .ok (.ior, 1)) (k : J ω μ d mc ms cs sl (pc + 1) L (.int (zI (zOr x y)) :: st) σ Q) : J ω μ d mc ms cs sl pc L (.int (zI y) :: .int (zI x) :: st) σ Q := j_ior hd (j_topE (zI_of _) k)
theorem zj_ixor {x y : Int} (hd : decode μ.2.1 pc = .ok (.ixor, 1)) (k : J ω μ d mc ms cs sl (pc + 1) L (.int (zI (zXor x y)) :: st) σ Q) : J ω μ d mc ms cs sl pc L (.int (zI y) :: .int (zI x) :: st) σ Q := j_ixor hd (j_topE (zI_of _) k)
theorem zj_ishl {x y : Int} (hd : decode μ.2.1 pc = .ok (.ishl, 1)) (k : J ω μ d mc ms cs sl (pc + 1) L (.int (zI (zShl x y)) :: st) σ Q) : J ω μ d mc ms cs sl pc L (.int (zI y) :: .int (zI x) :: st) σ Q := j_ishl hd (j_topE (zI_of _) k)
theorem zj_ishr {x y : Int} (hd : decode μ.2.1 pc = .ok (.ishr, 1)) (k : J ω μ d mc ms cs sl (pc + 1) L (.int (zI (zShr x y)) :: st) σ Q) : J ω μ d mc ms cs sl pc L (.int (zI y) :: .int (zI x) :: st) σ Q := j_ishr hd (j_topE (zI_of _) k)
theorem zj_iushr {x y : Int} (hd : decode μ.2.1 pc = .ok (.iushr, 1)) (k : J ω μ d mc ms cs sl (pc + 1) L (.int (zI (zUshr x y)) :: st) σ Q) : J ω μ d mc ms cs sl pc L (.int (zI y) :: .int (zI x) :: st) σ Q := j_iushr hd (j_topE (zI_of _) k)
theorem zj_idiv {x y : Int} (hd : decode μ.2.1 pc = .ok (.idiv, 1)) (h : inR y ∧ y ≠ 0) (k : J ω μ d mc ms cs sl (pc + 1) L (.int (zI (zDiv x y)) :: st) σ Q) : J ω μ d mc ms cs sl pc L (.int (zI y) :: .int (zI x) :: st) σ Q :=
  j_idiv hd (fun e => h.2 ((zI_eq h.1 ⟨by decide, by decide⟩).mp (e.trans zI_0))) (j_topE (zI_of _) k)
theorem zj_irem {x y : Int} (hd : decode μ.2.1 pc = .ok (.irem, 1)) (h : inR y ∧ y ≠ 0) (k : J ω μ d mc ms cs sl (pc + 1) L (.int (zI (zRem x y)) :: st) σ Q) : J ω μ d mc ms cs sl pc L (.int (zI y) :: .int (zI x) :: st) σ Q :=
  j_irem hd (fun e => h.2 ((zI_eq h.1 ⟨by decide, by decide⟩).mp (e.trans zI_0))) (j_topE (zI_of _) k)
theorem zj_i2b {x : Int} (hd : decode μ.2.1 pc = .ok (.i2b, 1)) (k : J ω μ d mc ms cs sl (pc + 1) L (.int (zI (zB x)) :: st) σ Q) : J ω μ d mc ms cs sl pc L (.int (zI x) :: st) σ Q := j_i2b hd (j_topE (zI_of _) k)
theorem zj_l2i {x : Int64} (hd : decode μ.2.1 pc = .ok (.l2i, 1)) (k : J ω μ d mc ms cs sl (pc + 1) L (.int (zI (zL x)) :: st) σ Q) : J ω μ d mc ms cs sl pc L (.long x :: st) σ Q := j_l2i hd (j_topE (zI_of _) k)
theorem zj_iinc {i : Nat} {n x : Int} {L' : List (Nat × Value)} (e : Int) (hd : decode μ.2.1 pc = .ok (.iinc i n, 3)) (j : Nat) (h : L[j]? = some (i, .int (zI x))) (he : x + n = e) (hi : i < μ.2.2.1) (hL : q_st L i (.int (zI e)) = L') (k : J ω μ d mc ms cs sl (pc + 3) L' st σ Q) : J ω μ d mc ms cs sl pc L st σ Q :=
  j_iinc (v := zI e) hd j h (by subst he; exact (Int32.ofInt_add x n).symm) hi hL k
theorem zj_getI {idx ci k o : Nat} (v : Int) (hF : q_F μ.1.cls idx ci k "I") (hd : decode μ.2.1 pc = .ok (.getfield idx, 3)) (ht : q_t σ o = (1, ci)) (ho : 0 < o ∧ o ≤ q_n σ) (hv : q_i σ o k = zI v) (kk : J ω μ d mc ms cs sl (pc + 3) L (.int (zI v) :: st) σ Q) : J ω μ d mc ms cs sl pc L (.ref o :: st) σ Q := k_getI (zI v) hF hd ht ho hv kk
theorem zj_getZ {idx ci k o : Nat} (v : Int) (hF : q_F μ.1.cls idx ci k "Z") (hd : decode μ.2.1 pc = .ok (.getfield idx, 3)) (ht : q_t σ o = (1, ci)) (ho : 0 < o ∧ o ≤ q_n σ) (hv : q_i σ o k = zI v) (kk : J ω μ d mc ms cs sl (pc + 3) L (.int (zI v) :: st) σ Q) : J ω μ d mc ms cs sl pc L (.ref o :: st) σ Q := k_getZ (zI v) hF hd ht ho hv kk
theorem zj_putI {idx ci k o : Nat} {x : Int} (hF : q_G μ.1.cls idx ci k "I" μ.1.name) (hd : decode μ.2.1 pc = .ok (.putfield idx, 3)) (ht : q_t σ o = (1, ci)) (ho : 0 < o ∧ o ≤ q_n σ) (kk : J ω μ d mc ms cs sl (pc + 3) L st (zs σ o k x) Q) : J ω μ d mc ms cs sl pc L (.int (zI x) :: .ref o :: st) σ Q := j_putI hF hd ht ho kk
theorem zj_putZ {idx ci k o : Nat} {x : Int} (hF : q_G μ.1.cls idx ci k "Z" μ.1.name) (hd : decode μ.2.1 pc = .ok (.putfield idx, 3)) (ht : q_t σ o = (1, ci)) (ho : 0 < o ∧ o ≤ q_n σ) (hx : x = 0 ∨ x = 1) (kk : J ω μ d mc ms cs sl (pc + 3) L st (zs σ o k x) Q) : J ω μ d mc ms cs sl pc L (.int (zI x) :: .ref o :: st) σ Q := j_putZ hF hd ht ho (by rcases hx with rfl | rfl <;> decide) kk
theorem zj_putR {idx ci k o x : Nat} (hF : q_GR μ.1.cls idx ci k μ.1.name) (hd : decode μ.2.1 pc = .ok (.putfield idx, 3)) (ht : q_t σ o = (1, ci)) (ho : 0 < o ∧ o ≤ q_n σ) (h0 : 0 < x) (kk : J ω μ d mc ms cs sl (pc + 3) L st (zr σ o k x) Q) : J ω μ d mc ms cs sl pc L (.ref x :: .ref o :: st) σ Q := j_putR hF hd ht ho h0 kk
theorem zj_iald {a n : Nat} {e : Int} (v : Int) (hd : decode μ.2.1 pc = .ok (.iaload, 1)) (ht : q_t σ a = (2, n)) (ha : 0 < a ∧ a ≤ q_n σ) (h : 0 ≤ e ∧ e < (n : Int)) (hn : n < 2147483648) (hv : q_i σ a e.toNat = zI v) (kk : J ω μ d mc ms cs sl (pc + 1) L (.int (zI v) :: st) σ Q) : J ω μ d mc ms cs sl pc L (.int (zI e) :: .ref a :: st) σ Q :=
  j_iald e.toNat hd ht ha (zI_nat h.1) (by omega) hn (by rw [hv]; exact kk)
theorem zj_bald {a n : Nat} {e : Int} (v : Int) (hd : decode μ.2.1 pc = .ok (.baload, 1)) (ht : q_t σ a = (3, n)) (ha : 0 < a ∧ a ≤ q_n σ) (h : 0 ≤ e ∧ e < (n : Int)) (hn : n < 2147483648) (hv : q_i σ a e.toNat = zI v) (kk : J ω μ d mc ms cs sl (pc + 1) L (.int (zI v) :: st) σ Q) : J ω μ d mc ms cs sl pc L (.int (zI e) :: .ref a :: st) σ Q :=
  j_bald e.toNat hd ht ha (zI_nat h.1) (by omega) hn (by rw [hv]; exact kk)
theorem zj_lald {a n : Nat} {e : Int} (v : Int64) (hd : decode μ.2.1 pc = .ok (.laload, 1)) (ht : q_t σ a = (4, n)) (ha : 0 < a ∧ a ≤ q_n σ) (h : 0 ≤ e ∧ e < (n : Int)) (hn : n < 2147483648) (hv : q_l σ a e.toNat = v) (kk : J ω μ d mc ms cs sl (pc + 1) L (.long v :: st) σ Q) : J ω μ d mc ms cs sl pc L (.int (zI e) :: .ref a :: st) σ Q :=
  j_lald e.toNat hd ht ha (zI_nat h.1) (by omega) hn (by rw [hv]; exact kk)
theorem zj_iast {a n : Nat} {e x : Int} (hd : decode μ.2.1 pc = .ok (.iastore, 1)) (ht : q_t σ a = (2, n)) (ha : 0 < a ∧ a ≤ q_n σ) (h : 0 ≤ e ∧ e < (n : Int)) (hn : n < 2147483648) (kk : J ω μ d mc ms cs sl (pc + 1) L st (zs σ a e.toNat x) Q) : J ω μ d mc ms cs sl pc L (.int (zI x) :: .int (zI e) :: .ref a :: st) σ Q :=
  j_iast e.toNat hd ht ha (zI_nat h.1) (by omega) hn kk
theorem zj_bast {a n : Nat} {e x : Int} (hd : decode μ.2.1 pc = .ok (.bastore, 1)) (ht : q_t σ a = (3, n)) (ha : 0 < a ∧ a ≤ q_n σ) (h : 0 ≤ e ∧ e < (n : Int)) (hn : n < 2147483648) (kk : J ω μ d mc ms cs sl (pc + 1) L st (zs σ a e.toNat (zB x)) Q) : J ω μ d mc ms cs sl pc L (.int (zI x) :: .int (zI e) :: .ref a :: st) σ Q :=
  j_bast e.toNat hd ht ha (zI_nat h.1) (by omega) hn (zsB σ a e.toNat x ▸ kk)
theorem zj_last {a n : Nat} {e : Int} {x : Int64} (hd : decode μ.2.1 pc = .ok (.lastore, 1)) (ht : q_t σ a = (4, n)) (ha : 0 < a ∧ a ≤ q_n σ) (h : 0 ≤ e ∧ e < (n : Int)) (hn : n < 2147483648) (kk : J ω μ d mc ms cs sl (pc + 1) L st (zt σ a e.toNat x) Q) : J ω μ d mc ms cs sl pc L (.long x :: .int (zI e) :: .ref a :: st) σ Q :=
  j_last e.toNat hd ht ha (zI_nat h.1) (by omega) hn kk
theorem zj_alen {a n tg : Nat} (hd : decode μ.2.1 pc = .ok (.arraylength, 1)) (ht : q_t σ a = (tg, n)) (htg : tg = 2 ∨ tg = 3 ∨ tg = 4) (ha : 0 < a ∧ a ≤ q_n σ) (kk : J ω μ d mc ms cs sl (pc + 1) L (.int (zI (n : Int)) :: st) σ Q) : J ω μ d mc ms cs sl pc L (.ref a :: st) σ Q :=
  j_alen hd ht htg ha (by rw [nI_zI]; exact kk)
theorem zj_if_eq {x : Int} {off : Int} (tgt : Nat) (hd : decode μ.2.1 pc = .ok (.ifCond .eq off, 3)) (ht : (pc : Int) + off = (tgt : Int)) (hx : inR x) (kt : x = 0 → J ω μ d mc ms cs sl tgt L st σ Q) (kf : x ≠ 0 → J ω μ d mc ms cs sl (pc + 3) L st σ Q) : J ω μ d mc ms cs sl pc L (.int (zI x) :: st) σ Q :=
  j_if_eq tgt hd ht (fun h => kt ((zI_eq hx ⟨by decide, by decide⟩).mp (h.trans zI_0))) (fun h => kf (fun e => h (by rw [e]; rfl)))
theorem zj_if_ne {x : Int} {off : Int} (tgt : Nat) (hd : decode μ.2.1 pc = .ok (.ifCond .ne off, 3)) (ht : (pc : Int) + off = (tgt : Int)) (hx : inR x) (kt : x ≠ 0 → J ω μ d mc ms cs sl tgt L st σ Q) (kf : x = 0 → J ω μ d mc ms cs sl (pc + 3) L st σ Q) : J ω μ d mc ms cs sl pc L (.int (zI x) :: st) σ Q :=
  j_if_ne tgt hd ht (fun h => kt (fun e => h (by rw [e]; rfl))) (fun h => kf ((zI_eq hx ⟨by decide, by decide⟩).mp (h.trans zI_0)))
theorem zj_if_lt {x : Int} {off : Int} (tgt : Nat) (hd : decode μ.2.1 pc = .ok (.ifCond .lt off, 3)) (ht : (pc : Int) + off = (tgt : Int)) (hx : inR x) (kt : x < 0 → J ω μ d mc ms cs sl tgt L st σ Q) (kf : 0 ≤ x → J ω μ d mc ms cs sl (pc + 3) L st σ Q) : J ω μ d mc ms cs sl pc L (.int (zI x) :: st) σ Q :=
  j_if_lt tgt hd ht (fun h => kt ((zI_lt hx ⟨by decide, by decide⟩).mp (zI_0 ▸ h))) (fun h => kf (Int.not_lt.mp fun e => h (by rw [zI_0]; exact (zI_lt hx ⟨by decide, by decide⟩).mpr e)))
theorem zj_if_ge {x : Int} {off : Int} (tgt : Nat) (hd : decode μ.2.1 pc = .ok (.ifCond .ge off, 3)) (ht : (pc : Int) + off = (tgt : Int)) (hx : inR x) (kt : 0 ≤ x → J ω μ d mc ms cs sl tgt L st σ Q) (kf : x < 0 → J ω μ d mc ms cs sl (pc + 3) L st σ Q) : J ω μ d mc ms cs sl pc L (.int (zI x) :: st) σ Q :=
  j_if_ge tgt hd ht (fun h => kt ((zI_le ⟨by decide, by decide⟩ hx).mp (zI_0 ▸ h))) (fun h => kf (Int.not_le.mp fun e => h (by rw [zI_0]; exact (zI_le ⟨by decide, by decide⟩ hx).mpr e)))
theorem zj_if_gt {x : Int} {off : Int} (tgt : Nat) (hd : decode μ.2.1 pc = .ok (.ifCond .gt off, 3)) (ht : (pc : Int) + off = (tgt : Int)) (hx : inR x) (kt : 0 < x → J ω μ d mc ms cs sl tgt L st σ Q) (kf : x ≤ 0 → J ω μ d mc ms cs sl (pc + 3) L st σ Q) : J ω μ d mc ms cs sl pc L (.int (zI x) :: st) σ Q :=
  j_if_gt tgt hd ht (fun h => kt ((zI_lt ⟨by decide, by decide⟩ hx).mp (zI_0 ▸ h))) (fun h => kf (Int.not_lt.mp fun e => h (by rw [zI_0]; exact (zI_lt ⟨by decide, by decide⟩ hx).mpr e)))
theorem zj_if_le {x : Int} {off : Int} (tgt : Nat) (hd : decode μ.2.1 pc = .ok (.ifCond .le off, 3)) (ht : (pc : Int) + off = (tgt : Int)) (hx : inR x) (kt : x ≤ 0 → J ω μ d mc ms cs sl tgt L st σ Q) (kf : 0 < x → J ω μ d mc ms cs sl (pc + 3) L st σ Q) : J ω μ d mc ms cs sl pc L (.int (zI x) :: st) σ Q :=
  j_if_le tgt hd ht (fun h => kt ((zI_le hx ⟨by decide, by decide⟩).mp (zI_0 ▸ h))) (fun h => kf (Int.not_le.mp fun e => h (by rw [zI_0]; exact (zI_le hx ⟨by decide, by decide⟩).mpr e)))
theorem zj_icmp_eq {x y : Int} {off : Int} (tgt : Nat) (hd : decode μ.2.1 pc = .ok (.if_icmp .eq off, 3)) (ht : (pc : Int) + off = (tgt : Int)) (hx : inR x) (hy : inR y) (kt : x = y → J ω μ d mc ms cs sl tgt L st σ Q) (kf : x ≠ y → J ω μ d mc ms cs sl (pc + 3) L st σ Q) : J ω μ d mc ms cs sl pc L (.int (zI y) :: .int (zI x) :: st) σ Q :=
  j_icmp_eq tgt hd ht (fun h => kt ((zI_eq hx hy).mp h)) (fun h => kf (fun e => h (by rw [e])))
theorem zj_icmp_ne {x y : Int} {off : Int} (tgt : Nat) (hd : decode μ.2.1 pc = .ok (.if_icmp .ne off, 3)) (ht : (pc : Int) + off = (tgt : Int)) (hx : inR x) (hy : inR y) (kt : x ≠ y → J ω μ d mc ms cs sl tgt L st σ Q) (kf : x = y → J ω μ d mc ms cs sl (pc + 3) L st σ Q) : J ω μ d mc ms cs sl pc L (.int (zI y) :: .int (zI x) :: st) σ Q :=
  j_icmp_ne tgt hd ht (fun h => kt (fun e => h (by rw [e]))) (fun h => kf ((zI_eq hx hy).mp h))
theorem zj_icmp_lt {x y : Int} {off : Int} (tgt : Nat) (hd : decode μ.2.1 pc = .ok (.if_icmp .lt off, 3)) (ht : (pc : Int) + off = (tgt : Int)) (hx : inR x) (hy : inR y) (kt : x < y → J ω μ d mc ms cs sl tgt L st σ Q) (kf : y ≤ x → J ω μ d mc ms cs sl (pc + 3) L st σ Q) : J ω μ d mc ms cs sl pc L (.int (zI y) :: .int (zI x) :: st) σ Q :=
  j_icmp_lt tgt hd ht (fun h => kt ((zI_lt hx hy).mp h)) (fun h => kf (Int.not_lt.mp fun e => h ((zI_lt hx hy).mpr e)))
theorem zj_icmp_ge {x y : Int} {off : Int} (tgt : Nat) (hd : decode μ.2.1 pc = .ok (.if_icmp .ge off, 3)) (ht : (pc : Int) + off = (tgt : Int)) (hx : inR x) (hy : inR y) (kt : y ≤ x → J ω μ d mc ms cs sl tgt L st σ Q) (kf : x < y → J ω μ d mc ms cs sl (pc + 3) L st σ Q) : J ω μ d mc ms cs sl pc L (.int (zI y) :: .int (zI x) :: st) σ Q :=
  j_icmp_ge tgt hd ht (fun h => kt ((zI_le hy hx).mp h)) (fun h => kf (Int.not_le.mp fun e => h ((zI_le hy hx).mpr e)))
theorem zj_icmp_gt {x y : Int} {off : Int} (tgt : Nat) (hd : decode μ.2.1 pc = .ok (.if_icmp .gt off, 3)) (ht : (pc : Int) + off = (tgt : Int)) (hx : inR x) (hy : inR y) (kt : y < x → J ω μ d mc ms cs sl tgt L st σ Q) (kf : x ≤ y → J ω μ d mc ms cs sl (pc + 3) L st σ Q) : J ω μ d mc ms cs sl pc L (.int (zI y) :: .int (zI x) :: st) σ Q :=
  j_icmp_gt tgt hd ht (fun h => kt ((zI_lt hy hx).mp h)) (fun h => kf (Int.not_lt.mp fun e => h ((zI_lt hy hx).mpr e)))
theorem zj_icmp_le {x y : Int} {off : Int} (tgt : Nat) (hd : decode μ.2.1 pc = .ok (.if_icmp .le off, 3)) (ht : (pc : Int) + off = (tgt : Int)) (hx : inR x) (hy : inR y) (kt : x ≤ y → J ω μ d mc ms cs sl tgt L st σ Q) (kf : y < x → J ω μ d mc ms cs sl (pc + 3) L st σ Q) : J ω μ d mc ms cs sl pc L (.int (zI y) :: .int (zI x) :: st) σ Q :=
  j_icmp_le tgt hd ht (fun h => kt ((zI_le hx hy).mp h)) (fun h => kf (Int.not_le.mp fun e => h ((zI_le hx hy).mpr e)))
theorem zj_iret {v : Int} (hd : decode μ.2.1 pc = .ok (.ireturn, 1)) (hr0 : μ.2.2.2.1 = some .int) (hc : cs ≤ mc) (hs : sl ≤ ms) (hQ : Q (.inl (some (.int (zI v)))) σ) : J ω μ d mc ms cs sl pc L [.int (zI v)] σ Q := j_iret hd hr0 hc hs hQ
theorem zj_zret {v : Int} (hd : decode μ.2.1 pc = .ok (.ireturn, 1)) (hr0 : μ.2.2.2.1 = some .boolean) (hv : v = 0 ∨ v = 1) (hc : cs ≤ mc) (hs : sl ≤ ms) (hQ : Q (.inl (some (.int (zI v)))) σ) : J ω μ d mc ms cs sl pc L [.int (zI v)] σ Q := j_zret hd hr0 (by rcases hv with rfl | rfl <;> decide) hc hs hQ
theorem zj_lookd {x : Int} {dflt : Int} {ps : Array (Int × Int)} {len : Nat} (tgt : Nat) (hd : decode μ.2.1 pc = .ok (.lookupswitch dflt ps, len)) (hp : (ps.toList.zip (ps.toList.drop 1)).all (fun (a, next) => a.1 < next.1) = true) (hx : inR x) (h : ∀ q ∈ ps.toList, q.1 ≠ x) (ht : (pc : Int) + dflt = (tgt : Int)) (kk : J ω μ d mc ms cs sl tgt L st σ Q) : J ω μ d mc ms cs sl pc L (.int (zI x) :: st) σ Q := by
  refine j_lookup tgt hd hp (off := dflt) ?_ ht kk
  rw [zI_toInt hx]
  generalize ps.toList = l at h
  induction l with
  | nil => rfl
  | cons a l ih =>
    obtain ⟨a1, a2⟩ := a
    simp only [List.mem_cons, forall_eq_or_imp] at h
    rw [Op.lookupswitch.offset_cons, if_neg h.1]
    exact ih h.2
theorem zj_lcmp_eq {x y : Int64} {off : Int} (tgt : Nat) (hd : decode μ.2.1 pc = .ok (.lcmp, 1)) (hd2 : decode μ.2.1 (pc + 1) = .ok (.ifCond .eq off, 3)) (ht : ((pc + 1 : Nat) : Int) + off = (tgt : Int)) (kt : x = y → J ω μ d mc ms cs sl tgt L st σ Q) (kf : x ≠ y → J ω μ d mc ms cs sl (pc + 1 + 3) L st σ Q) : J ω μ d mc ms cs sl pc L (.long y :: .long x :: st) σ Q :=
  j_lcmp hd (j_if_eq tgt hd2 ht (fun h => kt (lg_0.mp h)) (fun h => kf (fun e => h (lg_0.mpr e))))
theorem zj_lcmp_ne {x y : Int64} {off : Int} (tgt : Nat) (hd : decode μ.2.1 pc = .ok (.lcmp, 1)) (hd2 : decode μ.2.1 (pc + 1) = .ok (.ifCond .ne off, 3)) (ht : ((pc + 1 : Nat) : Int) + off = (tgt : Int)) (kt : x ≠ y → J ω μ d mc ms cs sl tgt L st σ Q) (kf : x = y → J ω μ d mc ms cs sl (pc + 1 + 3) L st σ Q) : J ω μ d mc ms cs sl pc L (.long y :: .long x :: st) σ Q :=
  j_lcmp hd (j_if_ne tgt hd2 ht (fun h => kt (fun e => h (lg_0.mpr e))) (fun h => kf (lg_0.mp h)))
theorem zj_lcmp_gt {x y : Int64} {off : Int} (tgt : Nat) (hd : decode μ.2.1 pc = .ok (.lcmp, 1)) (hd2 : decode μ.2.1 (pc + 1) = .ok (.ifCond .gt off, 3)) (ht : ((pc + 1 : Nat) : Int) + off = (tgt : Int)) (kt : y < x → J ω μ d mc ms cs sl tgt L st σ Q) (kf : ¬ y < x → J ω μ d mc ms cs sl (pc + 1 + 3) L st σ Q) : J ω μ d mc ms cs sl pc L (.long y :: .long x :: st) σ Q :=
  j_lcmp hd (j_if_gt tgt hd2 ht (fun h => kt (lg_gt.mp h)) (fun h => kf (fun e => h (lg_gt.mpr e))))
theorem zj_lcmp_le {x y : Int64} {off : Int} (tgt : Nat) (hd : decode μ.2.1 pc = .ok (.lcmp, 1)) (hd2 : decode μ.2.1 (pc + 1) = .ok (.ifCond .le off, 3)) (ht : ((pc + 1 : Nat) : Int) + off = (tgt : Int)) (kt : ¬ y < x → J ω μ d mc ms cs sl tgt L st σ Q) (kf : y < x → J ω μ d mc ms cs sl (pc + 1 + 3) L st σ Q) : J ω μ d mc ms cs sl pc L (.long y :: .long x :: st) σ Q :=
  j_lcmp hd (j_if_le tgt hd2 ht (fun h => kt (fun e => absurd (lg_gt.mpr e) (Int32.not_lt.mpr h))) (fun h => kf (lg_gt.mp (Int32.not_le.mp h))))
end ZetJ
