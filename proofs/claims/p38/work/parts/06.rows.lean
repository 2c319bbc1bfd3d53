section JR
variable {M : jMe} {R : Room} {nw : List Nat} {Z : jFin} {pc pc' : Nat} {L L' : List (Nat × Value)} {st st' : List Value} {h h' : jH} {nc ns nc' ns' : Nat}
/-- rows that touch the stack and read the locals alone -/
theorem J.of (k : J M R nw Z pc' L st' h nc ns)
    (f : ∀ (p : Program) (l : Launch) (e : Env) (s : State) (m : MethodId) (args : Array Value) (below : List Frame) (meth : Method) (c : Code) (H : Heap) (locs : List Loc) (ls : Array Slot) (ad : Nat → Nat) (Q : State → Prop), p.tables.exec = Jvm.exec → c.code = M.2.1 → lv_has ls M.2.2.1 (jLs ad L) →
      W p l e R s m args below meth c H locs nc ns Q (F0 m pc' ls (st'.map (jv ad))) → W p l e R s m args below meth c H locs nc ns Q (F0 m pc ls (st.map (jv ad)))) : J M R nw Z pc L st h nc ns :=
  fun p l e s m args below meth c H locs ls D cy ad ad0 bs hX => f p l e s m args below meth c H locs ls ad _ hX.1.1 hX.1.2.1 hX.2.2.2.2.2.2.2.1 (k p l e s m args below meth c H locs ls D cy ad ad0 bs hX)
theorem j_oadd (x y : Int) : Int32.ofInt (x + y) = Int32.ofInt x + Int32.ofInt y := Int32.ofInt_add ..
theorem j_osub (x y : Int) : Int32.ofInt (x - y) = Int32.ofInt x - Int32.ofInt y := Int32.ofInt_sub ..
theorem j_omul (x y : Int) : Int32.ofInt (x * y) = Int32.ofInt x * Int32.ofInt y := Int32.ofInt_mul ..
theorem j_oneg (x : Int) : Int32.ofInt (-x) = -Int32.ofInt x := Int32.ofInt_neg ..
theorem j_toI {x : Int} (h : -2147483648 ≤ x ∧ x ≤ 2147483647) : (Int32.ofInt x).toInt = x := Int32.toInt_ofInt_of_le (by omega) (by omega)
theorem j_lt {x y : Int} (hr : -2147483648 ≤ x ∧ x ≤ 2147483647 ∧ -2147483648 ≤ y ∧ y ≤ 2147483647) : Int32.ofInt x < Int32.ofInt y ↔ x < y := by
  rw [Int32.lt_iff_toInt_lt, j_toI ⟨hr.1, hr.2.1⟩, j_toI hr.2.2]
theorem j_le {x y : Int} (hr : -2147483648 ≤ x ∧ x ≤ 2147483647 ∧ -2147483648 ≤ y ∧ y ≤ 2147483647) : Int32.ofInt x ≤ Int32.ofInt y ↔ x ≤ y := by
  rw [Int32.le_iff_toInt_le, j_toI ⟨hr.1, hr.2.1⟩, j_toI hr.2.2]
theorem j_eq {x y : Int} (hr : -2147483648 ≤ x ∧ x ≤ 2147483647 ∧ -2147483648 ≤ y ∧ y ≤ 2147483647) : Int32.ofInt x = Int32.ofInt y ↔ x = y := by
  rw [← Int32.toInt_inj, j_toI ⟨hr.1, hr.2.1⟩, j_toI hr.2.2]
theorem j_z : (0 : Int32) = Int32.ofInt 0 := rfl
theorem j_nat {x : Int} (h0 : 0 ≤ x) (h1 : x ≤ 2147483647) : (Int32.ofInt x).toNatClampNeg = x.toNat := by
  show ((Int32.ofInt x).toInt).toNat = _
  rw [j_toI ⟨by omega, h1⟩]
theorem j_vin {x : Int} {n : Nat} (h : 0 ≤ x ∧ x < n) (hn : n ≤ 2147483647) : vp_in (Int32.ofInt x) n := by
  rw [vp_in_iff, j_toI (by omega)]
  exact h
-- constants
theorem j_iconst {n : Int} (hd : decode M.2.1 pc = .ok (.iconst n, 1)) (k : J M R nw Z (pc + 1) L (iv n :: st) h nc ns) : J M R nw Z pc L st h nc ns :=
  k.of fun _ _ _ _ _ _ _ _ _ _ _ _ _ _ hx hb _ w => lv_iconst hx hb hd rfl w
theorem j_bipush {n : Int} (hd : decode M.2.1 pc = .ok (.bipush n, 2)) (hn : (Int8.ofInt n).toInt32 = Int32.ofInt n) (k : J M R nw Z (pc + 2) L (iv n :: st) h nc ns) : J M R nw Z pc L st h nc ns :=
  k.of fun _ _ _ _ _ _ _ _ _ _ _ _ _ _ hx hb _ w => lv_bipush hx hb hd hn w
theorem j_sipush {n : Int} (hd : decode M.2.1 pc = .ok (.sipush n, 3)) (hn : (Int16.ofInt n).toInt32 = Int32.ofInt n) (k : J M R nw Z (pc + 3) L (iv n :: st) h nc ns) : J M R nw Z pc L st h nc ns :=
  k.of fun _ _ _ _ _ _ _ _ _ _ _ _ _ _ hx hb _ w => lv_sipush hx hb hd hn w
theorem j_aconst_null (hd : decode M.2.1 pc = .ok (.aconst_null, 1)) (k : J M R nw Z (pc + 1) L (.null :: st) h nc ns) : J M R nw Z pc L st h nc ns :=
  k.of fun _ _ _ _ _ _ _ _ _ _ _ _ _ _ hx hb _ w => lv_null hx hb hd w
-- locals
theorem jL_mem {i : Nat} {v : Value} : ∀ {l : List (Nat × Value)}, l.lookup i = some v → (i, v) ∈ l
  | [], hh => by cases hh
  | (j, w) :: t, hh => by
    rw [List.lookup_cons] at hh
    by_cases hj : i == j
    · rw [hj] at hh
      cases hh
      have : i = j := by simpa using hj
      rw [this]
      exact List.mem_cons_self
    · rw [Bool.not_eq_true] at hj
      rw [hj] at hh
      exact List.mem_cons_of_mem _ (jL_mem hh)
theorem jL_at {ls : Array Slot} {n : Nat} {ad : Nat → Nat} {i : Nat} {v : Value} (hl : lv_has ls n (jLs ad L)) (hv : L.lookup i = some v) : ls[i]? = some (.val (jv ad v)) :=
  hl.2.2 (i, jv ad v) (List.mem_map.mpr ⟨(i, v), jL_mem hv, rfl⟩)
theorem j_iload_n {k4 : Fin 4} {i : Nat} {x : Int} (hd : decode M.2.1 pc = .ok (.iload_n k4, 1)) (hi : (k4 : Nat) = i) (hv : L.lookup i = some (iv x)) (k : J M R nw Z (pc + 1) L (iv x :: st) h nc ns) : J M R nw Z pc L st h nc ns :=
  k.of fun _ _ _ _ _ _ _ _ _ _ _ _ _ _ hx hb hl w => lv_iload_n hx hb hd hi (jL_at hl hv) w
theorem j_iload {i : Nat} {x : Int} (hd : decode M.2.1 pc = .ok (.iload i, 2)) (hv : L.lookup i = some (iv x)) (k : J M R nw Z (pc + 2) L (iv x :: st) h nc ns) : J M R nw Z pc L st h nc ns :=
  k.of fun _ _ _ _ _ _ _ _ _ _ _ _ _ _ hx hb hl w => lv_iload hx hb hd (jL_at hl hv) w
theorem j_aload_n {k4 : Fin 4} {i : Nat} {x : Nat} (hd : decode M.2.1 pc = .ok (.aload_n k4, 1)) (hi : (k4 : Nat) = i) (hv : L.lookup i = some (.ref x)) (k : J M R nw Z (pc + 1) L (.ref x :: st) h nc ns) : J M R nw Z pc L st h nc ns :=
  k.of fun _ _ _ _ _ _ _ _ _ _ _ _ _ _ hx hb hl w => lv_aload_n hx hb hd hi (jL_at hl hv) w
theorem j_aload {i : Nat} {x : Nat} (hd : decode M.2.1 pc = .ok (.aload i, 2)) (hv : L.lookup i = some (.ref x)) (k : J M R nw Z (pc + 2) L (.ref x :: st) h nc ns) : J M R nw Z pc L st h nc ns :=
  k.of fun _ _ _ _ _ _ _ _ _ _ _ _ _ _ hx hb hl w => lv_aload hx hb hd (jL_at hl hv) w
theorem j_aload_nN {k4 : Fin 4} {i : Nat} (hd : decode M.2.1 pc = .ok (.aload_n k4, 1)) (hi : (k4 : Nat) = i) (hv : L.lookup i = some .null) (k : J M R nw Z (pc + 1) L (.null :: st) h nc ns) : J M R nw Z pc L st h nc ns :=
  k.of fun _ _ _ _ _ _ _ _ _ _ _ _ _ _ hx hb hl w => lv_aload_nN hx hb hd hi (jL_at hl hv) w
theorem j_dload {i : Nat} {x : UInt64} (hd : decode M.2.1 pc = .ok (.dload i, 2)) (hv : L.lookup i = some (.double x)) (k : J M R nw Z (pc + 2) L (.double x :: st) h nc ns) : J M R nw Z pc L st h nc ns :=
  k.of fun _ _ _ _ _ _ _ _ _ _ _ _ _ _ hx hb hl w => lv_dload hx hb hd (jL_at hl hv) w
theorem j_fload {i : Nat} {x : UInt32} (hd : decode M.2.1 pc = .ok (.fload i, 2)) (hv : L.lookup i = some (.float x)) (k : J M R nw Z (pc + 2) L (.float x :: st) h nc ns) : J M R nw Z pc L st h nc ns :=
  k.of fun _ _ _ _ _ _ _ _ _ _ _ _ _ _ hx hb hl w => lv_fload hx hb hd (jL_at hl hv) w
def jins (i : Nat) (v : Value) : List (Nat × Value) → List (Nat × Value)
  | [] => [(i, v)]
  | q :: t => bif Nat.blt i q.1 then (i, v) :: q :: t else q :: jins i v t
def jst (i : Nat) (v : Value) (l : List (Nat × Value)) : List (Nat × Value) := jins i v (l.filter fun q => !(q.1 == i) && !(q.1 + 1 == i && q.2.category == 2))
def jst2 (i : Nat) (v : Value) (l : List (Nat × Value)) : List (Nat × Value) := jins i v (l.filter fun q => !(q.1 == i) && (!(q.1 == i + 1) && !(q.1 + 1 == i && q.2.category == 2)))
theorem jins_mem {i : Nat} {v : Value} {q : Nat × Value} : ∀ {l : List (Nat × Value)}, q ∈ jins i v l → q = (i, v) ∨ q ∈ l
  | [], hq => Or.inl (List.mem_singleton.mp hq)
  | x :: t, hq => by
    unfold jins at hq
    cases hb : Nat.blt i x.1 with
    | true =>
      rw [hb] at hq
      rcases List.mem_cons.mp hq with h1 | h1
      · exact Or.inl h1
      · exact Or.inr h1
    | false =>
      rw [hb] at hq
      rcases List.mem_cons.mp hq with h1 | h1
      · exact Or.inr (h1 ▸ List.mem_cons_self)
      · rcases jins_mem h1 with h2 | h2
        · exact Or.inl h2
        · exact Or.inr (List.mem_cons_of_mem _ h2)
theorem jLs_st {ls : Array Slot} {n i : Nat} {v : Value} {ad : Nat → Nat} (hh : lv_has ls n ((i, jv ad v) :: (jLs ad L).filter fun q => !(q.1 == i) && !(q.1 + 1 == i && q.2.category == 2))) (he : jst i v L = L') : lv_has ls n (jLs ad L') := by
  subst he
  refine ⟨hh.1, hh.2.1, fun q hq => hh.2.2 q ?_⟩
  obtain ⟨q0, h0, rfl⟩ := List.mem_map.mp hq
  rcases jins_mem h0 with h1 | h1
  · rw [h1]; exact List.mem_cons_self
  · obtain ⟨h2, h3⟩ := List.mem_filter.mp h1
    refine List.mem_cons_of_mem _ (List.mem_filter.mpr ⟨List.mem_map.mpr ⟨q0, h2, rfl⟩, ?_⟩)
    simpa [jv_cat] using h3
theorem jLs_st2 {ls : Array Slot} {n i : Nat} {v : Value} {ad : Nat → Nat} (hh : lv_has ls n ((i, jv ad v) :: (jLs ad L).filter fun q => !(q.1 == i) && (!(q.1 == i + 1) && !(q.1 + 1 == i && q.2.category == 2)))) (he : jst2 i v L = L') : lv_has ls n (jLs ad L') := by
  subst he
  refine ⟨hh.1, hh.2.1, fun q hq => hh.2.2 q ?_⟩
  obtain ⟨q0, h0, rfl⟩ := List.mem_map.mp hq
  rcases jins_mem h0 with h1 | h1
  · rw [h1]; exact List.mem_cons_self
  · obtain ⟨h2, h3⟩ := List.mem_filter.mp h1
    refine List.mem_cons_of_mem _ (List.mem_filter.mpr ⟨List.mem_map.mpr ⟨q0, h2, rfl⟩, ?_⟩)
    simpa [jv_cat] using h3
/-- rows that write a local -/
theorem J.ofL (k : J M R nw Z pc' L' st' h nc ns)
    (f : ∀ (p : Program) (l : Launch) (e : Env) (s : State) (m : MethodId) (args : Array Value) (below : List Frame) (meth : Method) (c : Code) (H : Heap) (locs : List Loc) (ls : Array Slot) (ad : Nat → Nat) (Q : State → Prop), p.tables.exec = Jvm.exec → c.code = M.2.1 → lv_has ls M.2.2.1 (jLs ad L) →
      (∀ ls' : Array Slot, lv_has ls' M.2.2.1 (jLs ad L') → W p l e R s m args below meth c H locs nc ns Q (F0 m pc' ls' (st'.map (jv ad)))) → W p l e R s m args below meth c H locs nc ns Q (F0 m pc ls (st.map (jv ad)))) : J M R nw Z pc L st h nc ns :=
  fun p l e s m args below meth c H locs ls D cy ad ad0 bs hX => f p l e s m args below meth c H locs ls ad _ hX.1.1 hX.1.2.1 hX.2.2.2.2.2.2.2.1 (fun ls' hl' => k p l e s m args below meth c H locs ls' D cy ad ad0 bs ⟨hX.1, hX.2.1, hX.2.2.1, hX.2.2.2.1, hX.2.2.2.2.1, hX.2.2.2.2.2.1, hX.2.2.2.2.2.2.1, hl', hX.2.2.2.2.2.2.2.2⟩)
theorem j_istore_n {k4 : Fin 4} {i : Nat} {x : Int} (hd : decode M.2.1 pc = .ok (.istore_n k4, 1)) (hi : (k4 : Nat) = i) (hn : i < M.2.2.1) (he : jst i (iv x) L = L') (k : J M R nw Z (pc + 1) L' st h nc ns) : J M R nw Z pc L (iv x :: st) h nc ns :=
  k.ofL fun _ _ _ _ _ _ _ _ _ _ _ _ _ _ hx hb hl w => lv_istore_n hx hb hd hi hl hn rfl fun ls' hl' => w ls' (jLs_st (v := iv x) hl' he)
theorem j_istore {i : Nat} {x : Int} (hd : decode M.2.1 pc = .ok (.istore i, 2)) (hn : i < M.2.2.1) (he : jst i (iv x) L = L') (k : J M R nw Z (pc + 2) L' st h nc ns) : J M R nw Z pc L (iv x :: st) h nc ns :=
  k.ofL fun _ _ _ _ _ _ _ _ _ _ _ _ _ _ hx hb hl w => lv_istore hx hb hd hl hn rfl fun ls' hl' => w ls' (jLs_st (v := iv x) hl' he)
theorem j_astore_n {k4 : Fin 4} {i x : Nat} (hd : decode M.2.1 pc = .ok (.astore_n k4, 1)) (hi : (k4 : Nat) = i) (hn : i < M.2.2.1) (he : jst i (.ref x) L = L') (k : J M R nw Z (pc + 1) L' st h nc ns) : J M R nw Z pc L (.ref x :: st) h nc ns :=
  k.ofL fun _ _ _ _ _ _ _ _ _ _ _ _ _ _ hx hb hl w => lv_astore_n hx hb hd hi hl hn rfl fun ls' hl' => w ls' (jLs_st (v := .ref x) hl' he)
theorem j_astore {i x : Nat} (hd : decode M.2.1 pc = .ok (.astore i, 2)) (hn : i < M.2.2.1) (he : jst i (.ref x) L = L') (k : J M R nw Z (pc + 2) L' st h nc ns) : J M R nw Z pc L (.ref x :: st) h nc ns :=
  k.ofL fun _ _ _ _ _ _ _ _ _ _ _ _ _ _ hx hb hl w => lv_astore hx hb hd hl hn rfl fun ls' hl' => w ls' (jLs_st (v := .ref x) hl' he)
theorem j_astore_nN {k4 : Fin 4} {i : Nat} (hd : decode M.2.1 pc = .ok (.astore_n k4, 1)) (hi : (k4 : Nat) = i) (hn : i < M.2.2.1) (he : jst i .null L = L') (k : J M R nw Z (pc + 1) L' st h nc ns) : J M R nw Z pc L (.null :: st) h nc ns :=
  k.ofL fun _ _ _ _ _ _ _ _ _ _ _ _ _ _ hx hb hl w => lv_astore_nN hx hb hd hi hl hn rfl fun ls' hl' => w ls' (jLs_st (v := .null) hl' he)
theorem j_dstore {i : Nat} {x : UInt64} (hd : decode M.2.1 pc = .ok (.dstore i, 2)) (hn : i + 1 < M.2.2.1) (he : jst2 i (.double x) L = L') (k : J M R nw Z (pc + 2) L' st h nc ns) : J M R nw Z pc L (.double x :: st) h nc ns :=
  k.ofL fun _ _ _ _ _ _ _ _ _ _ _ _ _ _ hx hb hl w => lv_dstore hx hb hd hl hn rfl fun ls' hl' => w ls' (jLs_st2 (v := .double x) hl' he)
theorem j_fstore {i : Nat} {x : UInt32} (hd : decode M.2.1 pc = .ok (.fstore i, 2)) (hn : i < M.2.2.1) (he : jst i (.float x) L = L') (k : J M R nw Z (pc + 2) L' st h nc ns) : J M R nw Z pc L (.float x :: st) h nc ns :=
  k.ofL fun _ _ _ _ _ _ _ _ _ _ _ _ _ _ hx hb hl w => lv_fstore hx hb hd hl hn rfl fun ls' hl' => w ls' (jLs_st (v := .float x) hl' he)
theorem jL_place {i : Nat} {v : Value} : ∀ {l : List (Nat × Value)}, (i, v) ∈ l → ∃ k : Nat, l[k]? = some (i, v) := fun hm => List.getElem?_of_mem hm
theorem j_iinc {i : Nat} {n x : Int} (hd : decode M.2.1 pc = .ok (.iinc i n, 3)) (hv : L.lookup i = some (iv x)) (hn : i < M.2.2.1) (he : jst i (iv (x + n)) L = L') (k : J M R nw Z (pc + 3) L' st h nc ns) : J M R nw Z pc L st h nc ns :=
  k.ofL fun _ _ _ _ _ _ _ _ _ _ _ _ ad _ hx hb hl w => by
    obtain ⟨k9, hk9⟩ := jL_place (l := jLs ad L) (List.mem_map.mpr ⟨(i, iv x), jL_mem hv, rfl⟩)
    exact lv_iinc hx hb hd hl hk9 (j_oadd x n).symm hn rfl fun ls' hl' => w ls' (jLs_st (v := iv (x + n)) hl' he)
-- arithmetic
theorem W.stk {p : Program} {l : Launch} {e : Env} {s : State} {m : MethodId} {args : Array Value} {below : List Frame} {meth : Method} {c : Code} {H : Heap} {locs : List Loc} {Q : State → Prop} {ls : Array Slot} {a b : List Value} (hab : a = b) (w : W p l e R s m args below meth c H locs nc ns Q (F0 m pc ls a)) : W p l e R s m args below meth c H locs nc ns Q (F0 m pc ls b) := hab ▸ w
theorem j_iadd {x y : Int} (hd : decode M.2.1 pc = .ok (.iadd, 1)) (k : J M R nw Z (pc + 1) L (iv (x + y) :: st) h nc ns) : J M R nw Z pc L (iv y :: iv x :: st) h nc ns :=
  k.of fun _ _ _ _ _ _ _ _ _ _ _ _ ad _ hx hb _ w => lv_iadd hx hb hd (w.stk (congrArg (fun z => Value.int z :: st.map (jv ad)) (j_oadd x y)))
theorem j_isub {x y : Int} (hd : decode M.2.1 pc = .ok (.isub, 1)) (k : J M R nw Z (pc + 1) L (iv (x - y) :: st) h nc ns) : J M R nw Z pc L (iv y :: iv x :: st) h nc ns :=
  k.of fun _ _ _ _ _ _ _ _ _ _ _ _ ad _ hx hb _ w => lv_isub hx hb hd (w.stk (congrArg (fun z => Value.int z :: st.map (jv ad)) (j_osub x y)))
theorem j_imul {x y : Int} (hd : decode M.2.1 pc = .ok (.imul, 1)) (k : J M R nw Z (pc + 1) L (iv (x * y) :: st) h nc ns) : J M R nw Z pc L (iv y :: iv x :: st) h nc ns :=
  k.of fun _ _ _ _ _ _ _ _ _ _ _ _ ad _ hx hb _ w => lv_imul hx hb hd (w.stk (congrArg (fun z => Value.int z :: st.map (jv ad)) (j_omul x y)))
theorem j_ineg {x : Int} (hd : decode M.2.1 pc = .ok (.ineg, 1)) (k : J M R nw Z (pc + 1) L (iv (-x) :: st) h nc ns) : J M R nw Z pc L (iv x :: st) h nc ns :=
  k.of fun _ _ _ _ _ _ _ _ _ _ _ _ ad _ hx hb _ w => lv_ineg hx hb hd (w.stk (congrArg (fun z => Value.int z :: st.map (jv ad)) (j_oneg x)))
theorem j_i2l {x : Int} (hd : decode M.2.1 pc = .ok (.i2l, 1)) (hr : -2147483648 ≤ x ∧ x ≤ 2147483647) (k : J M R nw Z (pc + 1) L (jl x :: st) h nc ns) : J M R nw Z pc L (iv x :: st) h nc ns :=
  k.of fun _ _ _ _ _ _ _ _ _ _ _ _ ad _ hx hb _ w => lv_i2l hx hb hd (v := Int64.ofInt x) (by rw [← Int64.toInt_inj, Int32.toInt_toInt64, j_toI hr]; exact (Int64.toInt_ofInt_of_le (by omega) (by omega)).symm) w
theorem j_i2d {x : Int} (hd : decode M.2.1 pc = .ok (.i2d, 1)) (k : J M R nw Z (pc + 1) L (.double (FP.i2d (Int32.ofInt x)) :: st) h nc ns) : J M R nw Z pc L (iv x :: st) h nc ns :=
  k.of fun _ _ _ _ _ _ _ _ _ _ _ _ _ _ hx hb _ w => lv_i2d hx hb hd w
theorem j_i2f {x : Int} (hd : decode M.2.1 pc = .ok (.i2f, 1)) (k : J M R nw Z (pc + 1) L (.float (FP.i2f (Int32.ofInt x)) :: st) h nc ns) : J M R nw Z pc L (iv x :: st) h nc ns :=
  k.of fun _ _ _ _ _ _ _ _ _ _ _ _ _ _ hx hb _ w => lv_i2f hx hb hd w
theorem j_ddiv {x y : UInt64} (hd : decode M.2.1 pc = .ok (.ddiv, 1)) (hne : vf_n64 (FP.ddiv x y)) (k : J M R nw Z (pc + 1) L (.double (FP.ddiv x y) :: st) h nc ns) : J M R nw Z pc L (.double y :: .double x :: st) h nc ns :=
  k.of fun _ _ _ _ _ _ _ _ _ _ _ _ _ _ hx hb _ w => lv_ddiv hx hb hd hne w
theorem j_fdiv {x y : UInt32} (hd : decode M.2.1 pc = .ok (.fdiv, 1)) (hne : vf_n32 (FP.fdiv x y)) (k : J M R nw Z (pc + 1) L (.float (FP.fdiv x y) :: st) h nc ns) : J M R nw Z pc L (.float y :: .float x :: st) h nc ns :=
  k.of fun _ _ _ _ _ _ _ _ _ _ _ _ _ _ hx hb _ w => lv_fdiv hx hb hd hne w
theorem j_f2d {x : UInt32} (hd : decode M.2.1 pc = .ok (.f2d, 1)) (hne : vf_n64 (FP.f2d x)) (k : J M R nw Z (pc + 1) L (.double (FP.f2d x) :: st) h nc ns) : J M R nw Z pc L (.float x :: st) h nc ns :=
  k.of fun _ _ _ _ _ _ _ _ _ _ _ _ _ _ hx hb _ w => lv_f2d hx hb hd hne w
-- the stack
theorem j_dup {v : Value} (hd : decode M.2.1 pc = .ok (.dup, 1)) (hv : v.category = 1) (k : J M R nw Z (pc + 1) L (v :: v :: st) h nc ns) : J M R nw Z pc L (v :: st) h nc ns :=
  k.of fun _ _ _ _ _ _ _ _ _ _ _ _ ad _ hx hb _ w => lv_dup hx hb hd ((jv_cat ad v).trans hv) w
theorem j_pop {v : Value} (hd : decode M.2.1 pc = .ok (.pop, 1)) (hv : v.category = 1) (k : J M R nw Z (pc + 1) L st h nc ns) : J M R nw Z pc L (v :: st) h nc ns :=
  k.of fun _ _ _ _ _ _ _ _ _ _ _ _ ad _ hx hb _ w => lv_pop hx hb hd ((jv_cat ad v).trans hv) w
theorem j_dup2 {v w : Value} (hd : decode M.2.1 pc = .ok (.dup2, 1)) (hv : v.category = 1) (hw : w.category = 1) (k : J M R nw Z (pc + 1) L (v :: w :: v :: w :: st) h nc ns) : J M R nw Z pc L (v :: w :: st) h nc ns :=
  k.of fun _ _ _ _ _ _ _ _ _ _ _ _ ad _ hx hb _ k9 => lv_dup2_11 hx hb hd ((jv_cat ad v).trans hv) ((jv_cat ad w).trans hw) k9
theorem j_dup_x1 {v w : Value} (hd : decode M.2.1 pc = .ok (.dup_x1, 1)) (hv : v.category = 1) (hw : w.category = 1) (k : J M R nw Z (pc + 1) L (v :: w :: v :: st) h nc ns) : J M R nw Z pc L (v :: w :: st) h nc ns :=
  k.of fun _ _ _ _ _ _ _ _ _ _ _ _ ad _ hx hb _ k9 => lv_dup_x1 hx hb hd ((jv_cat ad v).trans hv) ((jv_cat ad w).trans hw) k9
-- jumps
theorem j_goto {off : Int} {tgt : Nat} (hd : decode M.2.1 pc = .ok (.goto off, 3)) (ht : (pc : Int) + off = (tgt : Int)) (k : J M R nw Z tgt L st h nc ns) : J M R nw Z pc L st h nc ns :=
  k.of fun _ _ _ _ _ _ _ _ _ _ _ _ _ _ hx hb _ w => lv_goto hx hb hd ht w
/-- two ways on -/
theorem J.of2 {P : Prop} {pc2 : Nat} (kt : P → J M R nw Z pc' L st' h nc ns) (kf : ¬ P → J M R nw Z pc2 L st' h nc ns)
    (f : ∀ (p : Program) (l : Launch) (e : Env) (s : State) (m : MethodId) (args : Array Value) (below : List Frame) (meth : Method) (c : Code) (H : Heap) (locs : List Loc) (ls : Array Slot) (ad : Nat → Nat) (Q : State → Prop), p.tables.exec = Jvm.exec → c.code = M.2.1 →
      (P → W p l e R s m args below meth c H locs nc ns Q (F0 m pc' ls (st'.map (jv ad)))) → (¬ P → W p l e R s m args below meth c H locs nc ns Q (F0 m pc2 ls (st'.map (jv ad)))) → W p l e R s m args below meth c H locs nc ns Q (F0 m pc ls (st.map (jv ad)))) : J M R nw Z pc L st h nc ns :=
  fun p l e s m args below meth c H locs ls D cy ad ad0 bs hX => f p l e s m args below meth c H locs ls ad _ hX.1.1 hX.1.2.1 (fun hp => kt hp p l e s m args below meth c H locs ls D cy ad ad0 bs hX) (fun hp => kf hp p l e s m args below meth c H locs ls D cy ad ad0 bs hX)
theorem j_icmp_lt {x y off : Int} {tgt : Nat} (hd : decode M.2.1 pc = .ok (.if_icmp .lt off, 3)) (ht : (pc : Int) + off = (tgt : Int)) (hr : -2147483648 ≤ x ∧ x ≤ 2147483647 ∧ -2147483648 ≤ y ∧ y ≤ 2147483647) (kt : x < y → J M R nw Z tgt L st h nc ns) (kf : ¬ (x < y) → J M R nw Z (pc + 3) L st h nc ns) : J M R nw Z pc L (iv y :: iv x :: st) h nc ns :=
  J.of2 kt kf fun _ _ _ _ _ _ _ _ _ _ _ _ _ _ hx hb w1 w2 => lv_icmp_lt hx hb hd ht (fun q => w1 ((j_lt hr).mp q)) (fun q => w2 (fun r => q ((j_lt hr).mpr r)))
theorem j_if_lt {x off : Int} {tgt : Nat} (hd : decode M.2.1 pc = .ok (.ifCond .lt off, 3)) (ht : (pc : Int) + off = (tgt : Int)) (hr : -2147483648 ≤ x ∧ x ≤ 2147483647) (kt : x < 0 → J M R nw Z tgt L st h nc ns) (kf : ¬ (x < 0) → J M R nw Z (pc + 3) L st h nc ns) : J M R nw Z pc L (iv x :: st) h nc ns :=
  J.of2 kt kf fun _ _ _ _ _ _ _ _ _ _ _ _ _ _ hx hb w1 w2 => lv_if_lt hx hb hd ht (fun q => w1 ((j_lt (y := 0) ⟨hr.1, hr.2, by omega, by omega⟩).mp q)) (fun q => w2 (fun r => q ((j_lt (y := 0) ⟨hr.1, hr.2, by omega, by omega⟩).mpr r)))
theorem j_icmp_le {x y off : Int} {tgt : Nat} (hd : decode M.2.1 pc = .ok (.if_icmp .le off, 3)) (ht : (pc : Int) + off = (tgt : Int)) (hr : -2147483648 ≤ x ∧ x ≤ 2147483647 ∧ -2147483648 ≤ y ∧ y ≤ 2147483647) (kt : x ≤ y → J M R nw Z tgt L st h nc ns) (kf : ¬ (x ≤ y) → J M R nw Z (pc + 3) L st h nc ns) : J M R nw Z pc L (iv y :: iv x :: st) h nc ns :=
  J.of2 kt kf fun _ _ _ _ _ _ _ _ _ _ _ _ _ _ hx hb w1 w2 => lv_icmp_le hx hb hd ht (fun q => w1 ((j_le hr).mp q)) (fun q => w2 (fun r => q ((j_le hr).mpr r)))
theorem j_if_le {x off : Int} {tgt : Nat} (hd : decode M.2.1 pc = .ok (.ifCond .le off, 3)) (ht : (pc : Int) + off = (tgt : Int)) (hr : -2147483648 ≤ x ∧ x ≤ 2147483647) (kt : x ≤ 0 → J M R nw Z tgt L st h nc ns) (kf : ¬ (x ≤ 0) → J M R nw Z (pc + 3) L st h nc ns) : J M R nw Z pc L (iv x :: st) h nc ns :=
  J.of2 kt kf fun _ _ _ _ _ _ _ _ _ _ _ _ _ _ hx hb w1 w2 => lv_if_le hx hb hd ht (fun q => w1 ((j_le (y := 0) ⟨hr.1, hr.2, by omega, by omega⟩).mp q)) (fun q => w2 (fun r => q ((j_le (y := 0) ⟨hr.1, hr.2, by omega, by omega⟩).mpr r)))
theorem j_icmp_gt {x y off : Int} {tgt : Nat} (hd : decode M.2.1 pc = .ok (.if_icmp .gt off, 3)) (ht : (pc : Int) + off = (tgt : Int)) (hr : -2147483648 ≤ x ∧ x ≤ 2147483647 ∧ -2147483648 ≤ y ∧ y ≤ 2147483647) (kt : y < x → J M R nw Z tgt L st h nc ns) (kf : ¬ (y < x) → J M R nw Z (pc + 3) L st h nc ns) : J M R nw Z pc L (iv y :: iv x :: st) h nc ns :=
  J.of2 kt kf fun _ _ _ _ _ _ _ _ _ _ _ _ _ _ hx hb w1 w2 => lv_icmp_gt hx hb hd ht (fun q => w1 ((j_lt ⟨hr.2.2.1, hr.2.2.2, hr.1, hr.2.1⟩).mp q)) (fun q => w2 (fun r => q ((j_lt ⟨hr.2.2.1, hr.2.2.2, hr.1, hr.2.1⟩).mpr r)))
theorem j_if_gt {x off : Int} {tgt : Nat} (hd : decode M.2.1 pc = .ok (.ifCond .gt off, 3)) (ht : (pc : Int) + off = (tgt : Int)) (hr : -2147483648 ≤ x ∧ x ≤ 2147483647) (kt : 0 < x → J M R nw Z tgt L st h nc ns) (kf : ¬ (0 < x) → J M R nw Z (pc + 3) L st h nc ns) : J M R nw Z pc L (iv x :: st) h nc ns :=
  J.of2 kt kf fun _ _ _ _ _ _ _ _ _ _ _ _ _ _ hx hb w1 w2 => lv_if_gt hx hb hd ht (fun q => w1 ((j_lt (x := 0) ⟨by omega, by omega, hr.1, hr.2⟩).mp q)) (fun q => w2 (fun r => q ((j_lt (x := 0) ⟨by omega, by omega, hr.1, hr.2⟩).mpr r)))
theorem j_icmp_ge {x y off : Int} {tgt : Nat} (hd : decode M.2.1 pc = .ok (.if_icmp .ge off, 3)) (ht : (pc : Int) + off = (tgt : Int)) (hr : -2147483648 ≤ x ∧ x ≤ 2147483647 ∧ -2147483648 ≤ y ∧ y ≤ 2147483647) (kt : y ≤ x → J M R nw Z tgt L st h nc ns) (kf : ¬ (y ≤ x) → J M R nw Z (pc + 3) L st h nc ns) : J M R nw Z pc L (iv y :: iv x :: st) h nc ns :=
  J.of2 kt kf fun _ _ _ _ _ _ _ _ _ _ _ _ _ _ hx hb w1 w2 => lv_icmp_ge hx hb hd ht (fun q => w1 ((j_le ⟨hr.2.2.1, hr.2.2.2, hr.1, hr.2.1⟩).mp q)) (fun q => w2 (fun r => q ((j_le ⟨hr.2.2.1, hr.2.2.2, hr.1, hr.2.1⟩).mpr r)))
theorem j_if_ge {x off : Int} {tgt : Nat} (hd : decode M.2.1 pc = .ok (.ifCond .ge off, 3)) (ht : (pc : Int) + off = (tgt : Int)) (hr : -2147483648 ≤ x ∧ x ≤ 2147483647) (kt : 0 ≤ x → J M R nw Z tgt L st h nc ns) (kf : ¬ (0 ≤ x) → J M R nw Z (pc + 3) L st h nc ns) : J M R nw Z pc L (iv x :: st) h nc ns :=
  J.of2 kt kf fun _ _ _ _ _ _ _ _ _ _ _ _ _ _ hx hb w1 w2 => lv_if_ge hx hb hd ht (fun q => w1 ((j_le (x := 0) ⟨by omega, by omega, hr.1, hr.2⟩).mp q)) (fun q => w2 (fun r => q ((j_le (x := 0) ⟨by omega, by omega, hr.1, hr.2⟩).mpr r)))
theorem j_icmp_eq {x y off : Int} {tgt : Nat} (hd : decode M.2.1 pc = .ok (.if_icmp .eq off, 3)) (ht : (pc : Int) + off = (tgt : Int)) (hr : -2147483648 ≤ x ∧ x ≤ 2147483647 ∧ -2147483648 ≤ y ∧ y ≤ 2147483647) (kt : x = y → J M R nw Z tgt L st h nc ns) (kf : ¬ (x = y) → J M R nw Z (pc + 3) L st h nc ns) : J M R nw Z pc L (iv y :: iv x :: st) h nc ns :=
  J.of2 kt kf fun _ _ _ _ _ _ _ _ _ _ _ _ _ _ hx hb w1 w2 => lv_icmp_eq hx hb hd ht (fun q => w1 ((j_eq hr).mp q)) (fun q => w2 (fun r => q ((j_eq hr).mpr r)))
theorem j_if_eq {x off : Int} {tgt : Nat} (hd : decode M.2.1 pc = .ok (.ifCond .eq off, 3)) (ht : (pc : Int) + off = (tgt : Int)) (hr : -2147483648 ≤ x ∧ x ≤ 2147483647) (kt : x = 0 → J M R nw Z tgt L st h nc ns) (kf : ¬ (x = 0) → J M R nw Z (pc + 3) L st h nc ns) : J M R nw Z pc L (iv x :: st) h nc ns :=
  J.of2 kt kf fun _ _ _ _ _ _ _ _ _ _ _ _ _ _ hx hb w1 w2 => lv_if_eq hx hb hd ht (fun q => w1 ((j_eq (y := 0) ⟨hr.1, hr.2, by omega, by omega⟩).mp q)) (fun q => w2 (fun r => q ((j_eq (y := 0) ⟨hr.1, hr.2, by omega, by omega⟩).mpr r)))
theorem j_icmp_ne {x y off : Int} {tgt : Nat} (hd : decode M.2.1 pc = .ok (.if_icmp .ne off, 3)) (ht : (pc : Int) + off = (tgt : Int)) (hr : -2147483648 ≤ x ∧ x ≤ 2147483647 ∧ -2147483648 ≤ y ∧ y ≤ 2147483647) (kt : x ≠ y → J M R nw Z tgt L st h nc ns) (kf : x = y → J M R nw Z (pc + 3) L st h nc ns) : J M R nw Z pc L (iv y :: iv x :: st) h nc ns :=
  J.of2 kt (fun hn => kf (by omega)) fun _ _ _ _ _ _ _ _ _ _ _ _ _ _ hx hb w1 w2 => lv_icmp_ne hx hb hd ht (fun q => w1 (fun r => q ((j_eq hr).mpr r))) (fun q => w2 (fun r => r ((j_eq hr).mp q)))
theorem j_if_ne {x off : Int} {tgt : Nat} (hd : decode M.2.1 pc = .ok (.ifCond .ne off, 3)) (ht : (pc : Int) + off = (tgt : Int)) (hr : -2147483648 ≤ x ∧ x ≤ 2147483647) (kt : x ≠ 0 → J M R nw Z tgt L st h nc ns) (kf : x = 0 → J M R nw Z (pc + 3) L st h nc ns) : J M R nw Z pc L (iv x :: st) h nc ns :=
  J.of2 kt (fun hn => kf (by omega)) fun _ _ _ _ _ _ _ _ _ _ _ _ _ _ hx hb w1 w2 => lv_if_ne hx hb hd ht (fun q => w1 (fun r => q ((j_eq (y := 0) ⟨hr.1, hr.2, by omega, by omega⟩).mpr r))) (fun q => w2 (fun r => r ((j_eq (y := 0) ⟨hr.1, hr.2, by omega, by omega⟩).mp q)))
theorem j_ifnull {x : Nat} {off : Int} (hd : decode M.2.1 pc = .ok (.ifnull off, 3)) (k : J M R nw Z (pc + 3) L st h nc ns) : J M R nw Z pc L (.ref x :: st) h nc ns :=
  k.of fun _ _ _ _ _ _ _ _ _ _ _ _ _ _ hx hb _ w => lv_ifnull hx hb hd w
theorem j_ifnonnull {x : Nat} {off : Int} {tgt : Nat} (hd : decode M.2.1 pc = .ok (.ifnonnull off, 3)) (ht : (pc : Int) + off = (tgt : Int)) (k : J M R nw Z tgt L st h nc ns) : J M R nw Z pc L (.ref x :: st) h nc ns :=
  k.of fun _ _ _ _ _ _ _ _ _ _ _ _ _ _ hx hb _ w => lv_ifnonnull hx hb hd ht w
theorem j_ifnullN {off : Int} {tgt : Nat} (hd : decode M.2.1 pc = .ok (.ifnull off, 3)) (ht : (pc : Int) + off = (tgt : Int)) (k : J M R nw Z tgt L st h nc ns) : J M R nw Z pc L (.null :: st) h nc ns :=
  k.of fun _ _ _ _ _ _ _ _ _ _ _ _ _ _ hx hb _ w => lv_ifnullN hx hb hd ht w
theorem j_ifnonnullN {off : Int} (hd : decode M.2.1 pc = .ok (.ifnonnull off, 3)) (k : J M R nw Z (pc + 3) L st h nc ns) : J M R nw Z pc L (.null :: st) h nc ns :=
  k.of fun _ _ _ _ _ _ _ _ _ _ _ _ _ _ hx hb _ w => lv_ifnonnullN hx hb hd w
theorem j_tableIn {dflt lo hi x off : Int} {offs : Array Int} {len tgt : Nat} (hd : decode M.2.1 pc = .ok (.tableswitch dflt lo hi offs, len)) (hr : -2147483648 ≤ x ∧ x ≤ 2147483647) (h1 : lo ≤ x) (h2 : x ≤ hi) (ho : offs[(x - lo).toNat]? = some off) (ht : (pc : Int) + off = (tgt : Int)) (k : J M R nw Z tgt L st h nc ns) : J M R nw Z pc L (iv x :: st) h nc ns :=
  k.of fun _ _ _ _ _ _ _ _ _ _ _ _ _ _ hx hb _ w => lv_tableIn hx hb hd (by rw [j_toI hr]; omega) (by rw [j_toI hr]; omega) (by rw [j_toI hr]; exact ho) ht w
theorem j_tableOut {dflt lo hi x : Int} {offs : Array Int} {len tgt : Nat} (hd : decode M.2.1 pc = .ok (.tableswitch dflt lo hi offs, len)) (hr : -2147483648 ≤ x ∧ x ≤ 2147483647) (h1 : x < lo ∨ hi < x) (ht : (pc : Int) + dflt = (tgt : Int)) (k : J M R nw Z tgt L st h nc ns) : J M R nw Z pc L (iv x :: st) h nc ns :=
  k.of fun _ _ _ _ _ _ _ _ _ _ _ _ _ _ hx hb _ w => lv_tableOut hx hb hd (by rw [j_toI hr]; exact h1) ht w
end JR
