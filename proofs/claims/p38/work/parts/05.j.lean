/-! THE J LAYER: a method's walk over a world that is a function of places: places stand for addresses, ints are whole numbers.
jA t n f: an array of kind t (0 int, 1 boolean, 2 char, 3 byte, 4 long, 5 double by its bits), of length n, with f j at j. jQ: an array of references. jO: an object of class ci of jcl, its fields. -/
abbrev jC : Type := (Nat × Nat × (Int → Int)) ⊕ ((Nat × (Int → Option Nat)) ⊕ (Nat × List Value))
abbrev jH : Type := Nat → Option jC
def jA (t n : Nat) (f : Int → Int) : jC := .inl (t, n, f)
def jQ (n : Nat) (g : Int → Option Nat) : jC := .inr (.inl (n, g))
def jO (ci : Nat) (fs : List Value) : jC := .inr (.inr (ci, fs))
def iv (x : Int) : Value := .int (Int32.ofInt x)
def jl (x : Int) : Value := .long (Int64.ofInt x)
def jv (ad : Nat → Nat) (v : Value) : Value := match v with
  | .ref k => .ref (ad k)
  | w => w
def jup (h : jH) (k : Nat) (c : jC) : jH := fun j => if j = k then some c else h j
def jfu (f : Int → Int) (i x : Int) : Int → Int := fun j => if j = i then x else f j
def jqu (g : Int → Option Nat) (i : Int) (x : Option Nat) : Int → Option Nat := fun j => if j = i then x else g j
theorem jup_s {h : jH} {k : Nat} {c : jC} : jup h k c k = some c := if_pos rfl
theorem jup_n {h : jH} {j k : Nat} {c : jC} {x : Option jC} (hn : j ≠ k) (hx : h j = x) : jup h k c j = x := (if_neg hn).trans hx
abbrev jcl : List vw_C := [(RX0, TX0, 2), (RX1, TX1, 11), (RX2, TX2, 2), (RX3, TX3, 7), (RX4, TX4, 13), (RJ0, TJ0, 4), (RJ4, TJ4, 4)]
def jty : Nat → FieldType
  | 0 => .int
  | 1 => .boolean
  | 2 => .char
  | 3 => .byte
  | 4 => .long
  | 5 => .long
  | _ => .object RX1
def jtys (cy : Nat → ClassId) : List (ClassId × FieldType) := [(cy 0, jty 0), (cy 1, jty 1), (cy 2, jty 2), (cy 3, jty 3), (cy 4, jty 4), (cy 5, jty 5), (cy 6, jty 6)]
def jArr (t n : Nat) (f : Int → Int) : vp_A := match t with
  | 4 => (n, .inr (.inl fun j => Int64.ofInt (f j)))
  | 5 => (n, .inr (.inr (.inr (.inl fun j => UInt64.ofNat (f j).toNat))))
  | _ => (n, .inl fun j => Int32.ofInt (f j))
def jE (cy : Nat → ClassId) (ad : Nat → Nat) (c : jC) : va_E := match c with
  | .inl (t, n, f) => .inl (cy t, jArr t n f)
  | .inr (.inl (n, g)) => .inl (cy 6, n, .inr (.inr (.inr (.inr fun j => (g j).map ad))))
  | .inr (.inr (ci, fs)) => .inr (ci, fs.map (jv ad))
/-- the heap holds the picture -/
def jP (D : va_G) (cy : Nat → ClassId) (ad : Nat → Nat) (h : jH) (H : Heap) : Prop := ∀ (k : Nat) (c : jC), h k = some c → va_at D jcl (ad k, jE cy ad c) H
/-- the cell points at a place -/
def jref (c : jC) (k : Nat) : Prop := match c with
  | .inl _ => False
  | .inr (.inl q) => ∃ i, q.2 i = some k
  | .inr (.inr q) => Value.ref k ∈ q.2
def jCl (h : jH) : Prop := ∀ (j : Nat) (c : jC), h j = some c → ∀ k : Nat, jref c k → h k ≠ none
def jW (D : va_G) (cy : Nat → ClassId) (ad : Nat → Nat) (bs : Nat) (h : jH) (H : Heap) : Prop :=
  bs ≤ H.size ∧ jP D cy ad h H ∧ (∀ j k : Nat, h j ≠ none → h k ≠ none → ad j = ad k → j = k) ∧ (∀ k : Nat, h k ≠ none → bs ≤ ad k) ∧ jCl h
/-- which cells are ours -/
def jB (bs : Nat) : Nat → Prop := fun q => bs ≤ q
def jR (d mc ms : Nat) : Room := { frames := d, cells := mc, slots := ms, locals := 64 * d }
def jStrs : List (String × Nat × String) := [("FamilyOaks", 323, "there is no such person"), ("FamilyOaks", 329, "coins are from 1 to 999"), ("FamilyOaks", 331, "it is refused"), ("FamilyOaks", 119, "what is not from 0 to 9"), ("FamilyOaks", 325, "there is no such elder"), ("FamilyOaks", 327, "they are of different oaks"), ("FamilyOaks", 159, "there is no such place"), ("FamilyOaks", 192, "the person is dead"), ("FamilyOaks", 217, "there is no such index"), ("FamilyOaks", 226, "the input is full"), ("FamilyOaks", 235, "the text has an error"), ("FamilyOaks", 255, "an order is refused"), ("FamilyOaks", 258, "an order has a number out of range"), ("FamilyOaks", 289, "what is not from 0 to 11"), ("FamilyOaks", 303, "there are no persons"), ("FamilyOaks", 313, "no change can be undone")]
/-- the static rows: class, name, descriptor, kind of their elements, length, elements -/
def jRows : List (String × String × String × Nat × Nat × (Nat → Int)) :=
  [("FamilyOaks", "LETTERS", "[C", 2, 9, fun j => [102, 98, 103, 99, 109, 112, 113, 101, 100].getD j 0),
   ("FamilyOaks", "SIGNS", "[C", 2, 9, fun j => [32, 32, 60, 32, 43, 32, 45, 61, 32].getD j 0),
   ("java/lang/Integer", "DigitOnes", "[B", 3, 100, fun j => 48 + (j % 10 : Nat)),
   ("java/lang/Integer", "DigitTens", "[B", 3, 100, fun j => 48 + (j / 10 : Nat))]
/-- words that the tables hold beside the list's: a class castable to itself, to another not; links within the nest -/
def jCst : List (String × String) := [("java/lang/IndexOutOfBoundsException", "java/lang/IndexOutOfBoundsException"), ("java/lang/IllegalArgumentException", "java/lang/IllegalArgumentException"), ("java/lang/UnsupportedOperationException", "java/lang/UnsupportedOperationException"), ("java/util/NoSuchElementException", "java/util/NoSuchElementException"), ("java/lang/IllegalStateException", "java/lang/IllegalStateException"), ("java/lang/ArithmeticException", "java/lang/ArithmeticException")]
def jNcs : List (String × String) := [("java/lang/UnsupportedOperationException", "java/lang/IndexOutOfBoundsException"), ("java/lang/IllegalArgumentException", "java/lang/IndexOutOfBoundsException"), ("java/util/NoSuchElementException", "java/lang/IndexOutOfBoundsException"), ("java/lang/IllegalStateException", "java/lang/IndexOutOfBoundsException"), ("java/lang/UnsupportedOperationException", "java/lang/IllegalArgumentException")]
def jNst : List (Nat × String) := [(36, "FamilyOaks$Elders"), (43, "FamilyOaks$Houses"), (50, "FamilyOaks$Input")]
def jNsf : List (Nat × String) := [(63, "LETTERS"), (66, "SIGNS")]
def jO2 (U : State) : Prop := (∀ q ∈ jCst, va_Nw (.castable q.1 q.2) U) ∧ (∀ q ∈ jNcs, va_Nc q.1 q.2 U) ∧ (∀ q ∈ jNst, va_Nw (.methodLinkNest "FamilyOaks" q.1 ⟨q.2, "<init>", "()V"⟩ "FamilyOaks") U) ∧ ∀ q ∈ jNsf, va_Nw (.fieldLinkNest "FamilyOaks$Input" q.1 "FamilyOaks" q.2 "[C" "FamilyOaks") U
theorem jO2.go {u U : State} (h : jO2 u) (hvm : u.WarmedH U.vm) : jO2 U :=
  ⟨fun q hq => va_Nw.warmC hvm (h.1 q hq), fun q hq => va_Nc.moved hvm.alike (h.2.1 q hq), fun q hq => va_Nw.warmM hvm (h.2.2.1 q hq), fun q hq => va_Nw.warmF hvm (h.2.2.2 q hq)⟩
/-- what the statics hold -/
def jS (bs : Nat) (U : State) (H : Heap) : Prop :=
  (vx_Zq Bundle.tN "UNASSIGNED_STACK" Bundle.steD (jB bs) U H ∧ vx_Zq Bundle.tN "SUPPRESSED_SENTINEL" Bundle.listD (jB bs) U H ∧ va_Zq "jdk/internal/util/Preconditions" "SIOOBE_FORMATTER" "Ljava/util/function/BiFunction;" (jB bs) U H) ∧
  (∀ q ∈ jStrs, ∃ sa, vk_R q.1 q.2.1 q.2.2 sa U) ∧
  (∀ q ∈ jRows, ∃ t, va_Z q.1 q.2.1 q.2.2.1 (.ref t) (jB bs) U H ∧ va_T (jty q.2.2.2.1) t q.2.2.2.2.1 (fun j => iv (q.2.2.2.2.2 j)) (jB bs) U H) ∧
  va_Z "java/lang/String" "COMPACT_STRINGS" "Z" (.int 1) (jB bs) U H ∧ jO2 U
theorem jS.go {bs : Nat} {u U : State} {H H1 : Heap} (h : jS bs u H) (hvm : u.WarmedH U.vm) (hq : ∀ q : Nat, q < H.size → ¬ jB bs q → H1[q]? = H[q]?) : jS bs U H1 := by
  obtain ⟨⟨h1, h2, h7⟩, h3, h4, h5, h6⟩ := h
  refine ⟨⟨(h1.kept hq).moved hvm.alike, (h2.kept hq).moved hvm.alike, (h7.kept hq).moved hvm.alike⟩, fun q hm => ?_, fun q hm => ?_, (h5.kept hq).moved hvm.alike, h6.go hvm⟩
  · obtain ⟨sa, hs⟩ := h3 q hm
    exact ⟨sa, vk_R.warm hvm hs⟩
  · obtain ⟨t, a, b⟩ := h4 q hm
    exact ⟨t, (a.kept hq).moved hvm.alike, (b.kept hq).moved hvm.alike⟩
/-- a method: its name, code, locals, type, table, and what its walk may know of its start -/
abbrev jMe : Type := MethodName × ByteArray × Nat × Option FieldType × List (Nat × Nat × Nat × Nat) × (State → (Nat → Nat) → Nat → Prop)
def jtr : State → (Nat → Nat) → Nat → Prop := fun _ _ _ => True
def jLs (ad : Nat → Nat) (L : List (Nat × Value)) : List (Nat × Value) := L.map fun q => (q.1, jv ad q.2)
/-- what a walk in the method M stands on -/
def jX (M : jMe) (nw : List Nat) (L : List (Nat × Value)) (h : jH) (p : Program) (l : Launch) (s : State) (m : MethodId) (args : Array Value) (meth : Method) (c : Code) (H : Heap) (locs : List Loc) (ls : Array Slot) (D : va_G) (cy : Nat → ClassId) (ad ad0 : Nat → Nat) (bs : Nat) : Prop :=
  (p.tables.exec = Jvm.exec ∧ c.code = M.2.1 ∧ c.maxLocals = M.2.2.1 ∧ s.vm.findClass M.1.cls = some m.cls ∧ ∀ w ∈ jWL, w.before args s = true) ∧
  (meth.sig.returnType = M.2.2.2.1 ∧ meth.locks = false ∧ meth.name = M.1.name ∧ l.stackTraces = false ∧ c.exceptionTable.toList = tableOf M.2.2.2.2.1) ∧
  jS bs s s.heap ∧ va_K D jcl (jtys cy) s ∧ va_S (jB bs) s.heap H locs ∧ jW D cy ad bs h H ∧ (∀ k : Nat, k ∉ nw → ad k = ad0 k) ∧ lv_has ls M.2.2.1 (jLs ad L) ∧ bs ≤ s.heap.size ∧ M.2.2.2.2.2 s ad0 bs
abbrev jFin : Type := List Frame → Array Value → State → va_G → (Nat → ClassId) → (Nat → Nat) → Nat → State → Prop
/-- THE JUDGEMENT: from this place of the method, with these locals, this stack and this world, the walk comes to an end as Z says -/
def J (M : jMe) (R : Room) (nw : List Nat) (Z : jFin) (pc : Nat) (L : List (Nat × Value)) (st : List Value) (h : jH) (nc ns : Nat) : Prop :=
  ∀ (p : Program) (l : Launch) (e : Env) (s : State) (m : MethodId) (args : Array Value) (below : List Frame) (meth : Method) (c : Code) (H : Heap) (locs : List Loc) (ls : Array Slot) (D : va_G) (cy : Nat → ClassId) (ad ad0 : Nat → Nat) (bs : Nat),
    jX M nw L h p l s m args meth c H locs ls D cy ad ad0 bs → W p l e R s m args below meth c H locs nc ns (Z below args s D cy ad0 bs) (F0 m pc ls (st.map (jv ad)))
/-- an exception of class E is under way at this place -/
def JT (M : jMe) (R : Room) (nw : List Nat) (Z : jFin) (pc : Nat) (L : List (Nat × Value)) (h : jH) (nc ns : Nat) (E : String) : Prop :=
  ∀ (p : Program) (l : Launch) (e : Env) (s : State) (m : MethodId) (args : Array Value) (below : List Frame) (meth : Method) (c : Code) (H : Heap) (locs : List Loc) (ls : Array Slot) (D : va_G) (cy : Nat → ClassId) (ad ad0 : Nat → Nat) (bs : Nat),
    jX M nw L h p l s m args meth c H locs ls D cy ad ad0 bs → ∀ (rest : List Value) (q : Nat) (ce : Cell), H[q]? = some ce → ce.vm = .none → s.vm.findClass E = some ce.cls →
      vx_W p l e R s m args below meth c H locs nc ns (Z below args s D cy ad0 bs) (F0 m pc ls rest) q
abbrev jPn : Type := Option Value → jH → Prop
abbrev jPx : Type := String → jH → Prop
def jno : jPx := fun _ _ => False
def jQn (nw : List Nat) (Pn : jPn) (D : va_G) (cy : Nat → ClassId) (ad0 : Nat → Nat) (bs : Nat) : Array Value → State → Outcome → State → Prop := fun _ st o t =>
  ∃ (r : Option Value) (h' : jH) (ad' : Nat → Nat), o = .returned (r.map (jv ad')) ∧ Pn r h' ∧ jW D cy ad' bs h' t.heap ∧ (∀ k : Nat, k ∉ nw → ad' k = ad0 k) ∧ va_F (jB bs) st t
def jQx (nw : List Nat) (Px : jPx) (D : va_G) (cy : Nat → ClassId) (ad0 : Nat → Nat) (bs : Nat) : String → State → State → Prop := fun E st t =>
  ∃ (h' : jH) (ad' : Nat → Nat), Px E h' ∧ jW D cy ad' bs h' t.heap ∧ (∀ k : Nat, k ∉ nw → ad' k = ad0 k) ∧ va_F (jB bs) st t
def jZ (nw : List Nat) (mc ms : Nat) (Pn : jPn) (Px : jPx) : jFin := fun below args s D cy ad0 bs => vx_MQ below (jQn nw Pn D cy ad0 bs) (jQx nw Px D cy ad0 bs) args s mc ms (jB bs)
def jHd (M : jMe) : Cond := match M.2.2.2.2.1 with
  | [] => .code M.1 M.2.1 M.2.2.1 M.2.2.2.1
  | hh => .codeWith M.1 M.2.1 M.2.2.1 M.2.2.2.1 hh
/-- A METHOD'S CONTRACT: called with a0 in the world h0 it returns, and Pn, or throws, and Px -/
def jM (M : jMe) (d mc ms : Nat) (nw : List Nat) (a0 : List Value) (h0 : jH) (Pn : jPn) (Px : jPx) : Prop :=
  ∀ (l : Launch), l.stackTraces = false → ∀ (D : va_G) (cy : Nat → ClassId) (ad : Nat → Nat) (bs : Nat),
    vx_Met l M.1 (jHd M :: jWL) (jR d mc ms) (va_Pc (a0.map (jv ad)) (fun U => (jS bs U U.heap ∧ va_K D jcl (jtys cy) U) ∧ jW D cy ad bs h0 U.heap)) (jQn nw Pn D cy ad bs) (jQx nw Px D cy ad bs) mc ms (jB bs)
theorem jv_cat (ad : Nat → Nat) (v : Value) : (jv ad v).category = v.category := by cases v <;> rfl
theorem jv_iv (ad : Nat → Nat) (x : Int) : jv ad (iv x) = .int (Int32.ofInt x) := rfl
theorem jLs_args (ad : Nat → Nat) : ∀ (vs : List Value) (i : Nat), lv_args i (vs.map (jv ad)) = jLs ad (lv_args i vs)
  | [], _ => rfl
  | v :: vs, i => by
    show (i, jv ad v) :: lv_args (if (jv ad v).category = 2 then i + 2 else i + 1) (vs.map (jv ad)) = (i, jv ad v) :: jLs ad (lv_args (if v.category = 2 then i + 2 else i + 1) vs)
    rw [jv_cat, jLs_args ad vs]
theorem jsl_len (ad : Nat → Nat) : ∀ vs : List Value, (lg_sl (vs.map (jv ad))).length = (lg_sl vs).length
  | [] => rfl
  | v :: vs => by
    have ih := jsl_len ad vs
    simp only [lg_sl, List.map_cons, List.flatMap_cons, List.length_append, jv_cat] at ih ⊢
    rw [ih]
    by_cases hc : v.category = 2 <;> simp [hc]
/-- a contract out of its body -/
theorem j_method {M : jMe} {d mc ms : Nat} {nw : List Nat} {a0 : List Value} {h0 : jH} {Pn : jPn} {Px : jPx} (hy : plainName M.1.cls = true) (ht : M.2.2.2.2.1 = []) (hφ : ∀ s ad bs, M.2.2.2.2.2 s ad bs) (hn : (lg_sl a0).length ≤ M.2.2.1)
    (k : J M (jR d mc ms) nw (jZ nw mc ms Pn Px) 0 (lv_args 0 a0) [] h0 0 0) : jM M d mc ms nw a0 h0 Pn Px := by
  intro l hl D cy ad bs
  have hH : jHd M = .code M.1 M.2.1 M.2.2.1 M.2.2.2.1 := by unfold jHd; rw [ht]
  rw [hH]
  refine vx_ofW (cc := M.2.1) (maxL := M.2.2.1) (ret := M.2.2.2.1) hy rfl ?_
  intro p e s m args below meth c s₁ B hml htab hv
  obtain ⟨rfl, ⟨hS, hK⟩, hW⟩ := hv
  have hts := atoms_spec (ws := Cond.code M.1 M.2.1 M.2.2.1 M.2.2.2.1 :: jWL) B.pre
  have hnl := jsl_len ad a0
  have hl0 := lv_entry (a0.map (jv ad)) (n := M.2.2.1) (by rw [hnl]; exact hn)
  rw [lg_entry_eq]
  rw [jLs_args] at hl0
  refine k p l e s m _ below meth c s.heap [] _ D cy ad ad bs ⟨⟨B.exec, B.bytes, hml, findClass_of_methodNamed B.named, fun w hw => hts w (List.mem_cons_of_mem _ hw)⟩, ⟨B.returns, B.notSynchronized, (name_of_methodNamed B.named B.method).1, hl, ?_⟩, hS, hK, va_S.rf, hW, fun _ _ => rfl, hl0, hW.1, hφ _ _ _⟩
  rw [ht]
  exact List.eq_nil_iff_forall_not_mem.mpr fun x hx => htab x hx
