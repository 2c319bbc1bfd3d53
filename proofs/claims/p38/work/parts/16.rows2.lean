section JR2
variable {M : jMe} {R : Room} {nw : List Nat} {Z : jFin} {pc pc' : Nat} {L L' : List (Nat × Value)} {st st' : List Value} {h h' : jH} {nc ns nc' ns' mc ms : Nat} {Pn : jPn} {Px : jPx}
theorem j_ishl {x y z : Int} (hd : decode M.2.1 pc = .ok (.ishl, 1)) (hz : Int32.ofInt x <<< (Int32.ofInt y &&& 31) = Int32.ofInt z) (k : J M R nw Z (pc + 1) L (iv z :: st) h nc ns) : J M R nw Z pc L (iv y :: iv x :: st) h nc ns :=
  k.of fun _ _ _ _ _ _ _ _ _ _ _ _ ad _ hx hb _ w => lv_ishl hx hb hd (w.stk (congrArg (fun z => Value.int z :: st.map (jv ad)) hz.symm))
theorem j_ishr {x y z : Int} (hd : decode M.2.1 pc = .ok (.ishr, 1)) (hz : Int32.ofInt x >>> (Int32.ofInt y &&& 31) = Int32.ofInt z) (k : J M R nw Z (pc + 1) L (iv z :: st) h nc ns) : J M R nw Z pc L (iv y :: iv x :: st) h nc ns :=
  k.of fun _ _ _ _ _ _ _ _ _ _ _ _ ad _ hx hb _ w => lv_ishr hx hb hd (w.stk (congrArg (fun z => Value.int z :: st.map (jv ad)) hz.symm))
theorem j_ior {x y z : Int} (hd : decode M.2.1 pc = .ok (.ior, 1)) (hz : Int32.ofInt x ||| Int32.ofInt y = Int32.ofInt z) (k : J M R nw Z (pc + 1) L (iv z :: st) h nc ns) : J M R nw Z pc L (iv y :: iv x :: st) h nc ns :=
  k.of fun _ _ _ _ _ _ _ _ _ _ _ _ ad _ hx hb _ w => lv_ior hx hb hd (w.stk (congrArg (fun z => Value.int z :: st.map (jv ad)) hz.symm))
theorem j_iand {x y z : Int} (hd : decode M.2.1 pc = .ok (.iand, 1)) (hz : Int32.ofInt x &&& Int32.ofInt y = Int32.ofInt z) (k : J M R nw Z (pc + 1) L (iv z :: st) h nc ns) : J M R nw Z pc L (iv y :: iv x :: st) h nc ns :=
  k.of fun _ _ _ _ _ _ _ _ _ _ _ _ ad _ hx hb _ w => lv_iand hx hb hd (w.stk (congrArg (fun z => Value.int z :: st.map (jv ad)) hz.symm))
theorem j_idiv {x y z : Int} (hd : decode M.2.1 pc = .ok (.idiv, 1)) (hy : Int32.ofInt y ≠ 0) (hz : Int32.ofInt x / Int32.ofInt y = Int32.ofInt z) (k : J M R nw Z (pc + 1) L (iv z :: st) h nc ns) : J M R nw Z pc L (iv y :: iv x :: st) h nc ns :=
  k.of fun _ _ _ _ _ _ _ _ _ _ _ _ ad _ hx hb _ w => lv_idiv hx hb hd hy (w.stk (congrArg (fun z => Value.int z :: st.map (jv ad)) hz.symm))
theorem j_irem {x y z : Int} (hd : decode M.2.1 pc = .ok (.irem, 1)) (hy : Int32.ofInt y ≠ 0) (hz : Int32.ofInt x - Int32.ofInt x / Int32.ofInt y * Int32.ofInt y = Int32.ofInt z) (k : J M R nw Z (pc + 1) L (iv z :: st) h nc ns) : J M R nw Z pc L (iv y :: iv x :: st) h nc ns :=
  k.of fun _ _ _ _ _ _ _ _ _ _ _ _ ad _ hx hb _ w => lv_irem hx hb hd hy (w.stk (congrArg (fun z => Value.int z :: st.map (jv ad)) hz.symm))
theorem j_i2c {x v : Int} (hd : decode M.2.1 pc = .ok (.i2c, 1)) (hv : ((Int32.ofInt x).toUInt32 % 65536).toInt32 = Int32.ofInt v) (k : J M R nw Z (pc + 1) L (iv v :: st) h nc ns) : J M R nw Z pc L (iv x :: st) h nc ns :=
  k.of fun _ _ _ _ _ _ _ _ _ _ _ _ ad _ hx hb _ w => lv_i2c hx hb hd hv w
theorem j_i2b {x v : Int} (hd : decode M.2.1 pc = .ok (.i2b, 1)) (hv : (Int32.ofInt x).toInt8.toInt32 = Int32.ofInt v) (k : J M R nw Z (pc + 1) L (iv v :: st) h nc ns) : J M R nw Z pc L (iv x :: st) h nc ns :=
  k.of fun _ _ _ _ _ _ _ _ _ _ _ _ ad _ hx hb _ w => lv_i2b hx hb hd hv w
theorem j_dconst0 (hd : decode M.2.1 pc = .ok (.dconst 0, 1)) (k : J M R nw Z (pc + 1) L (.double FP.dconst0 :: st) h nc ns) : J M R nw Z pc L st h nc ns :=
  k.of fun _ _ _ _ _ _ _ _ _ _ _ _ _ _ hx hb _ w => lv_dconst0 hx hb hd w
theorem j_fconst0 (hd : decode M.2.1 pc = .ok (.fconst 0, 1)) (k : J M R nw Z (pc + 1) L (.float FP.fconst0 :: st) h nc ns) : J M R nw Z pc L st h nc ns :=
  k.of fun _ _ _ _ _ _ _ _ _ _ _ _ _ _ hx hb _ w => lv_fconst0 hx hb hd w
-- numbers
theorem jz_shl1 {y : Int} (h : 0 ≤ y ∧ y < 31) : Int32.ofInt 1 <<< (Int32.ofInt y &&& 31) = Int32.ofInt ((2 ^ y.toNat : Nat) : Int) := by
  have k : ∀ q : Fin 31, Int32.ofInt 1 <<< (Int32.ofInt ((q.val : Nat) : Int) &&& 31) = Int32.ofInt ((2 ^ q.val : Nat) : Int) := by decide +kernel
  have e := k ⟨y.toNat, by omega⟩
  dsimp only at e
  rw [Int.toNat_of_nonneg h.1] at e
  exact e
theorem jz_nat (a : Nat) : Int32.ofInt (a : Int) = nI a := rfl
theorem jz_or (a b : Nat) : Int32.ofInt (a : Int) ||| Int32.ofInt (b : Int) = Int32.ofInt ((a ||| b : Nat) : Int) := by
  rw [jz_nat, jz_nat, jz_nat]
  apply Int32.toBitVec_inj.1
  show BitVec.ofNat 32 a ||| BitVec.ofNat 32 b = BitVec.ofNat 32 (a ||| b)
  apply BitVec.eq_of_getLsbD_eq
  intro i hi
  simp [hi]
theorem jz_shr {a : Nat} {y : Int} (ha : a < 2 ^ 31) (h : 0 ≤ y ∧ y < 31) : Int32.ofInt (a : Int) >>> (Int32.ofInt y &&& 31) = Int32.ofInt ((a / 2 ^ y.toNat : Nat) : Int) := by
  rw [jz_nat, jz_nat]
  refine pk_shrN ha _ _ ?_
  have k : ∀ q : Fin 31, ((Int32.ofInt ((q.val : Nat) : Int) &&& 31).toBitVec.smod 32).toNat = q.val := by decide +kernel
  have e := k ⟨y.toNat, by omega⟩
  dsimp only at e
  rw [Int.toNat_of_nonneg h.1] at e
  exact e
theorem jz_and1 {a : Nat} (ha : a < 2 ^ 32) : Int32.ofInt (a : Int) &&& Int32.ofInt 1 = Int32.ofInt ((a % 2 : Nat) : Int) := by
  rw [jz_nat, jz_nat]
  exact pk_andN ha (m := Int32.ofInt 1) 1 (by decide +kernel)
theorem jz_and255 {a : Int} (h : 0 ≤ a ∧ a < 256) : Int32.ofInt a &&& Int32.ofInt 255 = Int32.ofInt a := by
  have e : a = ((a.toNat : Nat) : Int) := (Int.toNat_of_nonneg h.1).symm
  rw [e, jz_nat]
  have q := pk_andN (n := a.toNat) (by omega) (m := Int32.ofInt 255) 8 (by decide +kernel)
  rw [q, Nat.mod_eq_of_lt (by omega)]
theorem jz_ne {y : Int} (hr : -2147483648 ≤ y ∧ y ≤ 2147483647) (h : y ≠ 0) : Int32.ofInt y ≠ 0 := fun q => h ((j_eq (y := 0) ⟨hr.1, hr.2, by omega, by omega⟩).mp q)
theorem jz_div {x y : Int} (hx : -2147483647 ≤ x ∧ x ≤ 2147483647) (hy : 0 < y ∧ y ≤ 2147483647) : Int32.ofInt x / Int32.ofInt y = Int32.ofInt (x.tdiv y) := by
  apply Int32.toInt_inj.mp
  have h1 : x.tdiv y ≤ 2147483647 ∧ -2147483648 ≤ x.tdiv y := by
    have h9 := Int.natAbs_tdiv_le_natAbs x y
    omega
  rw [Int32.toInt_div, j_toI (by omega), j_toI (by omega), j_toI (by omega)]
  exact Int.bmod_eq_of_le (by omega) (by omega)
theorem jz_rem {x y : Int} (hx : -2147483647 ≤ x ∧ x ≤ 2147483647) (hy : 0 < y ∧ y ≤ 2147483647) : Int32.ofInt x - Int32.ofInt x / Int32.ofInt y * Int32.ofInt y = Int32.ofInt (x - x.tdiv y * y) := by
  rw [jz_div hx hy, j_osub, j_omul]
theorem jz_i2c {x : Int} (h : 0 ≤ x ∧ x < 65536) : ((Int32.ofInt x).toUInt32 % 65536).toInt32 = Int32.ofInt x := by
  have e : x = ((x.toNat : Nat) : Int) := (Int.toNat_of_nonneg h.1).symm
  rw [e, jz_nat]
  apply Int32.toBitVec_inj.1
  apply BitVec.eq_of_toNat_eq
  show ((BitVec.ofNat 32 x.toNat) % (65536#32)).toNat = (BitVec.ofNat 32 x.toNat).toNat
  rw [BitVec.toNat_umod, BitVec.toNat_ofNat, BitVec.toNat_ofNat]
  rw [Nat.mod_eq_of_lt (show x.toNat < 2 ^ 32 by omega)]
  exact Nat.mod_eq_of_lt (by show x.toNat < 65536 % 2 ^ 32; omega)
theorem jz_i2b {x : Int} (h : -128 ≤ x ∧ x < 128) : (Int32.ofInt x).toInt8.toInt32 = Int32.ofInt x := by
  apply Int32.toInt_inj.mp
  rw [Int8.toInt_toInt32, Int32.toInt_toInt8, j_toI (by omega)]
  exact Int.bmod_eq_of_le (by omega) (by omega)
-- an array's content matters below its length alone
theorem jcell_re {c : ClassId} {t n : Nat} {f g : Int → Int} (hfg : ∀ i : Int, 0 ≤ i → i < n → f i = g i) : vp_cell c (jArr t n f) = vp_cell c (jArr t n g) := by
  have e : ∀ j : Fin n, f ((j.val : Nat) : Int) = g ((j.val : Nat) : Int) := fun j => hfg _ (by omega) (by omega)
  have e1 : ∀ {α : Type} (w : Int → α), (fun j : Fin n => w (f ((j.val : Nat) : Int))) = fun j : Fin n => w (g ((j.val : Nat) : Int)) := fun w => funext fun j => congrArg w (e j)
  match t with
  | 4 => exact congrArg (fun z => ({ cls := c, slots := Array.ofFn (n := n) z, vm := .none } : Cell)) (e1 fun x => Value.long (Int64.ofInt x))
  | 5 => exact congrArg (fun z => ({ cls := c, slots := Array.ofFn (n := n) z, vm := .none } : Cell)) (e1 fun x => Value.double (UInt64.ofNat x.toNat))
  | 0 => exact congrArg (fun z => ({ cls := c, slots := Array.ofFn (n := n) z, vm := .none } : Cell)) (e1 fun x => Value.int (Int32.ofInt x))
  | 1 => exact congrArg (fun z => ({ cls := c, slots := Array.ofFn (n := n) z, vm := .none } : Cell)) (e1 fun x => Value.int (Int32.ofInt x))
  | 2 => exact congrArg (fun z => ({ cls := c, slots := Array.ofFn (n := n) z, vm := .none } : Cell)) (e1 fun x => Value.int (Int32.ofInt x))
  | 3 => exact congrArg (fun z => ({ cls := c, slots := Array.ofFn (n := n) z, vm := .none } : Cell)) (e1 fun x => Value.int (Int32.ofInt x))
  | k + 6 => exact congrArg (fun z => ({ cls := c, slots := Array.ofFn (n := n) z, vm := .none } : Cell)) (e1 fun x => Value.int (Int32.ofInt x))
theorem jW.re {D : va_G} {cy : Nat → ClassId} {ad : Nat → Nat} {bs k t n : Nat} {H : Heap} {f g : Int → Int} (hW : jW D cy ad bs h H) (hk : h k = some (jA t n f)) (hfg : ∀ i : Int, 0 ≤ i → i < n → f i = g i) : jW D cy ad bs (jup h k (jA t n g)) H := by
  obtain ⟨h1, h2, h3, h4, h5⟩ := hW
  have hne : ∀ j, jup h k (jA t n g) j ≠ none → h j ≠ none := by
    intro j hj
    by_cases hjk : j = k
    · rw [hjk, hk]; exact fun q => by cases q
    · rw [jup_n hjk rfl] at hj; exact hj
  have hne2 : ∀ j, h j ≠ none → jup h k (jA t n g) j ≠ none := by
    intro j hj
    by_cases hjk : j = k
    · rw [hjk, jup_s]; exact fun q => by cases q
    · rw [jup_n hjk rfl]; exact hj
  refine ⟨h1, fun j cj hj => ?_, fun i j hi hj => h3 i j (hne i hi) (hne j hj), fun j hj => h4 j (hne j hj), fun j cj hj k' hr => hne2 k' ?_⟩
  · by_cases hjk : j = k
    · subst hjk
      rw [jup_s] at hj
      cases hj
      have q := h2 _ _ hk
      show H[ad j]? = some (vp_cell (cy t) (jArr t n g))
      rw [← jcell_re hfg]
      exact q
    · exact h2 j cj (by rw [jup_n hjk rfl] at hj; exact hj)
  · by_cases hjk : j = k
    · subst hjk
      rw [jup_s] at hj
      cases hj
      exact jref_A hr
    · exact h5 j cj (by rw [jup_n hjk rfl] at hj; exact hj) k' hr
/-- another picture of the same array -/
theorem J.re {k t n : Nat} {f g : Int → Int} (hk : h k = some (jA t n f)) (hfg : ∀ i : Int, 0 ≤ i → i < n → f i = g i) (kk : J M R nw Z pc L st (jup h k (jA t n g)) nc ns) : J M R nw Z pc L st h nc ns := by
  intro p l e s m args below meth c H locs ls D cy ad ad0 bs hX
  obtain ⟨x1, x2, x3, x4, x5, x6, x7, x8, x9⟩ := hX
  exact kk p l e s m args below meth c H locs ls D cy ad ad0 bs ⟨x1, x2, x3, x4, x5, x6.re hk hfg, x7, x8, x9⟩
/-- 'super()' of a class whose superclass is Object -/
theorem j_objInit {a idx : Nat} (hd : decode M.2.1 pc = .ok (.invokespecial idx, 3)) (hl : Cond.methodLink M.1.cls idx Lib.objectInit ∈ jWL) (hi : Cond.instanceMethod Lib.objectInit ∈ jWL) (hc : Cond.code Lib.objectInit ⟨#[0xb1]⟩ 1 none ∈ jWL) (hR : 1 ≤ R.frames ∧ 20 ≤ R.locals) (hcat : (st.map fun v => v.category).sum ≤ 8) (kk : J M R nw Z (pc + 3) L st h nc ns) : J M R nw Z pc L (.ref a :: st) h nc ns := by
  intro p l e s m args below meth c H locs ls D cy ad ad0 bs hX
  have w := kk p l e s m args below meth c H locs ls D cy ad ad0 bs hX
  obtain ⟨⟨y1, y2, y3, y4, y5⟩, x2, x3, x4, x5, x6, x7, x8, x9⟩ := hX
  exact W.objInit y1 y2 y4 (y5 _ hl) (y5 _ hi) (y5 _ hc) rfl (x8.1.trans y3.symm) rfl hd hR.1 (by show 2 * 0 + _ + 12 ≤ _; rw [j_cats]; omega) w
/-- 'COMPACT_STRINGS' -/
theorem j_compact {i9 : Nat} (hl : Cond.fieldLink M.1.cls i9 "java/lang/String" "COMPACT_STRINGS" "Z" ∈ jWL) (hd : decode M.2.1 pc = .ok (.getstatic i9, 3)) (kk : J M R nw Z (pc + 3) L (iv 1 :: st) h nc ns) : J M R nw Z pc L st h nc ns := by
  intro p l e s m args below meth c H locs ls D cy ad ad0 bs hX
  have w := kk p l e s m args below meth c H locs ls D cy ad ad0 bs hX
  obtain ⟨⟨y1, y2, y3, y4, y5⟩, x2, x3, x4, x5, x6, x7, x8, x9⟩ := hX
  exact va_gets y1 y2 x3.2.2.2.1 x5 y4 (y5 _ hl) (fun _ q => q) hd w
theorem jfit_byte {v : Int} (hv : -128 ≤ v ∧ v < 128) : fits .byte (iv v) = true := by
  have h : ∀ k : Fin 256, fits .byte (iv ((k.val : Int) - 128)) = true := by decide +kernel
  have h2 := h ⟨(v + 128).toNat, by omega⟩
  have e : (((v + 128).toNat : Nat) : Int) - 128 = v := by omega
  rw [show ((⟨(v + 128).toNat, by omega⟩ : Fin 256).val : Int) - 128 = v from e] at h2
  exact h2
theorem jHold_byte {x : Int} (hx : -128 ≤ x ∧ x < 128) : jHold .byte (iv x) := fun _ => ⟨jn_byte hx, jfit_byte hx⟩
theorem jHold_null (ty : FieldType) (hn : fits ty .null = true) (hn2 : narrow ty .null = .null) : jHold ty .null := fun _ => ⟨hn2, hn⟩
/-- 'Math.max', 'Math.min' -/
theorem j_mmax {idx : Nat} {x y : Int} (hl : Cond.methodLink M.1.cls idx Lib.Math.max.name ∈ jWL) (hs : Cond.static Lib.Math.max.name ∈ jWL) (hi : Cond.initialized "java/lang/Math" ∈ jWL) (hc : Cond.code Lib.Math.max.name Lib.Math.max.code 2 (some .int) ∈ jWL) (hr : -2147483648 ≤ x ∧ x ≤ 2147483647 ∧ -2147483648 ≤ y ∧ y ≤ 2147483647) (hd : decode M.2.1 pc = .ok (.invokestatic idx, 3))
    (hR : 1 ≤ R.frames ∧ 21 ≤ R.locals) (hroom : nc ≤ R.cells ∧ ns ≤ R.slots) (hcat : (st.map fun v => v.category).sum ≤ 8) (kk : J M R nw Z (pc + 3) L (iv (max x y) :: st) h nc ns) : J M R nw Z pc L (iv y :: iv x :: st) h nc ns := by
  intro p l e s m args below meth c H locs ls D cy ad ad0 bs hX
  have w := kk p l e s m args below meth c H locs ls D cy ad ad0 bs hX
  obtain ⟨⟨y1, y2, y3, y4, y5⟩, x2, x3, x4, x5, x6, x7, x8, x9⟩ := hX
  refine va_mmax y1 y2 (y3.trans x8.1.symm) y4 (y5 _ hl) (y5 _ hs) (y5 _ hi) (y5 _ hc) hR.1 (by rw [j_cats]; omega) hroom.1 hroom.2 hd ?_
  refine w.stk (congrArg (fun z => Value.int z :: st.map (jv ad)) ?_)
  by_cases hxy : x < y
  · rw [if_pos ((j_lt hr).mpr hxy), Int.max_eq_right (by omega)]
  · rw [if_neg fun q => hxy ((j_lt hr).mp q), Int.max_eq_left (by omega)]
theorem j_mmin {idx : Nat} {x y : Int} (hl : Cond.methodLink M.1.cls idx Lib.Math.min.name ∈ jWL) (hs : Cond.static Lib.Math.min.name ∈ jWL) (hi : Cond.initialized "java/lang/Math" ∈ jWL) (hc : Cond.code Lib.Math.min.name Lib.Math.min.code 2 (some .int) ∈ jWL) (hr : -2147483648 ≤ x ∧ x ≤ 2147483647 ∧ -2147483648 ≤ y ∧ y ≤ 2147483647) (hd : decode M.2.1 pc = .ok (.invokestatic idx, 3))
    (hR : 1 ≤ R.frames ∧ 21 ≤ R.locals) (hroom : nc ≤ R.cells ∧ ns ≤ R.slots) (hcat : (st.map fun v => v.category).sum ≤ 8) (kk : J M R nw Z (pc + 3) L (iv (min x y) :: st) h nc ns) : J M R nw Z pc L (iv y :: iv x :: st) h nc ns := by
  intro p l e s m args below meth c H locs ls D cy ad ad0 bs hX
  have w := kk p l e s m args below meth c H locs ls D cy ad ad0 bs hX
  obtain ⟨⟨y1, y2, y3, y4, y5⟩, x2, x3, x4, x5, x6, x7, x8, x9⟩ := hX
  refine va_mmin y1 y2 (y3.trans x8.1.symm) y4 (y5 _ hl) (y5 _ hs) (y5 _ hi) (y5 _ hc) hR.1 (by rw [j_cats]; omega) hroom.1 hroom.2 hd ?_
  refine w.stk (congrArg (fun z => Value.int z :: st.map (jv ad)) ?_)
  by_cases hxy : y < x
  · rw [if_pos ((j_lt ⟨hr.2.2.1, hr.2.2.2, hr.1, hr.2.1⟩).mpr hxy), Int.min_eq_right (by omega)]
  · rw [if_neg fun q => hxy ((j_lt ⟨hr.2.2.1, hr.2.2.2, hr.1, hr.2.1⟩).mp q), Int.min_eq_left (by omega)]
theorem j_ldcI {i : Nat} {n : Int} (hd : decode M.2.1 pc = .ok (.ldc i, 2)) (hc : Cond.constant M.1.cls i (Int32.ofInt n) ∈ jWL) (kk : J M R nw Z (pc + 2) L (iv n :: st) h nc ns) : J M R nw Z pc L st h nc ns := by
  intro p l e s m args below meth c H locs ls D cy ad ad0 bs hX
  have w := kk p l e s m args below meth c H locs ls D cy ad ad0 bs hX
  obtain ⟨⟨y1, y2, y3, y4, y5⟩, x2, x3, x4, x5, x6, x7, x8, x9⟩ := hX
  exact lv_ldc y1 y2 y4 (y5 _ hc) hd w
end JR2
