/-! MORE ROWS: longs, shifts to the right, a copy of a row, copies out of the law's texts -/
theorem ushr_r (u : UInt32) {k : Nat} (hk : 1 ≤ k ∧ k < 32) : 0 ≤ (u >>> UInt32.ofNat k).toInt32.toInt := by
  have e : (u >>> UInt32.ofNat k).toNat < 2 ^ 31 := by
    rw [UInt32.toNat_shiftRight, show (UInt32.ofNat k).toNat = k from Nat.mod_eq_of_lt (Nat.lt_trans hk.2 (by decide)), Nat.mod_eq_of_lt hk.2, Nat.shiftRight_eq_div_pow]
    have h1 := u.toNat_lt
    have h2 : 2 ^ 1 ≤ 2 ^ k := Nat.pow_le_pow_right (by decide) hk.1
    have h3 : u.toNat / 2 ^ k ≤ u.toNat / 2 ^ 1 := Nat.div_le_div_left h2 (by decide)
    omega
  show 0 ≤ (u >>> UInt32.ofNat k).toBitVec.toInt
  rw [BitVec.toInt_eq_toNat_of_lt (by show 2 * (u >>> UInt32.ofNat k).toNat < 2 ^ 32; omega)]
  exact Int.natCast_nonneg _
theorem jz_remE {x y : Int} (hx : 0 ≤ x ∧ x ≤ 2147483647) (hy : 0 < y ∧ y ≤ 2147483647) : Int32.ofInt x - Int32.ofInt x / Int32.ofInt y * Int32.ofInt y = Int32.ofInt (x % y) := by
  rw [jz_rem (by omega) hy, Int.tdiv_eq_ediv_of_nonneg hx.1, Int.emod_def, Int.mul_comm]
section JR8
variable {M : jMe} {R : Room} {nw : List Nat} {Z : jFin} {pc pc' : Nat} {L L' : List (Nat × Value)} {st st' : List Value} {h h' : jH} {nc ns nc' ns' mc ms : Nat} {Pn : jPn} {Px : jPx}
theorem j_iushr {x y : Int} (k : Nat) (hk : 1 ≤ k ∧ k < 32) (hd : decode M.2.1 pc = .ok (.iushr, 1)) (hy : (Int32.ofInt y).toUInt32 &&& Int32.toUInt32 31 = UInt32.ofNat k) (kk : ∀ z : Int, 0 ≤ z → z ≤ 2147483647 → J M R nw Z (pc + 1) L (iv z :: st) h nc ns) : J M R nw Z pc L (iv y :: iv x :: st) h nc ns := by
  have h1 := ushr_r (Int32.ofInt x).toUInt32 hk
  have h2 := Int32.toInt_lt ((Int32.ofInt x).toUInt32 >>> UInt32.ofNat k).toInt32
  refine (kk ((Int32.ofInt x).toUInt32 >>> UInt32.ofNat k).toInt32.toInt h1 (by omega)).of fun _ _ _ _ _ _ _ _ _ _ _ _ ad _ hx hb _ w => lv_iushr hx hb hd rfl (w.stk (congrArg (fun z => Value.int z :: st.map (jv ad)) ?_))
  rw [Int32.ofInt_toInt, hy]
theorem j_rem {x y : Int} (hd : decode M.2.1 pc = .ok (.irem, 1)) (hx : 0 ≤ x ∧ x ≤ 2147483647) (hy : 0 < y ∧ y ≤ 2147483647) (kk : 0 ≤ x % y → x % y < y → J M R nw Z (pc + 1) L (iv (x % y) :: st) h nc ns) : J M R nw Z pc L (iv y :: iv x :: st) h nc ns :=
  j_irem hd (jz_ne (by omega) (by omega)) (jz_remE hx hy) (kk (Int.emod_nonneg _ (by omega)) (Int.emod_lt_of_pos _ hy.1))
theorem j_lload_n {k4 : Fin 4} {i : Nat} {x : Int} (hd : decode M.2.1 pc = .ok (.lload_n k4, 1)) (hi : (k4 : Nat) = i) (hv : L.lookup i = some (jl x)) (k : J M R nw Z (pc + 1) L (jl x :: st) h nc ns) : J M R nw Z pc L st h nc ns :=
  k.of fun _ _ _ _ _ _ _ _ _ _ _ _ _ _ hx hb hl w => lv_lload_n hx hb hd hi (jL_at hl hv) w
theorem j_lstore_n {k4 : Fin 4} {i : Nat} {x : Int} (hd : decode M.2.1 pc = .ok (.lstore_n k4, 1)) (hi : (k4 : Nat) = i) (hn : i + 1 < M.2.2.1) (he : jst2 i (jl x) L = L') (k : J M R nw Z (pc + 1) L' st h nc ns) : J M R nw Z pc L (jl x :: st) h nc ns :=
  k.ofL fun _ _ _ _ _ _ _ _ _ _ _ _ _ _ hx hb hl w => lv_lstore_n hx hb hd hi hl hn rfl fun ls' hl' => w ls' (jLs_st2 (v := jl x) hl' he)
theorem j_ladd {x y : Int} (hd : decode M.2.1 pc = .ok (.ladd, 1)) (k : J M R nw Z (pc + 1) L (jl (x + y) :: st) h nc ns) : J M R nw Z pc L (jl y :: jl x :: st) h nc ns :=
  k.of fun _ _ _ _ _ _ _ _ _ _ _ _ ad _ hx hb _ w => lv_ladd hx hb hd (w.stk (congrArg (fun z => Value.long z :: st.map (jv ad)) (Int64.ofInt_add x y)))
theorem j_lmul {x y : Int} (hd : decode M.2.1 pc = .ok (.lmul, 1)) (k : J M R nw Z (pc + 1) L (jl (x * y) :: st) h nc ns) : J M R nw Z pc L (jl y :: jl x :: st) h nc ns :=
  k.of fun _ _ _ _ _ _ _ _ _ _ _ _ ad _ hx hb _ w => lv_lmul hx hb hd (w.stk (congrArg (fun z => Value.long z :: st.map (jv ad)) (Int64.ofInt_mul x y)))
theorem j_ldc2 {idx : Nat} {x : Int} {v : Int64} (hd : decode M.2.1 pc = .ok (.ldc2_w idx, 3)) (hv : Int64.ofInt x = v) (hc : Cond.constantLong M.1.cls idx v ∈ jWL) (k : J M R nw Z (pc + 3) L (jl x :: st) h nc ns) : J M R nw Z pc L st h nc ns := by
  intro p l e s m args below meth c H locs ls D cy ad ad0 bs hX
  have w := k p l e s m args below meth c H locs ls D cy ad ad0 bs hX
  obtain ⟨⟨y1, y2, y3, y4, y5⟩, -⟩ := hX
  refine lv_ldc2 y1 y2 y4 (y5 _ hc) hd ?_
  rw [← hv]
  exact w
theorem j_lcmpR {x : Int} (hd : decode M.2.1 pc = .ok (.lcmp, 1)) (kk : J M R nw Z (pc + 1) L (iv 0 :: st) h nc ns) : J M R nw Z pc L (jl x :: jl x :: st) h nc ns :=
  kk.of fun _ _ _ _ _ _ _ _ _ _ _ _ ad _ hx hb _ w => W.lcmp hx hb hd (w.stk (congrArg (fun z => z :: st.map (jv ad)) (by
    show Value.int (Int32.ofInt 0) = Value.int (lg_cmp (Int64.ofInt x) (Int64.ofInt x))
    unfold lg_cmp
    simp)))
theorem j_lreturn {x : Int} (hd : decode M.2.1 pc = .ok (.lreturn, 1)) (hr : M.2.2.2.1 = some .long) (hp : Pn (some (jl x)) h) (hc : nc ≤ mc) (hs : ns ≤ ms) : J M R nw (jZ nw mc ms Pn Px) pc L [jl x] h nc ns :=
  J.ofR hp hc hs fun _ _ _ _ _ _ _ _ _ _ _ _ _ _ _ hx hb ht hl q1 q2 => W.lret hx hb (ht.trans hr) q1 q2 hd hl
end JR8
/-- a row is copied whole: its proof follows va_clone of the kit, said cell by cell -/
theorem jx_clone {p : Program} {l : Launch} {e : Env} {R : Room} {s : State} {m : MethodId} {args : Array Value} {below : List Frame} {meth : Method} {c : Code} {H : Heap} {locs : List Loc} {cells slots : Nat} {Q : State → Prop} {ls : Array Slot} {rest : List Value} {cc : ByteArray} {a : Nat} {pc : Nat} (hexec : p.tables.exec = Jvm.exec) (hb : c.code = cc) (hml : c.maxLocals = ls.size) {own ad : String} {index : Nat} (hown : s.vm.findClass own = some m.cls)
    (hlink : (Cond.methodLink own index ⟨ad, "clone", "()Ljava/lang/Object;"⟩).before args s = true) (hsame : (Cond.sameMethod ad "java/lang/Object" "clone" "()Ljava/lang/Object;").before args s = true)
    (hnat : (Cond.native ⟨"java/lang/Object", "clone", "()Ljava/lang/Object;"⟩).before args s = true) (hinst : (Cond.instanceMethod ⟨"java/lang/Object", "clone", "()Ljava/lang/Object;"⟩).before args s = true)
    (hsel : (Cond.selects ad ⟨ad, "clone", "()Ljava/lang/Object;"⟩ ⟨"java/lang/Object", "clone", "()Ljava/lang/Object;"⟩).before args s = true) (hcl : va_Nw (.castable ad "java/lang/Cloneable") s)
    {cA : ClassId} {x : vp_A} {ty : FieldType} (hcell : H[a]? = some (vp_cell cA x)) (hAr : ArrOfT s cA ty)
    (hnm : s.vm.findClass ad = some cA) (hfit : ∀ (i : Nat) (v : Value), (vp_cell cA x).slots[i]? = some v → fits ty v = true)
    (hframes : 1 ≤ R.frames) (hlocals : (rest.map fun v => v.category).sum + 14 ≤ R.locals) (hcells : cells + 1 ≤ R.cells) (hslots : slots + x.1 ≤ R.slots) (hdg : decode cc pc = .ok (.invokevirtual index, 3))
    (kk : ∀ H1 : Heap, H1[H.size]? = some (vp_cell cA x) → H1.size = H.size + 1 → (∀ q : Nat, q < H.size → H1[q]? = H[q]?) →
      W p l e R s m args below meth c H1 locs (cells + 1) (slots + x.1) Q (F0 m (pc + 3) ls (.ref H.size :: rest))) : W p l e R s m args below meth c H locs cells slots Q (F0 m pc ls (.ref a :: rest)) := by
  have hsz : (vp_cell cA x).slots.size = x.1 := by
    obtain ⟨n, f | f | f | f | f⟩ := x <;> exact arrV_size _ _ _
  have hvm0 : (vp_cell cA x).vm = .none := by
    obtain ⟨n, f | f | f | f | f⟩ := x <;> rfl
  have hcl0 : (vp_cell cA x).cls = cA := by
    obtain ⟨n, f | f | f | f | f⟩ := x <;> rfl
  have hcellE : ({ cls := (vp_cell cA x).cls, slots := (vp_cell cA x).slots } : Cell) = vp_cell cA x := by
    obtain ⟨n, f | f | f | f | f⟩ := x <;> rfl
  obtain ⟨c0, t0', f1, f2, f3⟩ := Cond.castable_spec (va_Nw.use (A := args) rfl hcl)
  cases hnm.symm.trans f1
  intro T hT X
  have hcellT : T.heap[a]? = some (vp_cell cA x) := by rw [hT]; exact hcell
  obtain ⟨-, kA, hkA, comp, hkind⟩ := State.isArrayOf_alike X.warmed.alike (hAr 0 (fun _ => .null))
  obtain ⟨-, kS, hkS, compS, hkindS⟩ := hAr 0 (fun _ => .null)
  obtain ⟨vm', X', st⟩ := X.cloneArray hexec hown hlink hsame hnat hinst hsel (a := a) (cell := vp_cell cA x) hcellT (fun k h => by rw [hvm0] at h; cases h) (by rw [hvm0]; exact fun h => by cases h) (by rw [hcl0]; exact hnm) f2 (by rw [hcl0]; exact f3)
    (fun i v hv => by
      rw [hcl0]
      have hk' : T.vm.classes[cA]? = some kA := hkA
      simpa [State.fitsSlot, State.slotType?, hk', hkind] using hfit i v hv)
    (g := F0 m pc ls (.ref a :: rest)) rfl (by rw [hml]) rfl (by rw [hb]; exact hdg) hframes (by show 2 * 0 + _ + 14 ≤ _; omega) hcells (by rw [hsz]; exact hslots) (hloader := by rw [hcl0]; exact Vm.clonesLoader_of_array hkS hkindS)
  rw [hcellE, hsz] at X'
  obtain ⟨t, b1, b2⟩ := kk (H.push (vp_cell cA x)) (by rw [Array.getElem?_push_size]) (by rw [Array.size_push]) (fun q hq => by rw [Array.getElem?_push, if_neg (Nat.ne_of_lt hq)])
    ((T.setVm vm').pushCell (vp_cell cA x)) (by rw [← hT]; rfl) X'
  refine ⟨t, st t ?_, b2⟩
  rw [hcellE, hT]
  exact b1
section JR9
variable {M0 : jMe} {Ln : Nat} {xs : Nat → Int32} {R : Room} {nw : List Nat} {Z : jFin} {pc pc' : Nat} {L L' : List (Nat × Value)} {st st' : List Value} {h h' : jH} {nc ns nc' ns' mc ms : Nat} {Pn : jPn} {Px : jPx}
theorem j_cloneB {a k n idx : Nat} {f : Int → Int} (hd : decode M0.2.1 pc = .ok (.invokevirtual idx, 3)) (hlk : Cond.methodLink M0.1.cls idx ⟨"[B", "clone", "()Ljava/lang/Object;"⟩ ∈ jWL) (hcat : (st.map fun v => v.category).sum ≤ 8) (ha : h a = some (jA 3 n f)) (hb : ∀ j, 0 ≤ f j ∧ f j < 128) (hk : h k = none) (hkn : k ∈ nw) (hfr : jfr [k] L st) (hR : 1 ≤ R.frames ∧ 64 ≤ R.locals) (hroom : nc + 1 ≤ R.cells ∧ ns + n ≤ R.slots)
    (kk : J (pMe M0 Ln xs) R nw Z (pc + 3) L (.ref k :: st) (jup h k (jA 3 n f)) (nc + 1) (ns + n)) : J (pMe M0 Ln xs) R nw Z pc L (.ref a :: st) h nc ns := by
  refine J.ofN hk hkn hfr (fun _ hr => jref_A hr) kk fun p l e s m args below meth c9 H locs ls D cy ad ad0 bs Q hX w => ?_
  obtain ⟨⟨y1, y2, y3, y4, y5⟩, x2, x3, x4, x5, x6, x7, x8, x9, x10⟩ := hX
  have hc := x6.2.1 a _ ha
  have hAr := (x4.2 3 (cy 3, jty 3) rfl)
  have hnm : s.vm.findClass "[B" = some (cy 3) := va_RA_prim (jty_prim (t := 3) (by decide)) hAr.2
  refine jx_clone (ad := "[B") (x := jArr 3 n f) (ty := .byte) y1 y2 (y3.trans x8.1.symm) y4 (y5 _ hlk) (y5 _ (jw_mem 933 (by decide +kernel) (by decide +kernel))) (y5 _ (jw_mem 934 (by decide +kernel) (by decide +kernel))) (y5 _ (jw_mem 935 (by decide +kernel) (by decide +kernel))) (y5 _ (jw_mem 936 (by decide +kernel) (by decide +kernel))) x10.2.2.2 hc hAr.1 hnm (fun i v hv => ?_) hR.1 (by rw [j_cats]; omega) hroom.1 hroom.2 hd fun H1 e1 z1 o1 => w H1 e1 z1 o1
  have hi : i < n := by
    have q := (Array.getElem?_eq_some_iff.mp hv).1
    have e : (vp_cell (cy 3) (jArr 3 n f)).slots.size = n := arrV_size _ _ _
    exact Nat.lt_of_lt_of_eq q e
  have e : (vp_cell (cy 3) (jArr 3 n f)).slots[i]? = some (iv (f i)) := arrV_read _ _ hi
  rw [e] at hv
  cases hv
  exact jfit_byte (by have := hb i; omega)
theorem j_castB {a n idx : Nat} {f : Int → Int} (hd : decode M0.2.1 pc = .ok (.checkcast idx, 3)) (hlk : Cond.classLink M0.1.cls idx "[B" ∈ jWL) (ha : h a = some (jA 3 n f)) (kk : J (pMe M0 Ln xs) R nw Z (pc + 3) L (.ref a :: st) h nc ns) : J (pMe M0 Ln xs) R nw Z pc L (.ref a :: st) h nc ns := by
  intro p l e s m args below meth c H locs ls D cy ad ad0 bs hX
  have w := kk p l e s m args below meth c H locs ls D cy ad ad0 bs hX
  obtain ⟨⟨y1, y2, y3, y4, y5⟩, x2, x3, x4, x5, x6, x7, x8, x9, x10⟩ := hX
  have hAr := (x4.2 3 (cy 3, jty 3) rfl)
  have hnm : s.vm.findClass "[B" = some (cy 3) := va_RA_prim (jty_prim (t := 3) (by decide)) hAr.2
  exact va_castA y1 y2 y4 (y5 _ hlk) (j_one (x6.2.1 a _ ha)) 0 rfl hnm hd w
/-- System.arraycopy out of a text of the law -/
theorem jx_copyc {p : Program} {l : Launch} {e : Env} {R : Room} {s : State} {m : MethodId} {args : Array Value} {below : List Frame} {meth : Method} {c : Code} {H : Heap} {locs : List Loc} {cells slots : Nat} {Q : State → Prop} {ls : Array Slot} {rest : List Value} {cc : ByteArray} {A : Nat → Prop} {pc a : Nat} (hexec : p.tables.exec = Jvm.exec) (hb : c.code = cc) (hml : c.maxLocals = ls.size) {own : String} {index : Nat} (hown : s.vm.findClass own = some m.cls) (hlink : (Cond.methodLink own index arraycopyName).before args s = true) (hnat : (Cond.native arraycopyName).before args s = true) (hstat : (Cond.static arraycopyName).before args s = true) (hini : (Cond.initialized "java/lang/System").before args s = true)
    {b0 n0 : Nat} {f : Nat → Int32} (hX : va_T .byte b0 n0 (fun j => .int (f j)) A s s.heap) (hS : va_S A s.heap H locs) {c1 : ClassId} {n1 : Nat} {g : Nat → Int32} (hc1 : H[a]? = some (vp_cell c1 (n1, .inl g))) (hA1 : ArrOfT s c1 .byte)
    {sp dp n : Int32} (h1 : ¬ sp < 0) (h2 : ¬ dp < 0) (h3 : ¬ n < 0) (h4 : sp.toNatClampNeg + n.toNatClampNeg ≤ n0) (h5 : dp.toNatClampNeg + n.toNatClampNeg ≤ n1) (hfit : ∀ i : Nat, i < n.toNatClampNeg → fits .byte (.int (f (sp.toNatClampNeg + i))) = true)
    (hframes : 1 ≤ R.frames) (hlocals : (rest.map fun v => v.category).sum + (nativeFrameWords "java/lang/System" "arraycopy" 5 + 11) ≤ R.locals) (hdg : decode cc pc = .ok (.invokestatic index, 3))
    (kk : ∀ (H1 : Heap) (locs1 : List Loc), H1[a]? = some (vp_cell c1 (n1, .inl (va_cpy f g sp.toNatClampNeg dp.toNatClampNeg n.toNatClampNeg))) → H1.size = H.size → (∀ q : Nat, q ≠ a → H1[q]? = H[q]?) → (∀ z ∈ locs1, z ∈ locs ∨ z.base = a) → W p l e R s m args below meth c H1 locs1 cells slots Q (F0 m (pc + 3) ls rest)) : W p l e R s m args below meth c H locs cells slots Q (F0 m pc ls (.int n :: .int dp :: .ref a :: .int sp :: .ref b0 :: rest)) := by
  have nn : ∀ z : Int32, ¬ z < 0 → z.toInt = (z.toNatClampNeg : Int) := by
    intro z hz
    have hz0 : (0 : Int) ≤ z.toInt := by
      have := Int32.not_lt.mp hz
      simpa using Int32.le_iff_toInt_le.mp this
    show z.toInt = ((z.toInt.toNat : Nat) : Int)
    omega
  intro T hT X
  obtain ⟨scr, hs1, hs2, hs3, hs4, -, hs5, hs7⟩ := hX
  have hc0 : H[b0]? = some scr := by rw [hS.2.1 b0 (Array.getElem?_eq_some_iff.mp hs1).1 hs7]; exact hs1
  obtain ⟨hs6, k0, hk0, cm0, hkk0⟩ := hs2
  obtain ⟨-, k1, hk1, cm1, hkk1⟩ := hA1 n1 (fun j => .int (g j))
  obtain ⟨vm', X', step⟩ := X.arraycopy hexec hown hlink hnat hstat hini (src := b0) (dst := a) (cs := scr) (cd := vp_cell c1 (n1, .inl g)) (srcPos := sp) (destPos := dp) (n := n) (by rw [hT]; exact hc0) (by rw [hT]; exact hc1)
    hs6 (fun _ h => by cases h) hs3 (fun h => by cases h) hk0 hk1 hkk0 hkk1 (by simp [refKind]) h1 h2 h3
    (by rw [nn sp h1, nn n h3]; omega)
    (by rw [nn dp h2, nn n h3]; show ¬ _ > ((arrV c1 n1 (fun j => .int (g j))).slots.size : Int); rw [arrV_size]; omega)
    (fun vm₁ _ i hi => by
      have e : scr.slots.getD (sp.toNatClampNeg + i) .null = .int (f (sp.toNatClampNeg + i)) := by
        rw [Array.getD_eq_getD_getElem?, hs5 _ (by omega)]
        rfl
      refine ⟨?_, ?_⟩
      · rw [e]
        exact hfit i hi
      · rw [e]
        exact trivial)
    (g := F0 m pc ls (.int n :: .int dp :: .ref a :: .int sp :: .ref b0 :: rest)) rfl (by rw [hml]) (rest := rest) rfl (by rw [hb]; exact hdg) hframes (by show 2 * 0 + _ + _ ≤ _; omega)
  have e1 : copied scr (vp_cell c1 (n1, .inl g)) sp dp n = vp_cell c1 (n1, .inl (va_cpy f g sp.toNatClampNeg dp.toNatClampNeg n.toNatClampNeg)) := va_copiedX (fun z => .int z) scr c1 f g hs5 h4
  rw [e1] at X' step
  have hl : a < H.size := (Array.getElem?_eq_some_iff.mp hc1).1
  have hheap : ((T.setVm vm').setCell a (vp_cell c1 (n1, .inl (va_cpy f g sp.toNatClampNeg dp.toNatClampNeg n.toNatClampNeg)))).heap = H.setIfInBounds a (vp_cell c1 (n1, .inl (va_cpy f g sp.toNatClampNeg dp.toNatClampNeg n.toNatClampNeg))) := by rw [← hT]; rfl
  have oq : ∀ q : Nat, q ≠ a → (H.setIfInBounds a (vp_cell c1 (n1, .inl (va_cpy f g sp.toNatClampNeg dp.toNatClampNeg n.toNatClampNeg))))[q]? = H[q]? := fun q hq => by simp [Array.getElem?_setIfInBounds, Ne.symm hq]
  obtain ⟨t, a1, b1⟩ := kk _ _ (show (H.setIfInBounds a _)[a]? = some _ by simp [Array.getElem?_setIfInBounds, hl]) (by simp) oq (fun z hz => by
      rcases List.mem_append.mp hz with h | h
      · exact Or.inl h
      · obtain ⟨z9, -, hz9⟩ := List.mem_map.mp h
        exact Or.inr (by rw [← hz9])) _ hheap X'
  exact ⟨t, step t a1, b1⟩
theorem tL_b : ∀ i : Fin 10, ∀ j : Fin 4, 0 ≤ (tL i.val).getD j.val 0 ∧ (tL i.val).getD j.val 0 < 128 ∧ (tL i.val).length ≤ 3 := by decide
theorem tL_r {i : Nat} (hi : i < 10) (j : Nat) : 0 ≤ (tL i).getD j 0 ∧ (tL i).getD j 0 < 128 := by
  have hl := (tL_b ⟨i, hi⟩ 0).2.2
  by_cases hj : j < 4
  · exact ⟨(tL_b ⟨i, hi⟩ ⟨j, hj⟩).1, (tL_b ⟨i, hi⟩ ⟨j, hj⟩).2.1⟩
  · have e : (tL i).getD j 0 = 0 := by
      rw [List.getD_eq_getElem?_getD, List.getElem?_eq_none (by have hl : (tL i).length ≤ 3 := hl; omega)]
      rfl
    rw [e]
    decide
theorem tL_l {i : Nat} (hi : i < 10) : (tL i).length ≤ 3 := (tL_b ⟨i, hi⟩ 0).2.2
/-- letters at their places -/
def lfn (l : List Int) : Int → Int := fun j => l.getD j.toNat 0
theorem j_copyC {i a n1 idx : Nat} {g : Int → Int} {dp : Int} (hi : i < 10) (hnw : pNw nw) (hd : decode M0.2.1 pc = .ok (.invokestatic idx, 3)) (hlk : Cond.methodLink M0.1.cls idx arraycopyName ∈ jWL) (h1 : h a = some (jA 3 n1 g))
    (hr : 0 ≤ dp ∧ dp + ((tL i).length : Int) ≤ n1 ∧ (n1 : Int) ≤ 1000000) (hR : 1 ≤ R.frames ∧ 64 ≤ R.locals) (hcat : (st.map fun v => v.category).sum ≤ 8)
    (kk : J (pMe M0 Ln xs) R nw Z (pc + 3) L st (jup h a (jA 3 n1 (jcpy (lfn (tL i)) g 0 dp (tL i).length))) nc ns) : J (pMe M0 Ln xs) R nw Z pc L (iv ((tL i).length : Int) :: iv dp :: .ref a :: iv 0 :: .ref (401 + 2 * i) :: st) h nc ns := by
  intro p l e s m args below meth c H locs ls D cy ad ad0 bs hX
  obtain ⟨⟨y1, y2, y3, y4, y5⟩, x2, x3, x4, x5, x6, x7, x8, x9, x10⟩ := id hX
  obtain ⟨-, -, -, g4, -⟩ := (x10.ad hnw x7).2.2.1 i hi
  have hl3 := tL_l hi
  have hdp := j_nat hr.1 (by omega : dp ≤ 2147483647)
  have hn := j_nat (x := ((tL i).length : Int)) (by omega) (by omega)
  have hsp := j_nat (x := 0) (by omega) (by omega)
  have hneg : ∀ x : Int, 0 ≤ x → x ≤ 2147483647 → ¬ Int32.ofInt x < 0 := fun x q1 q2 q => by
    rw [Int32.lt_iff_toInt_lt, j_toI (by omega)] at q
    simp at q
    omega
  have e1 : H[ad a]? = some (vp_cell (cy 3) (n1, .inl fun j => Int32.ofInt (g j))) := x6.2.1 a _ h1
  have hAr := (x4.2 3 (cy 3, jty 3) rfl).1
  have hnw9 : nativeFrameWords "java/lang/System" "arraycopy" 5 + 11 ≤ 50 := by decide +kernel
  refine jx_copyc (f := fun j => Int32.ofInt ((tL i).getD j 0)) y1 y2 (y3.trans x8.1.symm) y4 (y5 _ hlk) (y5 _ (jw_mem 944 (by decide +kernel) (by decide +kernel))) (y5 _ (jw_mem 943 (by decide +kernel) (by decide +kernel))) (y5 _ (jw_mem 68 (by decide +kernel) (by decide +kernel))) g4 x5 e1 hAr (hneg 0 (by omega) (by omega)) (hneg dp hr.1 (by omega)) (hneg _ (by omega) (by omega)) (by rw [hsp, hn]; omega) (by rw [hdp, hn]; omega) (fun j hj => jfit_byte (by have := tL_r hi ((Int32.ofInt 0).toNatClampNeg + j); omega)) hR.1 (by rw [j_cats]; omega) hd fun H1 locs1 q1 q2 q3 q4 => ?_
  have hne : h a ≠ none := by rw [h1]; exact fun z => by cases z
  refine kk p l e s m args below meth c H1 locs1 ls D cy ad ad0 bs ⟨⟨y1, y2, y3, y4, y5⟩, x2, x3, x4, ⟨by rw [q2]; exact x5.1, fun q g1 g2 => ?_, fun z hz => ?_⟩, x6.set h1 q2 ?_ q3 (fun _ hr => jref_A hr), x7, x8, x9, x10⟩
  · rw [q3 q fun e => g2 (by rw [e]; exact x6.2.2.2.1 a hne)]
    exact x5.2.1 q g1 g2
  · rcases q4 z hz with q | q
    · exact x5.2.2 z q
    · show bs ≤ z.base
      rw [q]; exact x6.2.2.2.1 a hne
  · show H1[ad a]? = some (vp_cell (cy 3) (jArr 3 n1 (jcpy (lfn (tL i)) g 0 dp (tL i).length)))
    rw [q1, hsp, hdp, hn]
    show some (vp_cell (cy 3) (n1, .inl _)) = some (vp_cell (cy 3) (n1, .inl _))
    congr 3
    congr 1
    funext k
    show va_cpy _ _ _ _ _ k = Int32.ofInt (jcpy (lfn (tL i)) g 0 dp (tL i).length k)
    unfold va_cpy jcpy lfn
    by_cases hk : dp.toNat ≤ k ∧ k < dp.toNat + ((tL i).length : Int).toNat
    · rw [if_pos hk, if_pos (by omega)]
      show Int32.ofInt ((tL i).getD ((0 : Int).toNat + (k - dp.toNat)) 0) = _
      rw [show (0 : Int).toNat + (k - dp.toNat) = (0 + ((k : Int) - dp)).toNat by omega]
    · rw [if_neg hk, if_neg (by omega)]
end JR9
