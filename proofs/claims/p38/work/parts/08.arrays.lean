section JA1
variable {M : jMe} {R : Room} {nw : List Nat} {Z : jFin} {pc pc' : Nat} {L L' : List (Nat × Value)} {st st' : List Value} {h h' : jH} {nc ns nc' ns' : Nat}
theorem j_one {D : va_G} {cy : Nat → ClassId} {ad : Nat → Nat} {H : Heap} {a : Nat} {c : jC} (hp : va_at D jcl (ad a, jE cy ad c) H) : va_P D jcl [(ad a, jE cy ad c)] H := fun k9 q9 h9 => by
  have : k9 = 0 := by
    have := (List.getElem?_eq_some_iff.mp h9).1
    simp at this; omega
  subst this
  cases h9
  exact hp
theorem j_fx {f : Int → Int} {x : Int} (h0 : 0 ≤ x) (h1 : x ≤ 2147483647) : f ((Int32.ofInt x).toNatClampNeg : Nat) = f x := by
  rw [j_nat h0 h1, Int.toNat_of_nonneg h0]
/-- what a walk over a read row needs -/
theorem J.ofA {a : Nat} {c0 : jC} (ha : h a = some c0) (kk : J M R nw Z pc' L st' h nc ns)
    (f : ∀ (p : Program) (l : Launch) (e : Env) (s : State) (m : MethodId) (args : Array Value) (below : List Frame) (meth : Method) (c : Code) (H : Heap) (locs : List Loc) (ls : Array Slot) (D : va_G) (cy : Nat → ClassId) (ad : Nat → Nat) (Q : State → Prop), p.tables.exec = Jvm.exec → c.code = M.2.1 → va_K D jcl (jtys cy) s → va_P D jcl [(ad a, jE cy ad c0)] H →
      W p l e R s m args below meth c H locs nc ns Q (F0 m pc' ls (st'.map (jv ad))) → W p l e R s m args below meth c H locs nc ns Q (F0 m pc ls (st.map (jv ad)))) : J M R nw Z pc L st h nc ns :=
  fun p l e s m args below meth c H locs ls D cy ad ad0 bs hX => f p l e s m args below meth c H locs ls D cy ad _ hX.1.1 hX.1.2.1 hX.2.2.2.1 (j_one (hX.2.2.2.2.2.1.2.1 a c0 ha)) (kk p l e s m args below meth c H locs ls D cy ad ad0 bs hX)
theorem j_iaload {a n : Nat} {x : Int} {f : Int → Int} (hd : decode M.2.1 pc = .ok (.iaload, 1)) (ha : h a = some (jA 0 n f)) (hi : 0 ≤ x ∧ x < n) (hn : n ≤ 2147483647) (kk : J M R nw Z (pc + 1) L (iv (f x) :: st) h nc ns) : J M R nw Z pc L (iv x :: .ref a :: st) h nc ns :=
  J.ofA ha kk fun _ _ _ _ _ _ _ _ _ _ _ _ D cy ad _ hx hb hK hP w => va_iald (tys := jtys cy) hx hb hK hP 0 0 rfl rfl (j_vin hi hn) hd (w.stk (congrArg (fun z => Value.int (Int32.ofInt z) :: st.map (jv ad)) (j_fx hi.1 (by omega)).symm))
theorem j_zaload {a n : Nat} {x : Int} {f : Int → Int} (hd : decode M.2.1 pc = .ok (.baload, 1)) (ha : h a = some (jA 1 n f)) (hi : 0 ≤ x ∧ x < n) (hn : n ≤ 2147483647) (kk : J M R nw Z (pc + 1) L (iv (f x) :: st) h nc ns) : J M R nw Z pc L (iv x :: .ref a :: st) h nc ns :=
  J.ofA ha kk fun _ _ _ _ _ _ _ _ _ _ _ _ D cy ad _ hx hb hK hP w => va_zald (tys := jtys cy) hx hb hK hP 0 1 rfl rfl (j_vin hi hn) hd (w.stk (congrArg (fun z => Value.int (Int32.ofInt z) :: st.map (jv ad)) (j_fx hi.1 (by omega)).symm))
theorem j_caload {a n : Nat} {x : Int} {f : Int → Int} (hd : decode M.2.1 pc = .ok (.caload, 1)) (ha : h a = some (jA 2 n f)) (hi : 0 ≤ x ∧ x < n) (hn : n ≤ 2147483647) (kk : J M R nw Z (pc + 1) L (iv (f x) :: st) h nc ns) : J M R nw Z pc L (iv x :: .ref a :: st) h nc ns :=
  J.ofA ha kk fun _ _ _ _ _ _ _ _ _ _ _ _ D cy ad _ hx hb hK hP w => va_cald (tys := jtys cy) hx hb hK hP 0 2 rfl rfl (j_vin hi hn) hd (w.stk (congrArg (fun z => Value.int (Int32.ofInt z) :: st.map (jv ad)) (j_fx hi.1 (by omega)).symm))
theorem j_baload {a n : Nat} {x : Int} {f : Int → Int} (hd : decode M.2.1 pc = .ok (.baload, 1)) (ha : h a = some (jA 3 n f)) (hi : 0 ≤ x ∧ x < n) (hn : n ≤ 2147483647) (kk : J M R nw Z (pc + 1) L (iv (f x) :: st) h nc ns) : J M R nw Z pc L (iv x :: .ref a :: st) h nc ns :=
  J.ofA ha kk fun _ _ _ _ _ _ _ _ _ _ _ _ D cy ad _ hx hb hK hP w => va_bald (tys := jtys cy) hx hb hK hP 0 3 rfl rfl (j_vin hi hn) hd (w.stk (congrArg (fun z => Value.int (Int32.ofInt z) :: st.map (jv ad)) (j_fx hi.1 (by omega)).symm))
theorem j_laload {a n : Nat} {x : Int} {f : Int → Int} (hd : decode M.2.1 pc = .ok (.laload, 1)) (ha : h a = some (jA 4 n f)) (hi : 0 ≤ x ∧ x < n) (hn : n ≤ 2147483647) (kk : J M R nw Z (pc + 1) L (jl (f x) :: st) h nc ns) : J M R nw Z pc L (iv x :: .ref a :: st) h nc ns :=
  J.ofA ha kk fun _ _ _ _ _ _ _ _ _ _ _ _ D cy ad _ hx hb hK hP w => va_lald (tys := jtys cy) hx hb hK hP 0 4 rfl rfl (j_vin hi hn) hd (w.stk (congrArg (fun z => Value.long (Int64.ofInt z) :: st.map (jv ad)) (j_fx hi.1 (by omega)).symm))
theorem j_aaload {a n k : Nat} {x : Int} {g : Int → Option Nat} (hd : decode M.2.1 pc = .ok (.aaload, 1)) (ha : h a = some (jQ n g)) (hi : 0 ≤ x ∧ x < n) (hn : n ≤ 2147483647) (hg : g x = some k) (kk : J M R nw Z (pc + 1) L (.ref k :: st) h nc ns) : J M R nw Z pc L (iv x :: .ref a :: st) h nc ns :=
  J.ofA ha kk fun _ _ _ _ _ _ _ _ _ _ _ _ D cy ad _ hx hb hK hP w => va_aldq (tys := jtys cy) (C := RX1) (f := fun j : Nat => (g j).map ad) hx hb hK hP 0 6 rfl rfl (j_vin hi hn) hd (w.stk (congrArg (fun z => z :: st.map (jv ad)) (by show jv ad (.ref k) = va_rf ((g ((Int32.ofInt x).toNatClampNeg : Nat)).map ad); rw [j_nat hi.1 (by omega), Int.toNat_of_nonneg hi.1, hg]; rfl)))
theorem j_arraylength {t n a : Nat} {f : Int → Int} (hd : decode M.2.1 pc = .ok (.arraylength, 1)) (ha : h a = some (jA t n f)) (ht : t < 6) (kk : J M R nw Z (pc + 1) L (iv n :: st) h nc ns) : J M R nw Z pc L (.ref a :: st) h nc ns :=
  J.ofA ha kk fun _ _ _ _ _ _ _ _ _ _ _ _ D cy ad _ hx hb hK hP w => va_alen (tys := jtys cy) (ty := jty t) (x := jArr t n f) hx hb hK hP 0 t rfl (by match t, ht with | 0, _ => rfl | 1, _ => rfl | 2, _ => rfl | 3, _ => rfl | 4, _ => rfl | 5, _ => rfl) (by match t, ht with | 0, _ => rfl | 1, _ => rfl | 2, _ => rfl | 3, _ => rfl | 4, _ => rfl | 5, _ => rfl) hd w
-- writes
theorem jref_A {t n : Nat} {f : Int → Int} {k : Nat} {P : Prop} (hr : jref (jA t n f) k) : P := False.elim hr
theorem j_cell0 (cI : ClassId) (n : Nat) (f : Int → Int) (x v : Int) (h0 : 0 ≤ x) (h1 : x ≤ 2147483647) : (arrV cI n (fun j => Value.int (Int32.ofInt (f j)))).setSlot (Int32.ofInt x).toNatClampNeg (iv v) = arrV cI n (fun j => Value.int (Int32.ofInt (jfu f x v j))) := by
  rw [arrV_store, j_nat h0 h1]
  congr 1
  funext q
  by_cases hq : (q : Int) = x
  · have : q = x.toNat := by omega
    subst this
    simp [updV, jfu, Int.toNat_of_nonneg h0, iv]
  · have : q ≠ x.toNat := by omega
    simp [updV, jfu, hq, this]
theorem j_iastore {a n : Nat} {x v : Int} {f : Int → Int} (hd : decode M.2.1 pc = .ok (.iastore, 1)) (ha : h a = some (jA 0 n f)) (hi : 0 ≤ x ∧ x < n) (hn : n ≤ 2147483647) (kk : J M R nw Z (pc + 1) L st (jup h a (jA 0 n (jfu f x v))) nc ns) : J M R nw Z pc L (iv v :: iv x :: .ref a :: st) h nc ns := by
  refine J.ofH ha (fun _ _ hr => jref_A hr) kk fun p l e s m args below meth c H locs ls D cy ad ad0 bs Q hX hat w => ?_
  refine W.iast hX.1.1 hX.1.2.1 hat ((hX.2.2.2.1.2 0 (cy 0, jty 0) rfl).1 n (fun j => .int (Int32.ofInt (f j)))) (fun q => by cases q) (by show ¬ (_ ∨ (arrV _ _ _).slots.size ≤ _); rw [arrV_size]; exact j_vin hi hn) rfl rfl hd fun H1 e z oq => ?_
  refine w H1 _ ?_ z oq
  exact e.trans (congrArg some (j_cell0 (cy 0) n f x v hi.1 (by omega)))
theorem jn_char {v : Int} (hv : 0 ≤ v ∧ v < 65536) : narrow .char (iv v) = iv v := by
  obtain ⟨q, rfl⟩ := Int.eq_ofNat_of_zero_le hv.1
  exact (pk_charN (q := q) (by omega)).1
theorem jn_byte {v : Int} (hv : -128 ≤ v ∧ v < 128) : narrow .byte (iv v) = iv v := by
  have h : ∀ k : Fin 256, narrow .byte (iv ((k.val : Int) - 128)) = iv ((k.val : Int) - 128) := by decide +kernel
  have h2 := h ⟨(v + 128).toNat, by omega⟩
  have e : (((v + 128).toNat : Nat) : Int) - 128 = v := by omega
  rw [show ((⟨(v + 128).toNat, by omega⟩ : Fin 256).val : Int) - 128 = v from e] at h2
  exact h2
theorem j_zastore {a n : Nat} {x v : Int} {f : Int → Int} (hd : decode M.2.1 pc = .ok (.bastore, 1)) (ha : h a = some (jA 1 n f)) (hi : 0 ≤ x ∧ x < n) (hv : v = 0 ∨ v = 1) (hn : n ≤ 2147483647) (kk : J M R nw Z (pc + 1) L st (jup h a (jA 1 n (jfu f x v))) nc ns) : J M R nw Z pc L (iv v :: iv x :: .ref a :: st) h nc ns := by
  refine J.ofH ha (fun _ _ hr => jref_A hr) kk fun p l e s m args below meth c H locs ls D cy ad ad0 bs Q hX hat w => ?_
  refine W.zast hX.1.1 hX.1.2.1 hat ((hX.2.2.2.1.2 1 (cy 1, jty 1) rfl).1 n (fun j => .int (Int32.ofInt (f j)))) (fun q => by cases q) (by show ¬ (_ ∨ (arrV _ _ _).slots.size ≤ _); rw [arrV_size]; exact j_vin hi hn) rfl rfl hd fun H1 e z oq => ?_
  refine w H1 _ ?_ z oq
  have hnr : narrow .boolean (iv v) = iv v := by rcases hv with rfl | rfl <;> rfl
  rw [show narrow .boolean (Value.int (Int32.ofInt v)) = iv v from hnr] at e
  exact e.trans (congrArg some (j_cell0 (cy 1) n f x v hi.1 (by omega)))
theorem j_castore {a n : Nat} {x v : Int} {f : Int → Int} (hd : decode M.2.1 pc = .ok (.castore, 1)) (ha : h a = some (jA 2 n f)) (hi : 0 ≤ x ∧ x < n) (hv : 0 ≤ v ∧ v < 65536) (hn : n ≤ 2147483647) (kk : J M R nw Z (pc + 1) L st (jup h a (jA 2 n (jfu f x v))) nc ns) : J M R nw Z pc L (iv v :: iv x :: .ref a :: st) h nc ns := by
  refine J.ofH ha (fun _ _ hr => jref_A hr) kk fun p l e s m args below meth c H locs ls D cy ad ad0 bs Q hX hat w => ?_
  refine W.cast hX.1.1 hX.1.2.1 hat ((hX.2.2.2.1.2 2 (cy 2, jty 2) rfl).1 n (fun j => .int (Int32.ofInt (f j)))) (fun q => by cases q) (by show ¬ (_ ∨ (arrV _ _ _).slots.size ≤ _); rw [arrV_size]; exact j_vin hi hn) rfl rfl hd fun H1 e z oq => ?_
  refine w H1 _ ?_ z oq
  have hnr : narrow .char (iv v) = iv v := jn_char hv
  rw [show narrow .char (Value.int (Int32.ofInt v)) = iv v from hnr] at e
  exact e.trans (congrArg some (j_cell0 (cy 2) n f x v hi.1 (by omega)))
theorem j_bastore {a n : Nat} {x v : Int} {f : Int → Int} (hd : decode M.2.1 pc = .ok (.bastore, 1)) (ha : h a = some (jA 3 n f)) (hi : 0 ≤ x ∧ x < n) (hv : -128 ≤ v ∧ v < 128) (hn : n ≤ 2147483647) (kk : J M R nw Z (pc + 1) L st (jup h a (jA 3 n (jfu f x v))) nc ns) : J M R nw Z pc L (iv v :: iv x :: .ref a :: st) h nc ns := by
  refine J.ofH ha (fun _ _ hr => jref_A hr) kk fun p l e s m args below meth c H locs ls D cy ad ad0 bs Q hX hat w => ?_
  refine W.bast hX.1.1 hX.1.2.1 hat ((hX.2.2.2.1.2 3 (cy 3, jty 3) rfl).1 n (fun j => .int (Int32.ofInt (f j)))) (fun q => by cases q) (by show ¬ (_ ∨ (arrV _ _ _).slots.size ≤ _); rw [arrV_size]; exact j_vin hi hn) rfl rfl hd fun H1 e z oq => ?_
  refine w H1 _ ?_ z oq
  have hnr : narrow .byte (iv v) = iv v := jn_byte hv
  rw [show narrow .byte (Value.int (Int32.ofInt v)) = iv v from hnr] at e
  exact e.trans (congrArg some (j_cell0 (cy 3) n f x v hi.1 (by omega)))
theorem j_lastore {a n : Nat} {x v : Int} {f : Int → Int} (hd : decode M.2.1 pc = .ok (.lastore, 1)) (ha : h a = some (jA 4 n f)) (hi : 0 ≤ x ∧ x < n) (hn : n ≤ 2147483647) (kk : J M R nw Z (pc + 1) L st (jup h a (jA 4 n (jfu f x v))) nc ns) : J M R nw Z pc L (jl v :: iv x :: .ref a :: st) h nc ns := by
  refine J.ofH ha (fun _ _ hr => jref_A hr) kk fun p l e s m args below meth c H locs ls D cy ad ad0 bs Q hX hat w => ?_
  refine W.last hX.1.1 hX.1.2.1 hat ((hX.2.2.2.1.2 4 (cy 4, jty 4) rfl).1 n (fun j => .long (Int64.ofInt (f j)))) (fun q => by cases q) (by show ¬ (_ ∨ (arrV _ _ _).slots.size ≤ _); rw [arrV_size]; exact j_vin hi hn) rfl rfl hd fun H1 e z oq => ?_
  refine w H1 _ ?_ z oq
  refine e.trans (congrArg some ?_)
  show (arrV (cy 4) n (fun j => Value.long (Int64.ofInt (f j)))).setSlot (Int32.ofInt x).toNatClampNeg (.long (Int64.ofInt v)) = arrV (cy 4) n (fun j => Value.long (Int64.ofInt (jfu f x v j)))
  rw [arrV_store, j_nat hi.1 (by omega)]
  congr 1
  funext q
  by_cases hq : (q : Int) = x
  · have : q = x.toNat := by omega
    subst this
    simp [updV, jfu, Int.toNat_of_nonneg hi.1]
  · have : q ≠ x.toNat := by omega
    simp [updV, jfu, hq, this]
theorem j_aastore {a n k : Nat} {x : Int} {g : Int → Option Nat} {fs : List Value} (hd : decode M.2.1 pc = .ok (.aastore, 1)) (ha : h a = some (jQ n g)) (hk : h k = some (jO 1 fs)) (hi : 0 ≤ x ∧ x < n) (hn : n ≤ 2147483647) (kk : J M R nw Z (pc + 1) L st (jup h a (jQ n (jqu g x (some k)))) nc ns) : J M R nw Z pc L (.ref k :: iv x :: .ref a :: st) h nc ns := by
  refine J.ofH ha (fun hC k' hr => by
    obtain ⟨i9, hi9⟩ := (hr : ∃ i, (jqu g x (some k)) i = some k')
    have hi9 : jqu g x (some k) i9 = some k' := hi9
    by_cases hx9 : i9 = x
    · rw [show (jqu g x (some k)) i9 = some k from if_pos hx9] at hi9
      cases hi9
      rw [hk]; exact fun z => by cases z
    · rw [show (jqu g x (some k)) i9 = g i9 from if_neg hx9] at hi9
      exact hC a _ ha k' ⟨i9, hi9⟩) kk fun p l e s m args below meth c H locs ls D cy ad ad0 bs Q hX hat w => ?_
  have hvk := j_vin hi hn
  obtain ⟨r', hr', cellV, g1, g2, g3, -⟩ := hX.2.2.2.2.2.1.2.1 k _ hk
  have hcls := (hX.2.2.2.1.1 1 (RX1, TX1, 11) rfl).2
  obtain ⟨kA, comp, k1, k2, k3, -⟩ := (hX.2.2.2.1.2 6 (cy 6, jty 6) rfl).2
  have hcomp : comp = D.1 1 := Option.some.inj (k3.symm.trans hcls.1)
  subst hcomp
  obtain ⟨kC, hkC, -⟩ := hcls.2
  refine W.aast (t := .object RX1) hX.1.1 hX.1.2.1 hat (fun q h => by cases h) (fun h => by cases h) k1 k2 rfl hkC ⟨fun q => hvk (Or.inl q), by show _ < (arrV _ _ _).slots.size; rw [arrV_size]; exact Nat.not_le.mp fun q => hvk (Or.inr q)⟩ g1 (fun q h => by rw [g3] at h; cases h) (by rw [g2]; exact hkC) (by rw [g2]; exact va_assign hcls) rfl rfl hd fun H1 e z oq => ?_
  refine w H1 _ ?_ z oq
  refine e.trans (congrArg some ?_)
  show (arrV (cy 6) n (fun j => va_rf ((g j).map ad))).setSlot (Int32.ofInt x).toNatClampNeg (.ref (ad k)) = arrV (cy 6) n (fun j => va_rf ((jqu g x (some k) j).map ad))
  rw [arrV_store, j_nat hi.1 (by omega)]
  congr 1
  funext q
  by_cases hq : (q : Int) = x
  · have : q = x.toNat := by omega
    subst this
    simp [updV, jqu, Int.toNat_of_nonneg hi.1, va_rf]
  · have : q ≠ x.toNat := by omega
    simp [updV, jqu, hq, this]
-- compares
theorem j_lcmp {x y : Int} (hd : decode M.2.1 pc = .ok (.lcmp, 1)) (hr : -2147483648 ≤ x ∧ x ≤ 2147483647 ∧ -2147483648 ≤ y ∧ y ≤ 2147483647) (kk : J M R nw Z (pc + 1) L (iv (if y < x then 1 else if x = y then 0 else -1) :: st) h nc ns) : J M R nw Z pc L (jl y :: jl x :: st) h nc ns :=
  kk.of fun _ _ _ _ _ _ _ _ _ _ _ _ ad _ hx hb _ w => W.lcmp hx hb hd (w.stk (congrArg (fun z => z :: st.map (jv ad)) (by
    show Value.int (Int32.ofInt _) = Value.int (lg_cmp (Int64.ofInt x) (Int64.ofInt y))
    have ex : (Int64.ofInt x).toInt = x := Int64.toInt_ofInt_of_le (by omega) (by omega)
    have ey : (Int64.ofInt y).toInt = y := Int64.toInt_ofInt_of_le (by omega) (by omega)
    unfold lg_cmp
    by_cases h1 : y < x
    · rw [if_pos h1, if_pos (show Int64.ofInt y < Int64.ofInt x by rw [Int64.lt_iff_toInt_lt, ex, ey]; exact h1)]; rfl
    · rw [if_neg h1, if_neg (show ¬ Int64.ofInt y < Int64.ofInt x by rw [Int64.lt_iff_toInt_lt, ex, ey]; exact h1)]
      by_cases h2 : x = y
      · rw [if_pos h2, if_pos (by rw [h2])]; rfl
      · rw [if_neg h2, if_neg (by rw [← Int64.toInt_inj, ex, ey]; exact h2)]; rfl)))
theorem j_dcmp {x y : UInt64} {op : CmpOp} (hd : decode M.2.1 pc = .ok (.dcmp op, 1)) (kk : J M R nw Z (pc + 1) L (.int (Op.cmpValue (FP.dcmp x y) op) :: st) h nc ns) : J M R nw Z pc L (.double y :: .double x :: st) h nc ns :=
  kk.of fun _ _ _ _ _ _ _ _ _ _ _ _ _ _ hx hb _ w => lv_dcmp hx hb hd w
theorem j_fcmp {x y : UInt32} {op : CmpOp} (hd : decode M.2.1 pc = .ok (.fcmp op, 1)) (kk : J M R nw Z (pc + 1) L (.int (Op.cmpValue (FP.fcmp x y) op) :: st) h nc ns) : J M R nw Z pc L (.float y :: .float x :: st) h nc ns :=
  kk.of fun _ _ _ _ _ _ _ _ _ _ _ _ _ _ hx hb _ w => lv_fcmp hx hb hd w
end JA1
