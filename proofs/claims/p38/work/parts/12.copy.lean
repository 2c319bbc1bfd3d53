section JY1
variable {M : jMe} {R : Room} {nw : List Nat} {Z : jFin} {pc pc' : Nat} {L L' : List (Nat × Value)} {st st' : List Value} {h h' : jH} {nc ns nc' ns' mc ms : Nat} {Pn : jPn} {Px : jPx}
def jcpy (f g : Int → Int) (sp dp n : Int) : Int → Int := fun k => if dp ≤ k ∧ k < dp + n then f (sp + (k - dp)) else g k
/-- System.arraycopy between rows of ints, said cell by cell (its proof follows va_copyi of this kit) -/
theorem jx_copyi {p : Program} {l : Launch} {e : Env} {s : State} {m : MethodId} {args : Array Value} {below : List Frame} {meth : Method} {c : Code} {H : Heap} {locs : List Loc} {cells slots : Nat} {Q : State → Prop} {ls : Array Slot} {rest : List Value} {cc : ByteArray} (hexec : p.tables.exec = Jvm.exec) (hb : c.code = cc) (hml : c.maxLocals = ls.size) {own : String} {index : Nat} (hown : s.vm.findClass own = some m.cls) (hlink : (Cond.methodLink own index arraycopyName).before args s = true) (hnat : (Cond.native arraycopyName).before args s = true) (hstat : (Cond.static arraycopyName).before args s = true) (hini : (Cond.initialized "java/lang/System").before args s = true)
    {a0 a : Nat} {c0 c1 : ClassId} {n0 n1 : Nat} {f g : Nat → Int32} {ty : FieldType} (hc0 : H[a0]? = some (vp_cell c0 (n0, .inl f))) (hc1 : H[a]? = some (vp_cell c1 (n1, .inl g))) (hA0 : ArrOfT s c0 ty) (hA1 : ArrOfT s c1 ty) (hprim : refKind ty = false)
    {sp dp n : Int32} (h1 : ¬ sp < 0) (h2 : ¬ dp < 0) (h3 : ¬ n < 0) (h4 : sp.toNatClampNeg + n.toNatClampNeg ≤ n0) (h5 : dp.toNatClampNeg + n.toNatClampNeg ≤ n1) (hfit : ∀ i, i < n.toNatClampNeg → fits ty (.int (f (sp.toNatClampNeg + i))) = true)
    (hframes : 1 ≤ R.frames) (hlocals : (rest.map fun v => v.category).sum + (nativeFrameWords "java/lang/System" "arraycopy" 5 + 11) ≤ R.locals) (hdg : decode cc pc = .ok (.invokestatic index, 3))
    (kk : ∀ (H1 : Heap) (locs1 : List Loc), H1[a]? = some (vp_cell c1 (n1, .inl (va_cpy f g sp.toNatClampNeg dp.toNatClampNeg n.toNatClampNeg))) → H1.size = H.size → (∀ q : Nat, q ≠ a → H1[q]? = H[q]?) → (∀ z ∈ locs1, z ∈ locs ∨ z.base = a) → W p l e R s m args below meth c H1 locs1 cells slots Q (F0 m (pc + 3) ls rest)) : W p l e R s m args below meth c H locs cells slots Q (F0 m pc ls (.int n :: .int dp :: .ref a :: .int sp :: .ref a0 :: rest)) := by
  have nn : ∀ z : Int32, ¬ z < 0 → z.toInt = (z.toNatClampNeg : Int) := by
    intro z hz
    have hz0 : (0 : Int) ≤ z.toInt := by
      have := Int32.not_lt.mp hz
      simpa using Int32.le_iff_toInt_le.mp this
    show z.toInt = ((z.toInt.toNat : Nat) : Int)
    omega
  intro T hT X
  obtain ⟨-, k0, hk0, cm0, hkk0⟩ := hA0 n0 (fun j => .int (f j))
  obtain ⟨-, k1, hk1, cm1, hkk1⟩ := hA1 n1 (fun j => .int (g j))
  obtain ⟨vm', X', step⟩ := X.arraycopy hexec hown hlink hnat hstat hini (src := a0) (dst := a) (cs := vp_cell c0 (n0, .inl f)) (cd := vp_cell c1 (n1, .inl g)) (srcPos := sp) (destPos := dp) (n := n) (by rw [hT]; exact hc0) (by rw [hT]; exact hc1)
    (fun _ h => by cases h) (fun _ h => by cases h) (fun h => by cases h) (fun h => by cases h) hk0 hk1 hkk0 hkk1 (by simp [hprim]) h1 h2 h3
    (by rw [nn sp h1, nn n h3]; show ¬ _ > ((arrV c0 n0 (fun j => .int (f j))).slots.size : Int); rw [arrV_size]; omega)
    (by rw [nn dp h2, nn n h3]; show ¬ _ > ((arrV c1 n1 (fun j => .int (g j))).slots.size : Int); rw [arrV_size]; omega)
    (fun vm₁ _ i hi => by
      have e : (vp_cell c0 (n0, .inl f)).slots.getD (sp.toNatClampNeg + i) .null = .int (f (sp.toNatClampNeg + i)) := by
        show (arrV c0 n0 (fun j => .int (f j))).slots.getD _ _ = _
        rw [Array.getD_eq_getD_getElem?, arrV_read _ _ (by omega)]
        rfl
      refine ⟨?_, ?_⟩
      · rw [e]
        exact hfit i hi
      · rw [e]
        exact trivial)
    (g := F0 m pc ls (.int n :: .int dp :: .ref a :: .int sp :: .ref a0 :: rest)) rfl (by rw [hml]) (rest := rest) rfl (by rw [hb]; exact hdg) hframes (by show 2 * 0 + _ + _ ≤ _; omega)
  have e1 : copied (vp_cell c0 (n0, .inl f)) (vp_cell c1 (n1, .inl g)) sp dp n = vp_cell c1 (n1, .inl (va_cpy f g sp.toNatClampNeg dp.toNatClampNeg n.toNatClampNeg)) := va_copied (fun z => .int z) c0 c1 f g h4
  rw [e1] at X' step
  have hl : a < H.size := (Array.getElem?_eq_some_iff.mp hc1).1
  have hheap : ((T.setVm vm').setCell a (vp_cell c1 (n1, .inl (va_cpy f g sp.toNatClampNeg dp.toNatClampNeg n.toNatClampNeg)))).heap = H.setIfInBounds a (vp_cell c1 (n1, .inl (va_cpy f g sp.toNatClampNeg dp.toNatClampNeg n.toNatClampNeg))) := by rw [← hT]; rfl
  have oq : ∀ q : Nat, q ≠ a → (H.setIfInBounds a (vp_cell c1 (n1, .inl (va_cpy f g sp.toNatClampNeg dp.toNatClampNeg n.toNatClampNeg))))[q]? = H[q]? := fun q hq => by simp [Array.getElem?_setIfInBounds, Ne.symm hq]
  obtain ⟨t, a1, b1⟩ := kk _ _ (show (H.setIfInBounds a _)[a]? = some _ by simp [Array.getElem?_setIfInBounds, hl]) (by simp) oq (fun z hz => by
      rcases List.mem_append.mp hz with h | h
      · exact Or.inl h
      · obtain ⟨z9, -, hz9⟩ := List.mem_map.mp h
        exact Or.inr (by rw [← hz9])) _ hheap X'
  exact ⟨t, step t a1, b1⟩
theorem j_copyT {a0 a t n0 n1 idx : Nat} {f g : Int → Int} {sp dp n : Int} (ht : t < 4) (hd : decode M.2.1 pc = .ok (.invokestatic idx, 3)) (hlk : Cond.methodLink M.1.cls idx arraycopyName ∈ jWL) (hnv : Cond.native arraycopyName ∈ jWL) (hsv : Cond.static arraycopyName ∈ jWL) (hiv : Cond.initialized "java/lang/System" ∈ jWL) (h0 : h a0 = some (jA t n0 f)) (h1 : h a = some (jA t n1 g))
    (hr : 0 ≤ sp ∧ 0 ≤ dp ∧ 0 ≤ n ∧ sp + n ≤ n0 ∧ dp + n ≤ n1 ∧ (n0 : Int) ≤ 1000000 ∧ (n1 : Int) ≤ 1000000) (hfit : ∀ x : Int, fits (jty t) (iv (f x)) = true) (hR : 1 ≤ R.frames ∧ 64 ≤ R.locals) (hcat : (st.map fun v => v.category).sum ≤ 8)
    (kk : J M R nw Z (pc + 3) L st (jup h a (jA t n1 (jcpy f g sp dp n))) nc ns) : J M R nw Z pc L (iv n :: iv dp :: .ref a :: iv sp :: .ref a0 :: st) h nc ns := by
  intro p l e s m args below meth c H locs ls D cy ad ad0 bs hX
  obtain ⟨⟨y1, y2, y3, y4, y5⟩, x2, x3, x4, x5, x6, x7, x8, x9⟩ := id hX
  have hsp := j_nat hr.1 (by omega : sp ≤ 2147483647)
  have hdp := j_nat hr.2.1 (by omega : dp ≤ 2147483647)
  have hn := j_nat hr.2.2.1 (by omega : n ≤ 2147483647)
  have hneg : ∀ x : Int, 0 ≤ x → x ≤ 2147483647 → ¬ Int32.ofInt x < 0 := fun x q1 q2 q => by
    rw [Int32.lt_iff_toInt_lt, j_toI (by omega)] at q
    simp at q
    omega
  have hcA : ∀ (n9 : Nat) (f9 : Int → Int), vp_cell (cy t) (jArr t n9 f9) = vp_cell (cy t) (n9, .inl fun j => Int32.ofInt (f9 j)) := fun n9 f9 => by
    match t, ht with
    | 0, _ => rfl
    | 1, _ => rfl
    | 2, _ => rfl
    | 3, _ => rfl
  have e0 : H[ad a0]? = some (vp_cell (cy t) (n0, .inl fun j => Int32.ofInt (f j))) := by rw [← hcA]; exact x6.2.1 a0 _ h0
  have e1 : H[ad a]? = some (vp_cell (cy t) (n1, .inl fun j => Int32.ofInt (g j))) := by rw [← hcA]; exact x6.2.1 a _ h1
  have hAr := (x4.2 t (cy t, jty t) (jtys_at (by omega))).1
  have hpr : refKind (jty t) = false := by
    match t, ht with
    | 0, _ => rfl
    | 1, _ => rfl
    | 2, _ => rfl
    | 3, _ => rfl
  have hnw9 : nativeFrameWords "java/lang/System" "arraycopy" 5 + 11 ≤ 50 := by decide +kernel
  refine jx_copyi y1 y2 (y3.trans x8.1.symm) y4 (y5 _ hlk) (y5 _ hnv) (y5 _ hsv) (y5 _ hiv) e0 e1 hAr hAr hpr (hneg sp hr.1 (by omega)) (hneg dp hr.2.1 (by omega)) (hneg n hr.2.2.1 (by omega)) (by rw [hsp, hn]; omega) (by rw [hdp, hn]; omega) (fun i hi => hfit _) hR.1 (by rw [j_cats]; omega) hd fun H1 locs1 q1 q2 q3 q4 => ?_
  have hne : h a ≠ none := by rw [h1]; exact fun z => by cases z
  refine kk p l e s m args below meth c H1 locs1 ls D cy ad ad0 bs ⟨⟨y1, y2, y3, y4, y5⟩, x2, x3, x4, ⟨by rw [q2]; exact x5.1, fun q g1 g2 => ?_, fun z hz => ?_⟩, x6.set h1 q2 ?_ q3 (fun _ hr => jref_A hr), x7, x8, x9⟩
  · rw [q3 q fun e => g2 (by rw [e]; exact x6.2.2.2.1 a hne)]
    exact x5.2.1 q g1 g2
  · rcases q4 z hz with q | q
    · exact x5.2.2 z q
    · show bs ≤ z.base
      rw [q]; exact x6.2.2.2.1 a hne
  · show H1[ad a]? = some (vp_cell (cy t) (jArr t n1 (jcpy f g sp dp n)))
    rw [q1, hcA, hsp, hdp, hn]
    congr 3
    congr 1
    funext k
    show va_cpy _ _ _ _ _ k = Int32.ofInt (jcpy f g sp dp n k)
    unfold va_cpy jcpy
    by_cases hk : dp.toNat ≤ k ∧ k < dp.toNat + n.toNat
    · rw [if_pos hk, if_pos (by omega)]
      show Int32.ofInt (f ((sp.toNat + (k - dp.toNat) : Nat) : Int)) = Int32.ofInt (f (sp + ((k : Int) - dp)))
      rw [show ((sp.toNat + (k - dp.toNat) : Nat) : Int) = sp + ((k : Int) - dp) by omega]
    · rw [if_neg hk, if_neg (by omega)]
/-- the same world, said otherwise -/
theorem J.heap {h2 : jH} (he : h2 = h) (k : J M R nw Z pc L st h2 nc ns) : J M R nw Z pc L st h nc ns := he ▸ k
/-- a contract of a method with a table -/
theorem j_methodH {d : Nat} {a0 : List Value} {h0 : jH} (hy : plainName M.1.cls = true) (ht : M.2.2.2.2.1 ≠ []) (hφ : ∀ s ad bs, M.2.2.2.2.2 s ad bs) (hn : (lg_sl a0).length ≤ M.2.2.1)
    (k : J M (jR d mc ms) nw (jZ nw mc ms Pn Px) 0 (lv_args 0 a0) [] h0 0 0) : jM M d mc ms nw a0 h0 Pn Px := by
  intro l hl D cy ad bs
  have hH : jHd M = .codeWith M.1 M.2.1 M.2.2.1 M.2.2.2.1 M.2.2.2.2.1 := by
    unfold jHd
    cases hc : M.2.2.2.2.1 with
    | nil => exact absurd hc ht
    | cons a b => rfl
  rw [hH]
  refine vx_ofWH (cc := M.2.1) (maxL := M.2.2.1) (ret := M.2.2.2.1) (hh := M.2.2.2.2.1) hy rfl ?_
  intro p e s m args below meth c s₁ B hml hv
  obtain ⟨rfl, ⟨hS, hK⟩, hW⟩ := hv
  have hts := atoms_spec (ws := Cond.codeWith M.1 M.2.1 M.2.2.1 M.2.2.2.1 M.2.2.2.2.1 :: jWL) B.pre
  have hnl := jsl_len ad a0
  have hl0 := lv_entry (a0.map (jv ad)) (n := M.2.2.1) (by rw [hnl]; exact hn)
  rw [lg_entry_eq]
  rw [jLs_args] at hl0
  exact k p l e s m _ below meth c s.heap [] _ D cy ad ad bs ⟨⟨B.exec, B.bytes, hml, findClass_of_methodNamed B.named, fun w hw => hts w (List.mem_cons_of_mem _ hw)⟩, ⟨B.returns, B.notSynchronized, (name_of_methodNamed B.named B.method).1, hl, vx_table (x := M.1) B (hts _ List.mem_cons_self)⟩, hS, hK, va_S.rf, hW, fun _ _ => rfl, hl0, hW.1, hφ _ _ _⟩
theorem j_callSW {N : jMe} {idx n d' mc' ms' : Nat} {nw' : List Nat} {Pn' : jPn} {as rest : List Value} (hM : jM N d' mc' ms' nw' as h Pn' jno) (hd : decode M.2.1 pc = .ok (.invokestatic idx, 3)) (hc : jCa M.1.cls idx N n) (hm : jmS N) (ht : N.2.2.2.2.1 ≠ []) (hn : as.length = n)
    (hst : as.reverse ++ rest = st) (hsub : ∀ k ∈ nw', k ∈ nw) (hfr : jfr nw' L rest) (hcat : (rest.map fun v => v.category).sum ≤ 8) (hR : d' + 1 ≤ R.frames ∧ 8 + (N.2.2.1 + 11) + 64 * d' ≤ R.locals) (hroom : nc + mc' ≤ R.cells ∧ ns + ms' ≤ R.slots)
    (kn : ∀ (r : Option Value) (h' : jH), Pn' r h' → J M R nw Z (pc + 3) L (r.toList ++ rest) h' (nc + mc') (ns + ms')) : J M R nw Z pc L st h nc ns := by
  refine J.call (Px' := jno) hsub hfr (fun p l e s m args below meth c H locs ls D cy ad ad0 bs hX => ?_) kn (fun E h' q => q.elim)
  subst hst
  obtain ⟨⟨y1, y2, y3, y4, y5⟩, ⟨-, -, -, y6, -⟩, x3, x4, x5, x6, x7, x8, x9, x10⟩ := hX
  have hv := hM.met y6 D cy ad bs
  have hH : jHd N = .codeWith N.1 N.2.1 N.2.2.1 N.2.2.2.1 N.2.2.2.2.1 := by
    unfold jHd
    cases hc : N.2.2.2.2.1 with
    | nil => exact absurd hc ht
    | cons a b => rfl
  rw [hH] at hv
  obtain ⟨m1, m3, m4⟩ := hm
  obtain ⟨c1, c2, c3⟩ := hc
  have hG : GoodIn jWL (va_wsS M.1.cls idx N.1 (.codeWith N.1 N.2.1 N.2.2.1 N.2.2.2.1 N.2.2.2.2.1 :: jWL)) := by
    rw [← hH]
    exact j_gin m4 fun w hw => by
      simp only [List.mem_cons, List.not_mem_nil, or_false] at hw
      rcases hw with rfl | rfl | rfl <;> assumption
  have cw := vx_cwSW (R := R) (rm := jR d' mc' ms') (mc := mc') (ms := ms') n y5 hG rfl rfl rfl ⟨c2.1, c2.2, c3⟩ hR
  exact ⟨_, va_Run.vx (vx_runSW (As := as.map (jv ad)) ⟨y1, y2, y3, y4, y5⟩ hv cw ⟨j_blind, j_start x3 x4 x5 x6⟩ rfl (by rw [List.length_map]; exact hn) x8.1 (by simp [List.map_reverse]) (by show 2 * 0 + _ ≤ 8; rw [j_cats]; omega) hd hroom)⟩
end JY1
