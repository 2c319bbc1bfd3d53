section JN1
variable {M : jMe} {R : Room} {nw : List Nat} {Z : jFin} {pc pc' : Nat} {L L' : List (Nat × Value)} {st st' : List Value} {h h' : jH} {nc ns nc' ns' mc ms : Nat} {Pn : jPn} {Px : jPx}
theorem jfr_1 {k : Nat} {L : List (Nat × Value)} {st : List Value} (h1 : ∀ q ∈ L, q.2 ≠ .ref k) (h2 : ∀ v ∈ st, v ≠ .ref k) : jfr [k] L st := fun j hj => by
  rw [List.mem_singleton.mp hj]; exact ⟨h1, h2⟩
theorem va_up_off {ad : Nat → Nat} {k a : Nat} : ∀ j : Nat, j ∉ [k] → va_up ad k a j = ad j := fun j hj => if_neg fun e => hj (by rw [e]; exact List.mem_cons_self)
/-- rows that make a cell, at the place k -/
theorem J.ofN {k dc ds : Nat} {c : jC} (hk : h k = none) (hkn : k ∈ nw) (hfr : jfr [k] L st') (hc0 : ∀ k', ¬ jref c k') (kk : J M R nw Z pc' L (.ref k :: st') (jup h k c) (nc + dc) (ns + ds))
    (f : ∀ (p : Program) (l : Launch) (e : Env) (s : State) (m : MethodId) (args : Array Value) (below : List Frame) (meth : Method) (c9 : Code) (H : Heap) (locs : List Loc) (ls : Array Slot) (D : va_G) (cy : Nat → ClassId) (ad ad0 : Nat → Nat) (bs : Nat) (Q : State → Prop), jX M nw L h p l s m args meth c9 H locs ls D cy ad ad0 bs →
      (∀ H1 : Heap, va_at D jcl (H.size, jE cy ad c) H1 → H1.size = H.size + 1 → (∀ q : Nat, q < H.size → H1[q]? = H[q]?) → W p l e R s m args below meth c9 H1 locs (nc + dc) (ns + ds) Q (F0 m pc' ls (.ref H.size :: st'.map (jv ad)))) →
      W p l e R s m args below meth c9 H locs nc ns Q (F0 m pc ls (st.map (jv ad)))) : J M R nw Z pc L st h nc ns := by
  intro p l e s m args below meth c9 H locs ls D cy ad ad0 bs hX
  obtain ⟨x1, x2, x3, x4, x5, x6, x7, x8, x9⟩ := id hX
  refine f p l e s m args below meth c9 H locs ls D cy ad ad0 bs _ hX fun H1 he hz oq => ?_
  have w := kk p l e s m args below meth c9 H1 locs ls D cy (va_up ad k H.size) ad0 bs ⟨x1, x2, x3, x4, ⟨by rw [hz]; exact Nat.le_succ_of_le x5.1, fun q h1 h2 => (oq q (Nat.lt_of_lt_of_le h1 x5.1)).trans (x5.2.1 q h1 h2), x5.2.2⟩, x6.grow hk hz oq hc0 he, fun j hj => (va_up_off j (fun e => hj (by rw [List.mem_singleton.mp e]; exact hkn))).trans (x7 j hj), by rw [jLs_same hfr va_up_off]; exact x8, x9⟩
  have e : (Value.ref k :: st').map (jv (va_up ad k H.size)) = .ref H.size :: st'.map (jv ad) := by
    rw [List.map_cons, jst_same hfr va_up_off]
    show Value.ref (va_up ad k H.size k) :: _ = _
    rw [show va_up ad k H.size k = H.size from if_pos rfl]
  rw [e] at w
  exact w
theorem j_new {idx k ci N : Nat} {C : String} {T : u_T} {fs : List Value} (ty : Nat → FieldType) (hd : decode M.2.1 pc = .ok (.new idx, 3)) (hcl : Cond.classLink M.1.cls idx C ∈ jWL) (hins : Cond.instantiable C N ∈ jWL) (hini : Cond.initialized C ∈ jWL) (hc : jcl[ci]? = some (C, T, N)) (hty : ∀ j, j < N → parseFieldDescriptor (T j).2.2.1 = some (ty j)) (hfs : ∀ j, j < N → defaultValue (ty j) = vp_V fs j) (hf0 : ∀ v ∈ fs, v = .null ∨ ∃ x, v = iv x)
    (hk : h k = none) (hkn : k ∈ nw) (hfr : jfr [k] L st) (hroom : nc + 1 ≤ R.cells ∧ ns + N ≤ R.slots) (kk : J M R nw Z (pc + 3) L (.ref k :: st) (jup h k (jO ci fs)) (nc + 1) (ns + N)) : J M R nw Z pc L st h nc ns := by
  have hnr : ∀ k', ¬ jref (jO ci fs) k' := fun k' hr => by
    rcases hf0 _ (show Value.ref k' ∈ fs from hr) with q | ⟨x, q⟩
    · cases q
    · exact iv_ref q.symm
  refine J.ofN hk hkn hfr hnr kk fun p l e s m args below meth c9 H locs ls D cy ad ad0 bs Q hX w => ?_
  obtain ⟨⟨y1, y2, y3, y4, y5⟩, x2, x3, x4, x5, x6, -⟩ := hX
  have hKn := x4.1 ci _ hc
  have hin := (jcl_ok ci _ hc).1
  refine W.newcK y1 y2 y4 (y5 _ hcl) (y5 _ hins) (y5 _ hini) rfl hd hroom.1 hroom.2 hKn.2.1 rfl fun H1 kC hkC e1 z1 o1 => ?_
  refine w H1 ⟨_, hc, (u_born ty y5 hin hKn hkC e1 hty).to fun j hj => (hfs j hj).trans ?_⟩ z1 o1
  show vp_V fs j = vp_V (fs.map (jv ad)) j
  unfold vp_V
  rw [List.getD_eq_getElem?_getD, List.getD_eq_getElem?_getD, List.getElem?_map]
  cases hg : fs[j]? with
  | none => rfl
  | some v =>
    rcases hf0 v (List.mem_of_getElem? hg) with q | ⟨x, q⟩ <;> subst q <;> rfl
theorem va_RA_prim {U : State} {cA : ClassId} {ty : FieldType} (hp : ∀ C, ty ≠ .object C) (h : va_RA U cA ty) : U.vm.findClass ("[" ++ ty.toString) = some cA := by
  cases ty with
  | object C => exact absurd rfl (hp C)
  | _ => exact h
theorem jty_prim {t : Nat} (ht : t < 6) (C : String) : jty t ≠ .object C := by
  match t, ht with
  | 0, _ => exact fun q => by cases q
  | 1, _ => exact fun q => by cases q
  | 2, _ => exact fun q => by cases q
  | 3, _ => exact fun q => by cases q
  | 4, _ => exact fun q => by cases q
  | 5, _ => exact fun q => by cases q
theorem jtys_at {cy : Nat → ClassId} {t : Nat} (ht : t < 6) : (jtys cy)[t]? = some (cy t, jty t) := by
  match t, ht with
  | 0, _ => rfl
  | 1, _ => rfl
  | 2, _ => rfl
  | 3, _ => rfl
  | 4, _ => rfl
  | 5, _ => rfl
theorem j_newarray {t k n : Nat} {at9 : ArrayType} {f : Int → Int} (hf : f = fun _ => 0) (hd : decode M.2.1 pc = .ok (.newarray at9, 2)) (hat : newarray.typeOf at9 = jty t) (ht : t < 5) (harr : Cond.arrayClass (jty t) ∈ jWL) (hn : n ≤ 1000000) (hk : h k = none) (hkn : k ∈ nw) (hfr : jfr [k] L st) (hroom : nc + 1 ≤ R.cells ∧ ns + n ≤ R.slots)
    (kk : J M R nw Z (pc + 2) L (.ref k :: st) (jup h k (jA t n f)) (nc + 1) (ns + n)) : J M R nw Z pc L (iv n :: st) h nc ns := by
  subst hf
  refine J.ofN hk hkn hfr (fun _ hr => jref_A hr) kk fun p l e s m args below meth c9 H locs ls D cy ad ad0 bs Q hX w => ?_
  obtain ⟨⟨y1, y2, y3, y4, y5⟩, x2, x3, x4, x5, x6, -⟩ := hX
  have hnn : (Int32.ofInt (n : Int)).toNatClampNeg = n := by rw [j_nat (by omega) (by omega)]; omega
  refine va_newaK (N := n) y1 y2 (atype := at9) (by rw [hat]; exact y5 _ harr) rfl hd (n := Int32.ofInt n) rfl (by rw [Int32.lt_iff_toInt_lt, j_toI (by omega)]; simp) hnn (by
      rw [hat]
      match t, ht with
      | 0, _ => show n * 4 ≤ _; omega
      | 1, _ => show n * 1 ≤ _; omega
      | 2, _ => show n * 2 ≤ _; omega
      | 3, _ => show n * 1 ≤ _; omega
      | 4, _ => show n * 8 ≤ _; omega) hroom.1 hroom.2 rfl fun H1 cA e1 z1 o1 hAr hNm => ?_
  rw [hat] at e1 hNm
  have hcy : cA = cy t := Option.some.inj (hNm.symm.trans (va_RA_prim (jty_prim (show t < 6 by omega)) (x4.2 t (cy t, jty t) (jtys_at (show t < 6 by omega))).2))
  subst hcy
  refine w H1 ?_ z1 o1
  show H1[H.size]? = some (vp_cell (cy t) (jArr t n fun _ => 0))
  rw [e1]
  match t, ht with
  | 0, _ => rfl
  | 1, _ => rfl
  | 2, _ => rfl
  | 3, _ => rfl
  | 4, _ => rfl
theorem j_anewarray {idx k n : Nat} {g : Int → Option Nat} (hg : g = fun _ => none) (hd : decode M.2.1 pc = .ok (.anewarray idx, 3)) (hcl : Cond.classLink M.1.cls idx RX1 ∈ jWL) (hov : Cond.arrayOver (.object RX1) ∈ jWL) (hn : n ≤ 1000000) (hk : h k = none) (hkn : k ∈ nw) (hfr : jfr [k] L st) (hroom : nc + 1 ≤ R.cells ∧ ns + n ≤ R.slots)
    (kk : J M R nw Z (pc + 3) L (.ref k :: st) (jup h k (jQ n g)) (nc + 1) (ns + n)) : J M R nw Z pc L (iv n :: st) h nc ns := by
  subst hg
  refine J.ofN hk hkn hfr (fun _ hr => by obtain ⟨i9, h9⟩ := hr; cases h9) kk fun p l e s m args below meth c9 H locs ls D cy ad ad0 bs Q hX w => ?_
  obtain ⟨⟨y1, y2, y3, y4, y5⟩, x2, x3, x4, x5, x6, -⟩ := hX
  have hnn : (Int32.ofInt (n : Int)).toNatClampNeg = n := by rw [j_nat (by omega) (by omega)]; omega
  refine W.anew y1 y2 y4 (y5 _ hcl) (y5 _ hov) rfl hd (n := Int32.ofInt n) rfl (by rw [Int32.lt_iff_toInt_lt, j_toI (by omega)]; simp) (by rw [hnn]; omega) hroom.1 (by rw [hnn]; exact hroom.2) fun cA kA comp h1 h2 h3 h4 => ?_
  rw [hnn]
  have hcy : cA = cy 6 := by
    obtain ⟨kA9, comp9, -, -, -, h9⟩ := (x4.2 6 (cy 6, jty 6) rfl).2
    exact Option.some.inj (h1.symm.trans h9)
  subst hcy
  refine w _ ?_ (by simp) (fun q hq => by rw [Array.getElem?_push, if_neg (Nat.ne_of_lt hq)])
  show (H.push { cls := cy 6, slots := Array.replicate n .null, vm := .none })[H.size]? = some (vp_cell (cy 6) (n, .inr (.inr (.inr (.inr fun j => (none : Option Nat).map ad)))))
  rw [Array.getElem?_push_size, arrV_new]
  rfl
-- static rows
theorem j_slen {i9 i8 : Nat} {C n d : String} {t N : Nat} {f : Nat → Int} (hq : (C, n, d, t, N, f) ∈ jRows) (hns : (i9, n) ∈ jNsf) (hM : M.1.cls = "FamilyOaks$Input" ∧ C = "FamilyOaks" ∧ d = "[C") (hd : decode M.2.1 pc = .ok (.getstatic i9, 3)) (hd2 : decode M.2.1 (pc + 3) = .ok (.arraylength, 1)) (kk : J M R nw Z (pc + 4) L (iv N :: st) h nc ns) : J M R nw Z pc L st h nc ns := by
  intro p l e s m args below meth c H locs ls D cy ad ad0 bs hX
  have w := kk p l e s m args below meth c H locs ls D cy ad ad0 bs hX
  obtain ⟨⟨y1, y2, y3, y4, y5⟩, x2, x3, x4, x5, x6, -⟩ := hX
  obtain ⟨-, -, s3, -, -, -, -, s4⟩ := x3
  obtain ⟨tA, hZ, hT⟩ := s3 _ hq
  obtain ⟨rfl, rfl⟩ := hM.2
  have hlink := va_Nw.use rfl (s4 _ hns) (A := args)
  rw [hM.1] at y4
  refine va_getsN y1 y2 (v := .ref tA) hZ x5 y4 hlink (fun _ h9 => h9) hd ?_
  obtain ⟨cell, c1, c2, c3, c4, c5, c6, c7⟩ := hT
  exact W.alen (n := Int32.ofNat N) y1 y2 (by rw [x5.2.1 tA (Array.getElem?_eq_some_iff.mp c1).1 c7]; exact c1) c2 c5 rfl rfl hd2 w
theorem j_sldC {i9 : Nat} {k4 : Fin 4} {C n d : String} {N i : Nat} {x : Int} {f : Nat → Int} (hq : (C, n, d, 2, N, f) ∈ jRows) (hns : (i9, n) ∈ jNsf) (hM : M.1.cls = "FamilyOaks$Input" ∧ C = "FamilyOaks" ∧ d = "[C") (hd : decode M.2.1 pc = .ok (.getstatic i9, 3)) (hd2 : decode M.2.1 (pc + 3) = .ok (.iload_n k4, 1)) (hd3 : decode M.2.1 (pc + 4) = .ok (.caload, 1)) (hi : (k4 : Nat) = i) (hv : L.lookup i = some (iv x)) (hx : 0 ≤ x ∧ x < N) (hN : N ≤ 1000000) (kk : J M R nw Z (pc + 5) L (iv (f x.toNat) :: st) h nc ns) : J M R nw Z pc L st h nc ns := by
  intro p l e s m args below meth c H locs ls D cy ad ad0 bs hX
  have w := kk p l e s m args below meth c H locs ls D cy ad ad0 bs hX
  obtain ⟨⟨y1, y2, y3, y4, y5⟩, x2, x3, x4, x5, x6, x7, x8, -⟩ := hX
  obtain ⟨-, -, s3, -, -, -, -, s4⟩ := x3
  obtain ⟨tA, hZ, hT⟩ := s3 _ hq
  obtain ⟨rfl, rfl⟩ := hM.2
  have hlink := va_Nw.use rfl (s4 _ hns) (A := args)
  rw [hM.1] at y4
  refine va_getsN y1 y2 (v := .ref tA) hZ x5 y4 hlink (fun _ h9 => h9) hd ?_
  refine lv_iload_n y1 y2 hd2 hi (jL_at x8 hv) ?_
  obtain ⟨cell, c1, c2, c3, c4, c5, c6, c7⟩ := hT
  have hlt : x.toNat < N := by have := hx.2; have := hx.1; omega
  have hn := j_nat hx.1 (by omega : x ≤ 2147483647)
  refine W.cald (v := iv (f x.toNat)) y1 y2 (by rw [x5.2.1 tA (Array.getElem?_eq_some_iff.mp c1).1 c7]; exact c1) c2 c3 (fun q => ?_) (by rw [hn]; exact c6 x.toNat hlt) rfl rfl hd3 w
  rcases q with q | q
  · rw [Int32.lt_iff_toInt_lt, j_toI (by omega)] at q
    have := hx.1
    simp at q
    omega
  · rw [hn] at q
    have := hx.2
    have : N ≤ cell.slots.size := c4
    omega
/-- caught here: the row of the table, behind rows of other classes -/
theorem j_catch {E : String} {e9 i9 : Nat} {pre suf : List (Nat × Nat × Nat × Nat)} {a b g ct : Nat} (ht : M.2.2.2.2.1 = pre ++ (a, b, g, ct) :: suf) (hpre : ∀ q ∈ pre, q.2.2.2 ≠ 0 ∧ ∃ nm : String, Cond.classLink M.1.cls q.2.2.2 nm ∈ jWL ∧ (E, nm) ∈ jNcs) (hab : a ≤ pc ∧ pc < b) (hct : ct ≠ 0) (hl : Cond.classLink M.1.cls ct E ∈ jWL) (hE : (E, E) ∈ jCst) (he : h e9 = none) (hen : e9 ∈ nw) (hfr : jfr [e9] L [])
    (kk : J M R nw Z g L [.ref e9] h nc ns) : JT M R nw Z pc L h nc ns E := by
  intro p l e s m args below meth c H locs ls D cy ad ad0 bs hX rest q ce h1 h2 h3
  obtain ⟨x1, x2, x3, x4, x5, x6, x7, x8, x9⟩ := id hX
  obtain ⟨y1, y2, y3, y4, y5⟩ := x1
  obtain ⟨-, -, -, -, s4, s5, -⟩ := id x3
  have hW : jW D cy (va_up ad e9 q) bs h H := by
    obtain ⟨w1, w2, w3, w4, w5⟩ := x6
    have hun : ∀ j, h j ≠ none → va_up ad e9 q j = ad j := fun j hj => if_neg fun e => hj (by rw [e]; exact he)
    refine ⟨w1, fun j cj hj => ?_, fun i j hi hj e => ?_, fun j hj => ?_, w5⟩
    · rw [hun j (by rw [hj]; exact fun z => by cases z), jE_up (fun hr => w5 j cj hj e9 hr he)]
      exact w2 j cj hj
    · rw [hun i hi, hun j hj] at e
      exact w3 i j hi hj e
    · rw [hun j hj]; exact w4 j hj
  have w := kk p l e s m args below meth c H locs ls D cy (va_up ad e9 q) ad0 bs ⟨⟨y1, y2, y3, y4, y5⟩, x2, x3, x4, x5, hW, fun j hj => (va_up_off j (fun e => hj (by rw [List.mem_singleton.mp e]; exact hen))).trans (x7 j hj), by rw [jLs_same hfr va_up_off]; exact x8, x9⟩
  have e : [Value.ref e9].map (jv (va_up ad e9 q)) = [.ref q] := by
    show [Value.ref (va_up ad e9 q e9)] = _
    rw [show va_up ad e9 q e9 = q from if_pos rfl]
  rw [e] at w
  refine vx_catch (name := E) y4 (tableOf pre) { startPc := a, endPc := b, handlerPc := g, catchType := ct } (tableOf suf) (by rw [x2.2.2.2.2, ht]; simp [tableOf]) (fun z hz => ?_) ?_ hct (y5 _ hl) (va_Nw.use rfl (s4 _ hE)) h1 h2 h3 w
  · simp only [tableOf, List.mem_map] at hz
    obtain ⟨q9, hq9, rfl⟩ := hz
    obtain ⟨z1, nm, z2, z3⟩ := hpre q9 hq9
    exact Or.inr ⟨z1, nm, y5 _ z2, s5 _ z3⟩
  · simp [covers, hab.1, hab.2]
end JN1
