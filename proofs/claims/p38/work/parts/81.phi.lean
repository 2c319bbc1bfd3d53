/-! WHAT THE LAW'S METHODS ALSO KNOW: the script at the place 150, the class of rows of Families, the law's texts at 400, 402 .. and their letters at 401, 403 .. -/
def tIdx (i : Nat) : Nat := [214, 222, 224, 230, 232, 234, 271, 273, 275, 277].getD i 0
def tTx (i : Nat) : String := ["#", "", "<", "+", "=", "x", "f;b", ";e", ";m", ";d"].getD i ""
def tL (i : Nat) : List Int := [[35], [], [60], [43], [61], [120], [102, 59, 98], [59, 101], [59, 109], [59, 100]].getD i []
def pT (ad : Nat → Nat) (bs : Nat) (U : State) (H : Heap) : Prop := ∀ i : Nat, i < 10 → va_O "java/lang/String" (ad (400 + 2 * i)) (jB bs) U H ∧ va_OF "java/lang/String" "coder" "B" (.int 0) (ad (400 + 2 * i)) (jB bs) U H ∧ va_OF "java/lang/String" "value" "[B" (.ref (ad (401 + 2 * i))) (ad (400 + 2 * i)) (jB bs) U H ∧
  va_T .byte (ad (401 + 2 * i)) (tL i).length (fun j => .int (Int32.ofInt ((tL i).getD j 0))) (jB bs) U H ∧ vk_R RL (tIdx i) (tTx i) (ad (400 + 2 * i)) U
def pF (L : Nat) (xs : Nat → Int32) (ad : Nat → Nat) (bs : Nat) (U : State) : Prop := va_AO RX1 U ∧ (va_X (ad 150) L xs U U.heap ∧ ad 150 < U.heap.size ∧ ¬ jB bs (ad 150)) ∧ pT ad bs U U.heap ∧ va_Nw (.castable "[B" "java/lang/Cloneable") U
theorem pF.go {L : Nat} {xs : Nat → Int32} {ad : Nat → Nat} {bs : Nat} {s U : State} {locs : List Loc} (h : pF L xs ad bs s) (hS : va_S (jB bs) s.heap U.heap locs) (hW : s.WarmedH U.vm) : pF L xs ad bs U := by
  obtain ⟨h1, ⟨h2, h3, h4⟩, h5, h6⟩ := h
  refine ⟨va_AO.moved hW.alike h1, ⟨va_X.kept (va_X.moved hW.alike h2) (hS.2.1 _ h3 h4), Nat.lt_of_lt_of_le h3 hS.1, h4⟩, fun i hi => ?_, va_Nw.warmC hW h6⟩
  obtain ⟨g1, g2, g3, g4, g5⟩ := h5 i hi
  exact ⟨va_O.moved hW.alike (g1.kept hS.2.1), va_OF.moved hW.alike (g2.kept hS.2.1), va_OF.moved hW.alike (g3.kept hS.2.1), va_T.moved hW.alike (g4.kept hS.2.1), vk_R.warm hW g5⟩
/-- the places of what is known are none of these -/
def pNw (nw : List Nat) : Prop := ∀ k ∈ nw, k ≠ 150 ∧ (k < 400 ∨ 420 ≤ k)
theorem pNw.of {nw : List Nat} (h : nw.all (fun k => !(Nat.beq k 150) && (Nat.blt k 400 || Nat.ble 420 k)) = true) : pNw nw := fun k hk => by
  have q := List.all_eq_true.mp h k hk
  simp only [Bool.and_eq_true, Bool.not_eq_true', Bool.or_eq_true] at q
  obtain ⟨q1, q2⟩ := q
  refine ⟨fun e => ?_, ?_⟩
  · rw [e] at q1; exact absurd q1 (by decide)
  · rcases q2 with z | z
    · exact Or.inl (Nat.lt_of_succ_le (Nat.le_of_ble_eq_true z))
    · exact Or.inr (Nat.le_of_ble_eq_true z)
theorem pF.ad {L : Nat} {xs : Nat → Int32} {ad ad' : Nat → Nat} {bs : Nat} {s : State} {nw : List Nat} (h : pF L xs ad bs s) (hn : pNw nw) (he : ∀ k : Nat, k ∉ nw → ad' k = ad k) : pF L xs ad' bs s := by
  have e1 : ad' 150 = ad 150 := he 150 fun q => (hn _ q).1 rfl
  have e2 : ∀ k, 400 ≤ k → k < 420 → ad' k = ad k := fun k h0 h1 => he k fun q => by have := (hn _ q).2; omega
  obtain ⟨h1, ⟨h2, h3, h4⟩, h5, h6⟩ := h
  refine ⟨h1, by rw [e1]; exact ⟨h2, h3, h4⟩, fun i hi => ?_, h6⟩
  rw [e2 (400 + 2 * i) (by omega) (by omega), e2 (401 + 2 * i) (by omega) (by omega)]
  exact h5 i hi
/-- a method whose walk knows them -/
abbrev pMe (M : jMe) (L : Nat) (xs : Nat → Int32) : jMe := (M.1, M.2.1, M.2.2.1, M.2.2.2.1, M.2.2.2.2.1, fun s ad bs => pF L xs ad bs s)
/-- its contract -/
def jMF (N : jMe) (L : Nat) (xs : Nat → Int32) (d mc ms : Nat) (nw : List Nat) (a0 : List Value) (h0 : jH) (Pn : jPn) (Px : jPx) : Prop :=
  ∀ (l : Launch), l.stackTraces = false → ∀ (D : va_G) (cy : Nat → ClassId) (ad : Nat → Nat) (bs : Nat),
    vx_Met l N.1 (jHd N :: jWL) (jR d mc ms) (va_Pc (a0.map (jv ad)) (fun U => ((jS bs U U.heap ∧ pF L xs ad bs U) ∧ va_K D jcl (jtys cy) U) ∧ jW D cy ad bs h0 U.heap)) (jQn nw Pn D cy ad bs) (jQx nw Px D cy ad bs) mc ms (jB bs)
theorem jMF.mo {N : jMe} {L : Nat} {xs : Nat → Int32} {d mc ms : Nat} {nw : List Nat} {a0 : List Value} {h : jH} {Pn Pn' : jPn} (hM : jMF N L xs d mc ms nw a0 h Pn jno) (hi : ∀ r h', Pn r h' → Pn' r h') : jMF N L xs d mc ms nw a0 h Pn' jno := by
  intro l hl D cy ad bs p e ha hc hk s m args below hf happ hP hK
  obtain ⟨n, o, h1, h2, h3, h4⟩ := hM l hl D cy ad bs p e ha hc hk s m args below hf happ hP hK
  refine ⟨n, o, h1, h2, h3, ?_⟩
  rcases h4 with ⟨⟨r, h', ad', z1, z2, z3⟩, z4⟩ | ⟨q, -, E, ce, Lq, ⟨h', ad', hp, -⟩, -⟩
  · exact .inl ⟨⟨r, h', ad', z1, hi r h' z2, z3⟩, z4⟩
  · exact hp.elim
theorem jM.mo {M : jMe} {d mc ms : Nat} {nw : List Nat} {a0 : List Value} {h : jH} {Pn Pn' : jPn} (hM : jM M d mc ms nw a0 h Pn jno) (hi : ∀ r h', Pn r h' → Pn' r h') : jM M d mc ms nw a0 h Pn' jno := by
  intro l hl D cy ad bs p e ha hc hk s m args below hf happ hP hK
  obtain ⟨n, o, h1, h2, h3, h4⟩ := hM l hl D cy ad bs p e ha hc hk s m args below hf happ hP hK
  refine ⟨n, o, h1, h2, h3, ?_⟩
  rcases h4 with ⟨⟨r, h', ad', z1, z2, z3⟩, z4⟩ | ⟨q, -, E, ce, Lq, ⟨h', ad', hp, -⟩, -⟩
  · exact .inl ⟨⟨r, h', ad', z1, hi r h' z2, z3⟩, z4⟩
  · exact hp.elim
section JF1
variable {M0 : jMe} {Ln : Nat} {xs : Nat → Int32} {R : Room} {nw : List Nat} {Z : jFin} {pc pc' : Nat} {L L' : List (Nat × Value)} {st st' : List Value} {h h' : jH} {nc ns nc' ns' mc ms : Nat} {Pn : jPn} {Px : jPx}
theorem j_methodF {d : Nat} {a0 : List Value} {h0 : jH} (hy : plainName M0.1.cls = true) (ht : M0.2.2.2.2.1 = []) (hn : (lg_sl a0).length ≤ M0.2.2.1)
    (k : J (pMe M0 Ln xs) (jR d mc ms) nw (jZ nw mc ms Pn Px) 0 (lv_args 0 a0) [] h0 0 0) : jMF M0 Ln xs d mc ms nw a0 h0 Pn Px := by
  intro l hl D cy ad bs
  have hH : jHd M0 = .code M0.1 M0.2.1 M0.2.2.1 M0.2.2.2.1 := by unfold jHd; rw [ht]
  rw [hH]
  refine vx_ofW (cc := M0.2.1) (maxL := M0.2.2.1) (ret := M0.2.2.2.1) hy rfl ?_
  intro p e s m args below meth c s₁ B hml htab hv
  obtain ⟨rfl, ⟨⟨hS, hF⟩, hK⟩, hW⟩ := hv
  have hts := atoms_spec (ws := Cond.code M0.1 M0.2.1 M0.2.2.1 M0.2.2.2.1 :: jWL) B.pre
  have hnl := jsl_len ad a0
  have hl0 := lv_entry (a0.map (jv ad)) (n := M0.2.2.1) (by rw [hnl]; exact hn)
  rw [lg_entry_eq]
  rw [jLs_args] at hl0
  refine k p l e s m _ below meth c s.heap [] _ D cy ad ad bs ⟨⟨B.exec, B.bytes, hml, findClass_of_methodNamed B.named, fun w hw => hts w (List.mem_cons_of_mem _ hw)⟩, ⟨B.returns, B.notSynchronized, (name_of_methodNamed B.named B.method).1, hl, ?_⟩, hS, hK, va_S.rf, hW, fun _ _ => rfl, hl0, hW.1, hF⟩
  show c.exceptionTable.toList = tableOf M0.2.2.2.2.1
  rw [ht]
  exact List.eq_nil_iff_forall_not_mem.mpr fun x hx => htab x hx
theorem j_blindF {av : List Value} {D : va_G} {cy : Nat → ClassId} {ad : Nat → Nat} {bs : Nat} {h0 : jH} : FrameBlind (va_Pc av (fun U => ((jS bs U U.heap ∧ pF Ln xs ad bs U) ∧ va_K D jcl (jtys cy) U) ∧ jW D cy ad bs h0 U.heap)) := fun a U g mk q => by
  obtain ⟨q1, ⟨⟨q2, q5⟩, q3⟩, q4⟩ := q
  exact ⟨q1, ⟨⟨jS.go (U := U.calling g mk a) q2 (State.WarmedH.refl U) (fun _ _ _ => rfl), pF.go (U := U.calling g mk a) (locs := []) q5 va_S.rf (State.WarmedH.refl U)⟩, va_K.moved (u := U) (U := U.calling g mk a) (Vm.Alike.refl U.vm) q3⟩, q4⟩
theorem j_startF {s : State} {H : Heap} {locs : List Loc} {D : va_G} {cy : Nat → ClassId} {ad : Nat → Nat} {bs : Nat} {av : List Value} (h3 : jS bs s s.heap) (h8 : pF Ln xs ad bs s) (h4 : va_K D jcl (jtys cy) s) (h5 : va_S (jB bs) s.heap H locs) (h6 : jW D cy ad bs h H) :
    ∀ U : State, U.heap = H → s.WarmedH U.vm → va_Pc av (fun U => ((jS bs U U.heap ∧ pF Ln xs ad bs U) ∧ va_K D jcl (jtys cy) U) ∧ jW D cy ad bs h U.heap) av.toArray U := fun U hU hW =>
  ⟨rfl, ⟨⟨h3.go hW (fun q hq hb => by rw [hU]; exact h5.2.1 q hq hb), pF.go (locs := locs) h8 (by rw [hU]; exact h5) hW⟩, va_K.moved hW.alike h4⟩, by rw [hU]; exact h6⟩
/-- a static call of such a method -/
theorem j_callSF {N : jMe} {idx n d' mc' ms' : Nat} {nw' : List Nat} {Pn' : jPn} {Px' : jPx} {as rest : List Value} (hM : jMF N Ln xs d' mc' ms' nw' as h Pn' Px') (hd : decode M0.2.1 pc = .ok (.invokestatic idx, 3)) (hc : jCa M0.1.cls idx N n) (hm : jmS N) (ht : N.2.2.2.2.1 = []) (hnw : pNw nw) (hn : as.length = n)
    (hst : as.reverse ++ rest = st) (hsub : ∀ k ∈ nw', k ∈ nw) (hfr : jfr nw' L rest) (hcat : (rest.map fun v => v.category).sum ≤ 8) (hR : d' + 1 ≤ R.frames ∧ 8 + (N.2.2.1 + 11) + 64 * d' ≤ R.locals) (hroom : nc + mc' ≤ R.cells ∧ ns + ms' ≤ R.slots)
    (kn : ∀ (r : Option Value) (h' : jH), Pn' r h' → J (pMe M0 Ln xs) R nw Z (pc + 3) L (r.toList ++ rest) h' (nc + mc') (ns + ms'))
    (kx : ∀ (E : String) (h' : jH), Px' E h' → JT (pMe M0 Ln xs) R nw Z pc L h' (nc + mc') (ns + ms') E) : J (pMe M0 Ln xs) R nw Z pc L st h nc ns := by
  refine J.call hsub hfr (fun p l e s m args below meth c H locs ls D cy ad ad0 bs hX => ?_) kn kx
  subst hst
  obtain ⟨⟨y1, y2, y3, y4, y5⟩, ⟨-, -, -, y6, -⟩, x3, x4, x5, x6, x7, x8, x9, x10⟩ := hX
  have hv := hM l y6 D cy ad bs
  rw [j_hd ht] at hv
  have hH := j_hd ht
  obtain ⟨m1, m3, m4⟩ := hm
  obtain ⟨c1, c2, c3⟩ := hc
  have hG : GoodIn jWL (va_wsS M0.1.cls idx N.1 (.code N.1 N.2.1 N.2.2.1 N.2.2.2.1 :: jWL)) := by
    rw [← hH]
    exact j_gin m4 fun w hw => by
      simp only [List.mem_cons, List.not_mem_nil, or_false] at hw
      rcases hw with rfl | rfl | rfl <;> assumption
  have cw := va_cwS (R := R) (rm := jR d' mc' ms') (mc := mc') (ms := ms') n y5 hG rfl rfl rfl ⟨c2.1, c2.2, c3⟩ hR
  exact ⟨_, vx_runS (As := as.map (jv ad)) ⟨y1, y2, y3, y4, y5⟩ hv cw ⟨j_blindF, j_startF x3 (x10.ad hnw x7) x4 x5 x6⟩ rfl (by rw [List.length_map]; exact hn) x8.1 (by simp [List.map_reverse]) (by show 2 * 0 + _ ≤ 8; rw [j_cats]; omega) hd hroom⟩
/-- the receiver at k is of this class -/
def pRc (M : jMe) (nw : List Nat) (L : List (Nat × Value)) (h : jH) (k : Nat) (C : String) : Prop := ∀ (p : Program) (l : Launch) (s : State) (m : MethodId) (args : Array Value) (meth : Method) (c : Code) (H : Heap) (locs : List Loc) (ls : Array Slot) (D : va_G) (cy : Nat → ClassId) (ad ad0 : Nat → Nat) (bs : Nat),
  jX M nw L h p l s m args meth c H locs ls D cy ad ad0 bs → ∃ cell : Cell, H[ad k]? = some cell ∧ cell.vm.isStatics = false ∧ s.vm.findClass C = some cell.cls
theorem pRc.ob {M : jMe} {k ci : Nat} {fs : List Value} {C : String} {T : u_T} {n : Nat} (ha : h k = some (jO ci fs)) (hci : jcl[ci]? = some (C, T, n)) : pRc M nw L h k C := fun p l s m args meth c H locs ls D cy ad ad0 bs hX => by
  obtain ⟨-, -, x3, x4, x5, x6, -⟩ := hX
  exact va_recv (q0 := 0) (ci := ci) x4 (j_one (x6.2.1 k _ ha)) hci rfl
theorem pRc.tx {i : Nat} (hi : i < 10) (hnw : pNw nw) : pRc (pMe M0 Ln xs) nw L h (400 + 2 * i) "java/lang/String" := fun p l s m args meth c H locs ls D cy ad ad0 bs hX => by
  obtain ⟨-, -, x3, x4, x5, x6, x7, x8, x9, x10⟩ := hX
  obtain ⟨cell, h1, h2, h3, -⟩ := ((x10.ad hnw x7).2.2.1 i hi).1.kept x5.2.1
  exact ⟨cell, h1, h2, h3⟩
/-- a call by name, whoever the receiver is -/
theorem j_callVF {N : jMe} {idx n d' mc' ms' k : Nat} {nw' : List Nat} {Pn' : jPn} {Px' : jPx} {as rest : List Value} (hM : jMF N Ln xs d' mc' ms' nw' (.ref k :: as) h Pn' Px') (hd : decode M0.2.1 pc = .ok (.invokevirtual idx, 3)) (hc : jCa M0.1.cls idx N n) (hm : jmV N) (ht : N.2.2.2.2.1 = []) (hnw : pNw nw) (hn : as.length = n)
    (hrc : pRc (pMe M0 Ln xs) nw L h k N.1.cls) (hst : as.reverse ++ .ref k :: rest = st) (hsub : ∀ k ∈ nw', k ∈ nw) (hfr : jfr nw' L rest) (hcat : (rest.map fun v => v.category).sum ≤ 8) (hR : d' + 1 ≤ R.frames ∧ 8 + (N.2.2.1 + 11) + 64 * d' ≤ R.locals) (hroom : nc + mc' ≤ R.cells ∧ ns + ms' ≤ R.slots)
    (kn : ∀ (r : Option Value) (h' : jH), Pn' r h' → J (pMe M0 Ln xs) R nw Z (pc + 3) L (r.toList ++ rest) h' (nc + mc') (ns + ms'))
    (kx : ∀ (E : String) (h' : jH), Px' E h' → JT (pMe M0 Ln xs) R nw Z pc L h' (nc + mc') (ns + ms') E) : J (pMe M0 Ln xs) R nw Z pc L st h nc ns := by
  refine J.call hsub hfr (fun p l e s m args below meth c H locs ls D cy ad ad0 bs hX => ?_) kn kx
  subst hst
  obtain ⟨cell, g1, g2, g3⟩ := hrc _ _ _ _ _ _ _ _ _ _ _ _ _ _ _ hX
  obtain ⟨⟨y1, y2, y3, y4, y5⟩, ⟨-, -, -, y6, -⟩, x3, x4, x5, x6, x7, x8, x9, x10⟩ := hX
  have hv := hM l y6 D cy ad bs
  rw [j_hd ht] at hv
  have hH := j_hd ht
  obtain ⟨m1, m2, m3, m4⟩ := hm
  obtain ⟨c1, c2, c3⟩ := hc
  have hG : GoodIn jWL (wsV M0.1.cls idx N.1.cls N.1 (.code N.1 N.2.1 N.2.2.1 N.2.2.2.1 :: jWL)) := by
    rw [← hH]
    exact j_gin m4 fun w hw => by
      simp only [List.mem_cons, List.not_mem_nil, or_false] at hw
      rcases hw with rfl | rfl | rfl | rfl <;> assumption
  have cw := cwV (R := R) (rm := jR d' mc' ms') (mc := mc') (ms := ms') n y5 hG rfl rfl rfl ⟨rfl, c2.1, c2.2, c3⟩ hR
  exact ⟨_, vx_runV (C := N.1.cls) (b := ad k) (As := as.map (jv ad)) ⟨y1, y2, y3, y4, y5⟩ hv cw ⟨j_blindF, ⟨cell, g1, g2, g3⟩, j_startF (av := (Value.ref k :: as).map (jv ad)) x3 (x10.ad hnw x7) x4 x5 x6⟩ rfl (by rw [List.length_map]; exact hn) x8.1 (by simp [jv, List.map_reverse]) (by show 2 * 0 + _ ≤ 8; rw [j_cats]; omega) hd hroom⟩
/-- a contract that throws nothing, as the kit's own -/
theorem jMF.met {N : jMe} {d' mc' ms' : Nat} {nw' : List Nat} {Pn' : jPn} {a0 : List Value} (hM : jMF N Ln xs d' mc' ms' nw' a0 h Pn' jno) {l : Launch} (hl : l.stackTraces = false) (D : va_G) (cy : Nat → ClassId) (ad : Nat → Nat) (bs : Nat) :
    Met l N.1 (jHd N :: jWL) (jR d' mc' ms') (va_Pc (a0.map (jv ad)) (fun U => ((jS bs U U.heap ∧ pF Ln xs ad bs U) ∧ va_K D jcl (jtys cy) U) ∧ jW D cy ad bs h U.heap)) (jQn nw' Pn' D cy ad bs) mc' ms' (jB bs) := by
  intro p e ha hc hk s m args below hf happ hP hK
  obtain ⟨n, o, h1, h2, h3, h4⟩ := hM l hl D cy ad bs p e ha hc hk s m args below hf happ hP hK
  refine ⟨n, o, h1, h2, h3, ?_⟩
  rcases h4 with h4 | ⟨q, -, E, ce, Lq, ⟨h', ad', hp, -⟩, -⟩
  · exact h4
  · exact hp.elim
/-- methods of StringBuilder's superclass: a call within it, and out of StringBuilder -/
theorem j_callUF {N : jMe} {idx n d' mc' ms' k : Nat} {nw' : List Nat} {Pn' : jPn} {as rest fs : List Value} (hM : jMF N Ln xs d' mc' ms' nw' (.ref k :: as) h Pn' jno) (hd : decode M0.2.1 pc = .ok (.invokevirtual idx, 3)) (hc : jCa M0.1.cls idx N n) (hm : jmU N) (hs : Cond.selects RJ4 N.1 N.1 ∈ jWL ∨ Cond.privateMethod N.1 ∈ jWL) (ht : N.2.2.2.2.1 = []) (hnw : pNw nw) (hn : as.length = n)
    (ha : h k = some (jO 6 fs)) (hst : as.reverse ++ .ref k :: rest = st) (hsub : ∀ k ∈ nw', k ∈ nw) (hfr : jfr nw' L rest) (hcat : (rest.map fun v => v.category).sum ≤ 8) (hR : d' + 1 ≤ R.frames ∧ 8 + (N.2.2.1 + 11) + 64 * d' ≤ R.locals) (hroom : nc + mc' ≤ R.cells ∧ ns + ms' ≤ R.slots)
    (kn : ∀ (r : Option Value) (h' : jH), Pn' r h' → J (pMe M0 Ln xs) R nw Z (pc + 3) L (r.toList ++ rest) h' (nc + mc') (ns + ms')) : J (pMe M0 Ln xs) R nw Z pc L st h nc ns := by
  refine J.call (Px' := jno) hsub hfr (fun p l e s m args below meth c H locs ls D cy ad ad0 bs hX => ?_) kn (fun E h' q => q.elim)
  subst hst
  obtain ⟨⟨y1, y2, y3, y4, y5⟩, ⟨-, -, -, y6, -⟩, x3, x4, x5, x6, x7, x8, x9, x10⟩ := hX
  have hv := hM.met y6 D cy ad bs
  rw [j_hd ht] at hv
  obtain ⟨m1, m2, m3, m4, m5, m6, -⟩ := hm
  obtain ⟨c1, c2, c3⟩ := hc
  have hsel : (Cond.selects RJ4 N.1 N.1).before args s = true := by
    rcases hs with q | q
    · exact y5 _ q
    · exact j_selp (y5 _ j_sel5) m5.symm (y5 _ q) (y5 _ m1) c2
  rw [j_hd ht] at m4
  have hcw : ∀ w ∈ (Cond.code N.1 N.2.1 N.2.2.1 N.2.2.2.1 :: jWL), w ∈ jWL := fun w hw => by
    rcases List.mem_cons.mp hw with q | q
    · rw [q]; exact m4
    · exact q
  have hG : GoodIn (Cond.selects RJ4 N.1 N.1 :: jWL) (va_wsU M0.1.cls idx RJ4 N.1.cls N.1 N.1 (.code N.1 N.2.1 N.2.2.1 N.2.2.2.1 :: jWL)) := fun w hw => by
    rcases List.mem_append.mp hw with h1 | h1
    · simp only [List.mem_cons, List.not_mem_nil, or_false] at h1
      rcases h1 with rfl | rfl | rfl | rfl | rfl
      · exact ⟨List.mem_cons_of_mem _ c1, (jw_good c1).2⟩
      · exact ⟨List.mem_cons_of_mem _ m2, (jw_good m2).2⟩
      · exact ⟨List.mem_cons_self, .inl (by rfl)⟩
      · exact ⟨List.mem_cons_of_mem _ m1, (jw_good m1).2⟩
      · exact ⟨List.mem_cons_of_mem _ m3, (jw_good m3).2⟩
    · exact ⟨List.mem_cons_of_mem _ (hcw w h1), (jw_good (hcw w h1)).2⟩
  have cw := va_cwU (R := R) (s := s) (args := args) (rm := jR d' mc' ms') (mc := mc') (ms := ms') n (fun w hw => by
    rcases List.mem_cons.mp hw with q | q
    · rw [q]; exact hsel
    · exact y5 _ q) hG rfl rfl rfl rfl ⟨c2.1, c2.2, c3⟩ hR
  obtain ⟨cell, g1, g2, g3⟩ := va_recv (q0 := 0) (ci := 6) x4 (j_one (x6.2.1 k _ ha)) rfl rfl
  exact ⟨_, va_Run.vx (va_runU (C := RJ4) (b := ad k) (As := as.map (jv ad)) ⟨y1, y2, y3, y4, y5⟩ hv cw ⟨j_blindF, ⟨cell, g1, g2, g3⟩, j_startF (av := (Value.ref k :: as).map (jv ad)) x3 (x10.ad hnw x7) x4 x5 x6⟩ rfl (by rw [List.length_map]; exact hn) x8.1 (by simp [jv, List.map_reverse]) (by show 2 * 0 + _ ≤ 8; rw [j_cats]; omega) hd hroom)⟩
theorem j_callSUF {N : jMe} {idx n d' mc' ms' k : Nat} {nw' : List Nat} {Pn' : jPn} {as rest fs : List Value} (hM : jMF N Ln xs d' mc' ms' nw' (.ref k :: as) h Pn' jno) (hd : decode M0.2.1 pc = .ok (.invokespecial idx, 3)) (hcls : M0.1.cls = RJ4) (hc : jCa M0.1.cls idx N n) (hm : jmU N) (ht : N.2.2.2.2.1 = []) (hnw : pNw nw) (hn : as.length = n)
    (ha : h k = some (jO 6 fs)) (hst : as.reverse ++ .ref k :: rest = st) (hsub : ∀ k ∈ nw', k ∈ nw) (hfr : jfr nw' L rest) (hcat : (rest.map fun v => v.category).sum ≤ 8) (hR : d' + 1 ≤ R.frames ∧ 8 + (N.2.2.1 + 11) + 64 * d' ≤ R.locals) (hroom : nc + mc' ≤ R.cells ∧ ns + ms' ≤ R.slots)
    (kn : ∀ (r : Option Value) (h' : jH), Pn' r h' → J (pMe M0 Ln xs) R nw Z (pc + 3) L (r.toList ++ rest) h' (nc + mc') (ns + ms')) : J (pMe M0 Ln xs) R nw Z pc L st h nc ns := by
  refine J.call (Px' := jno) hsub hfr (fun p l e s m args below meth c H locs ls D cy ad ad0 bs hX => ?_) kn (fun E h' q => q.elim)
  subst hst
  obtain ⟨⟨y1, y2, y3, y4, y5⟩, ⟨-, -, -, y6, -⟩, x3, x4, x5, x6, x7, x8, x9, x10⟩ := hX
  have hv := hM.met y6 D cy ad bs
  rw [j_hd ht] at hv
  obtain ⟨m1, m2, m3, m4, m5, m6, -⟩ := hm
  obtain ⟨c1, c2, c3⟩ := hc
  rw [j_hd ht] at m4
  have m7 : Cond.superclass M0.1.cls N.1.cls ∈ jWL := by
    rw [hcls, m5]
    exact jw_mem 223 (by decide +kernel) (by decide +kernel)
  have hcw : ∀ w ∈ (Cond.code N.1 N.2.1 N.2.2.1 N.2.2.2.1 :: jWL), w ∈ jWL := fun w hw => by
    rcases List.mem_cons.mp hw with q | q
    · rw [q]; exact m4
    · exact q
  have hG : GoodIn jWL (va_wsSU M0.1.cls idx N.1 (.code N.1 N.2.1 N.2.2.1 N.2.2.2.1 :: jWL)) := fun w hw => by
    rcases List.mem_append.mp hw with h1 | h1
    · simp only [List.mem_cons, List.not_mem_nil, or_false] at h1
      rcases h1 with rfl | rfl | rfl | rfl | rfl
      · exact ⟨c1, (jw_good c1).2⟩
      · exact ⟨m2, (jw_good m2).2⟩
      · exact ⟨m7, (jw_good m7).2⟩
      · exact ⟨m1, (jw_good m1).2⟩
      · exact ⟨m3, (jw_good m3).2⟩
    · exact ⟨hcw w h1, (jw_good (hcw w h1)).2⟩
  have cw := va_cwSU (R := R) (s := s) (args := args) (rm := jR d' mc' ms') (mc := mc') (ms := ms') n y5 hG rfl rfl rfl ⟨m6, c3⟩ hR
  obtain ⟨cell, g1, g2, g3⟩ := va_recv (q0 := 0) (ci := 6) x4 (j_one (x6.2.1 k _ ha)) rfl rfl
  exact ⟨_, va_Run.vx (va_runSU (C := RJ4) (x4.1 6 _ rfl).2 (b := ad k) (As := as.map (jv ad)) ⟨y1, y2, y3, y4, y5⟩ hv cw ⟨j_blindF, ⟨cell, g1, g2, g3⟩, j_startF (av := (Value.ref k :: as).map (jv ad)) x3 (x10.ad hnw x7) x4 x5 x6⟩ rfl (by rw [List.length_map]; exact hn) x8.1 (by simp [jv, List.map_reverse]) (by show 2 * 0 + _ ≤ 8; rw [j_cats]; omega) hd hroom)⟩
-- the script
/-- the script's numbers -/
def sc (xs : Nat → Int32) (x : Int) : Int := (xs x.toNat).toInt
theorem sc_r (xs : Nat → Int32) (x : Int) : -2147483648 ≤ sc xs x ∧ sc xs x ≤ 2147483647 := by
  have h1 := Int32.le_toInt (xs x.toNat)
  have h2 := Int32.toInt_lt (xs x.toNat)
  unfold sc
  omega
theorem j_sarr {x : Int} (hd : decode M0.2.1 pc = .ok (.iaload, 1)) (hnw : pNw nw) (hx : 0 ≤ x ∧ x < Ln) (hL : Ln ≤ 2048) (kk : J (pMe M0 Ln xs) R nw Z (pc + 1) L (iv (sc xs x) :: st) h nc ns) : J (pMe M0 Ln xs) R nw Z pc L (iv x :: .ref 150 :: st) h nc ns := by
  intro p l e s m args below meth c H locs ls D cy ad ad0 bs hX
  have w := kk p l e s m args below meth c H locs ls D cy ad ad0 bs hX
  obtain ⟨⟨y1, y2, y3, y4, y5⟩, x2, x3, x4, x5, x6, x7, x8, x9, x10⟩ := hX
  obtain ⟨-, ⟨x11, x12, x13⟩, -⟩ := x10.ad hnw x7
  refine va_sld (A := jB bs) (H0 := s.heap) (i := Int32.ofInt x) y1 y2 x11 x12 x13 x5 (j_vin hx (by omega)) hd ?_
  have e2 : Value.int (xs (Int32.ofInt x).toNatClampNeg) = iv (sc xs x) := by
    rw [j_nat hx.1 (by omega)]
    unfold iv sc
    rw [Int32.ofInt_toInt]
  rw [e2]
  exact w
theorem j_sarl (hd : decode M0.2.1 pc = .ok (.arraylength, 1)) (hnw : pNw nw) (kk : J (pMe M0 Ln xs) R nw Z (pc + 1) L (iv Ln :: st) h nc ns) : J (pMe M0 Ln xs) R nw Z pc L (.ref 150 :: st) h nc ns := by
  intro p l e s m args below meth c H locs ls D cy ad ad0 bs hX
  have w := kk p l e s m args below meth c H locs ls D cy ad ad0 bs hX
  obtain ⟨⟨y1, y2, y3, y4, y5⟩, x2, x3, x4, x5, x6, x7, x8, x9, x10⟩ := hX
  obtain ⟨-, ⟨x11, x12, x13⟩, -⟩ := x10.ad hnw x7
  exact va_slen (A := jB bs) (H0 := s.heap) y1 y2 x11 x12 x13 x5 hd w
-- the law's texts
theorem j_ldcT {i : Nat} (hi : i < 10) (hnw : pNw nw) (hcl : M0.1.cls = RL) (hd : decode M0.2.1 pc = .ok (.ldc (tIdx i), 2)) (kk : J (pMe M0 Ln xs) R nw Z (pc + 2) L (.ref (400 + 2 * i) :: st) h nc ns) : J (pMe M0 Ln xs) R nw Z pc L st h nc ns := by
  intro p l e s m args below meth c H locs ls D cy ad ad0 bs hX
  have w := kk p l e s m args below meth c H locs ls D cy ad ad0 bs hX
  obtain ⟨⟨y1, y2, y3, y4, y5⟩, x2, x3, x4, x5, x6, x7, x8, x9, x10⟩ := hX
  obtain ⟨-, -, -, -, g5⟩ := (x10.ad hnw x7).2.2.1 i hi
  exact va_ldcS y1 y2 (by rw [← hcl]; exact y4) g5 hd w
theorem j_ldcTW {i : Nat} (hi : i < 10) (hnw : pNw nw) (hcl : M0.1.cls = RL) (hd : decode M0.2.1 pc = .ok (.ldc_w (tIdx i), 3)) (kk : J (pMe M0 Ln xs) R nw Z (pc + 3) L (.ref (400 + 2 * i) :: st) h nc ns) : J (pMe M0 Ln xs) R nw Z pc L st h nc ns := by
  intro p l e s m args below meth c H locs ls D cy ad ad0 bs hX
  have w := kk p l e s m args below meth c H locs ls D cy ad ad0 bs hX
  obtain ⟨⟨y1, y2, y3, y4, y5⟩, x2, x3, x4, x5, x6, x7, x8, x9, x10⟩ := hX
  obtain ⟨-, -, -, -, g5⟩ := (x10.ad hnw x7).2.2.1 i hi
  have y4' : s.vm.findClass RL = some m.cls := by rw [← hcl]; exact y4
  intro T hT X
  obtain ⟨t, a1, b1⟩ := w T hT X
  exact ⟨t, X.ldcStringW y1 (own := RL) y4' g5.1 g5.2 (g := F0 m pc ls (st.map (jv ad))) rfl (by rw [y2]; exact hd) t a1, b1⟩
theorem j_getV {i idx : Nat} (hi : i < 10) (hnw : pNw nw) (hl : Cond.fieldLink M0.1.cls idx "java/lang/String" "value" "[B" ∈ jWL) (hd : decode M0.2.1 pc = .ok (.getfield idx, 3)) (kk : J (pMe M0 Ln xs) R nw Z (pc + 3) L (.ref (401 + 2 * i) :: st) h nc ns) : J (pMe M0 Ln xs) R nw Z pc L (.ref (400 + 2 * i) :: st) h nc ns := by
  intro p l e s m args below meth c H locs ls D cy ad ad0 bs hX
  have w := kk p l e s m args below meth c H locs ls D cy ad ad0 bs hX
  obtain ⟨⟨y1, y2, y3, y4, y5⟩, x2, x3, x4, x5, x6, x7, x8, x9, x10⟩ := hX
  obtain ⟨-, -, g3, -, -⟩ := (x10.ad hnw x7).2.2.1 i hi
  exact vk_getf y1 y2 g3 x5 y4 (y5 _ hl) (fun _ q => q) hd w
theorem j_getC {i idx : Nat} (hi : i < 10) (hnw : pNw nw) (hl : Cond.fieldLink M0.1.cls idx "java/lang/String" "coder" "B" ∈ jWL) (hd : decode M0.2.1 pc = .ok (.getfield idx, 3)) (kk : J (pMe M0 Ln xs) R nw Z (pc + 3) L (iv 0 :: st) h nc ns) : J (pMe M0 Ln xs) R nw Z pc L (.ref (400 + 2 * i) :: st) h nc ns := by
  intro p l e s m args below meth c H locs ls D cy ad ad0 bs hX
  have w := kk p l e s m args below meth c H locs ls D cy ad ad0 bs hX
  obtain ⟨⟨y1, y2, y3, y4, y5⟩, x2, x3, x4, x5, x6, x7, x8, x9, x10⟩ := hX
  obtain ⟨-, g2, -, -, -⟩ := (x10.ad hnw x7).2.2.1 i hi
  exact vk_getf y1 y2 g2 x5 y4 (y5 _ hl) (fun _ q => q) hd w
theorem j_alenT {i : Nat} (hi : i < 10) (hnw : pNw nw) (hd : decode M0.2.1 pc = .ok (.arraylength, 1)) (kk : J (pMe M0 Ln xs) R nw Z (pc + 1) L (iv ((tL i).length : Int) :: st) h nc ns) : J (pMe M0 Ln xs) R nw Z pc L (.ref (401 + 2 * i) :: st) h nc ns := by
  intro p l e s m args below meth c H locs ls D cy ad ad0 bs hX
  have w := kk p l e s m args below meth c H locs ls D cy ad ad0 bs hX
  obtain ⟨⟨y1, y2, y3, y4, y5⟩, x2, x3, x4, x5, x6, x7, x8, x9, x10⟩ := hX
  obtain ⟨-, -, -, g4, -⟩ := (x10.ad hnw x7).2.2.1 i hi
  exact va_tlen y1 y2 g4 x5 (by rfl) hd w
end JF1
/-- places are forgotten, nothing that stays points at them -/
theorem J.drop {M : jMe} {R : Room} {nw : List Nat} {Z : jFin} {pc : Nat} {L : List (Nat × Value)} {st : List Value} {h h' : jH} {nc ns : Nat} (hs : ∀ j, h' j = h j ∨ h' j = none) (hc : jCl h') (k : J M R nw Z pc L st h' nc ns) : J M R nw Z pc L st h nc ns := by
  intro p l e s m args below meth c H locs ls D cy ad ad0 bs hX
  obtain ⟨x1, x2, x3, x4, x5, ⟨w1, w2, w3, w4, w5⟩, x7, x8, x9⟩ := hX
  have hn : ∀ j, h' j ≠ none → h j ≠ none := fun j q => by
    rcases hs j with e | e
    · rw [← e]; exact q
    · exact absurd e q
  refine k p l e s m args below meth c H locs ls D cy ad ad0 bs ⟨x1, x2, x3, x4, x5, ⟨w1, fun j q hq => ?_, fun j i hj hi e => w3 j i (hn j hj) (hn i hi) e, fun j hj => w4 j (hn j hj), hc⟩, x7, x8, x9⟩
  rcases hs j with e | e
  · exact w2 j q (e.symm.trans hq)
  · rw [e] at hq; cases hq
/-- the world's closure: what a walk stands on -/
theorem J.cl {M : jMe} {R : Room} {nw : List Nat} {Z : jFin} {pc : Nat} {L : List (Nat × Value)} {st : List Value} {h : jH} {nc ns : Nat} (k : jCl h → J M R nw Z pc L st h nc ns) : J M R nw Z pc L st h nc ns := by
  intro p l e s m args below meth c H locs ls D cy ad ad0 bs hX
  exact k hX.2.2.2.2.2.1.2.2.2.2 p l e s m args below meth c H locs ls D cy ad ad0 bs hX
