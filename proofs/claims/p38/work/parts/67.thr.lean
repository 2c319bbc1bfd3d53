/-! THROWS -/
def jNS : String := "java/util/NoSuchElementException"
def jNSb : ByteArray := ⟨#[0x2a, 0x2b, 0xb7, 0x00, 0x0d, 0xb1]⟩
/-- what a throw of NoSuchElementException stands on -/
def jxW (own : String) (ic : Nat) : List Cond :=
  Bundle.throwableAtoms ++ Bundle.throwableSAtoms ++ (Bundle.passSAtoms jNS "java/lang/RuntimeException" 13 jNSb ++ Bundle.chainSAtoms "java/lang/RuntimeException" ["java/lang/Exception"]) ++
  [.methodLink own ic (Bundle.initS jNS), .instantiable jNS 6, .castable jNS jNS, .selects jNS Bundle.tFill0 Bundle.tFill0, .selects jNS Bundle.tFill Bundle.tFill,
   .lays jNS Bundle.tN "cause" "Ljava/lang/Throwable;", .lays jNS Bundle.tN "stackTrace" Bundle.steD, .lays jNS Bundle.tN "suppressedExceptions" Bundle.listD, .lays jNS Bundle.tN "detailMessage" "Ljava/lang/String;",
   .isRef (.static Bundle.tN "UNASSIGNED_STACK" Bundle.steD), .isRef (.static Bundle.tN "SUPPRESSED_SENTINEL" Bundle.listD),
   .fieldLink Bundle.tN 198 Bundle.tN "backtrace" "Ljava/lang/Object;", .lays Bundle.tN Bundle.tN "backtrace" "Ljava/lang/Object;", .lays jNS Bundle.tN "backtrace" "Ljava/lang/Object;"]
def jxA (own : String) (ic : Nat) : List Cond := (jxW own ic).filter vx_no
section JXC
variable {p : Program} {l : Launch} {e : Env} {R : Room} {s : State} {m : MethodId} {args : Array Value} {below : List Frame} {meth : Method} {c : Code} {W : State} {locs : List Loc} {cells slots : Nat}
set_option maxHeartbeats 2000000 in
theorem jx_ctor (X : Stand p l e R s m args below meth c W locs cells slots) (hexec : p.tables.exec = Jvm.exec) (htr : e.platform.stackTraces = false) {own : String} {ic : Nat}
    (hown : s.vm.findClass own = some m.cls) (h : ∀ w ∈ jxW own ic, w.before args s = true)
    (hlocs : ∀ x ∈ locs, ∀ cell, s.heap[x.base]? = some cell → cell.vm.isStatics = false)
    {a : Addr} {cX : ClassId} {kX : Class} (hfoundX : s.vm.findClass jNS = some cX) (hkX : s.vm.classes[cX]? = some kX) (hcell : W.heap[a]? = some (freshCell cX kX)) (hnew : s.heap.size ≤ a)
    {msg : Value} (hmsg : msg.isRef = true)
    {g : JFrame} (hg : g.method = m) (hsize : g.locals.size = c.maxLocals) (hlocked : g.locked = none) (hentered : g.entered = []) {rest : List Value} (hstack : g.stack = msg :: .ref a :: .ref a :: rest)
    (hd6 : decode c.code g.pc = .ok (.invokespecial ic, 3)) (hd9 : decode c.code (g.pc + 3) = .ok (.athrow, 1)) (hout : ∀ x ∈ c.exceptionTable.toList, covers x (g.pc + 3) = false)
    (hRframes : 2 + 3 < R.frames) (hRlocals : 2 * g.monitorRoom + ((Value.ref a :: rest).map fun v => v.category).sum + (13 * (2 + 1) + 42) ≤ R.locals) (hlocks : meth.locks = false) :
    ∃ U : State, Steps p.tables e below (W.setTop g) U ∧ U.status = .running ∧ Ended U below (.threw a) ∧ s.WarmedH U.vm ∧ s.sameButNew ({ U with vm := s.vm } : State) locs cells slots ∧
      ∃ ce, U.heap[a]? = some ce ∧ ce.vm = .none ∧ s.vm.findClass jNS = some ce.cls := by
  have hpl : e.platform.magicAccessors = ({} : Platform).magicAccessors := by rw [X.admits.platform]
  have hw : ∀ x, x ∈ jxW own ic → x.holds args s none s [] = true := fun x hx => h x hx
  obtain ⟨T, Z0, L, -, Y⟩ := ThrowableC.of_atoms (args := args) (by rw [X.admits.platform]) (by rw [X.admits.platform]) hpl (fun x hx => h x (by simp [jxW, hx]))
  obtain ⟨Z, M, LZ, LM, hnZ⟩ := Init0T.ofS_atoms (args := args) hpl L Y (fun x hx => h x (by simp [jxW, hx]))
  obtain ⟨P1, L1, hP1m, hsup⟩ := PassC.ofS_atoms (args := args) (s := s) hpl (X := jNS) (Y := "java/lang/RuntimeException") (index := 13) (bytes := jNSb) (by decide +kernel) (by decide) (by decide +kernel) (by decide +kernel) (by decide +kernel) (by decide +kernel) (fun x hx => h x (by simp [jxW, hx]))
  obtain ⟨P2, Ps2, hlen2, L2, hL2, hP2m, hlink2, hpass2⟩ := Bundle.chainS (args := args) hpl hnZ ["java/lang/Exception"] "java/lang/RuntimeException" (by decide +kernel) (by decide +kernel) (fun x hx => h x (by simp [jxW, hx]))
  have hfound : s.vm.findClass jNS = some P1.m.cls := findClass_of_methodNamed hP1m
  cases Option.some.inj (hfoundX.symm.trans hfound)
  obtain ⟨c1, kX', hc1, hk, hord, -, -, hn6⟩ := Cond.instantiable_spec (hw (.instantiable jNS 6) (by simp [jxW]))
  cases Option.some.inj (hc1.symm.trans hfound)
  cases Option.some.inj (hkX.symm.trans hk)
  have hsel0 : selectMethod e.platform s.vm P1.m.cls T.fill0 = .method T.fill0 := by
    obtain ⟨c2, r2, m2, q1, q2, q3, q4, -⟩ := Cond.selects_spec (hw (.selects jNS Bundle.tFill0 Bundle.tFill0) (by simp [jxW]))
    cases Option.some.inj (q1.symm.trans hfound)
    cases Option.some.inj (q2.symm.trans (State.methodFound?_of_named Y.fill0 (by decide)))
    cases Option.some.inj (q3.symm.trans Y.fill0)
    rw [Launch.admits_selectMethod X.admits]; exact q4
  have hselF : selectMethod e.platform s.vm P1.m.cls T.fill = .method T.fill := by
    obtain ⟨c2, r2, m2, q1, q2, q3, q4, -⟩ := Cond.selects_spec (hw (.selects jNS Bundle.tFill Bundle.tFill) (by simp [jxW]))
    cases Option.some.inj (q1.symm.trans hfound)
    cases Option.some.inj (q2.symm.trans (State.methodFound?_of_named Y.fill (by decide)))
    cases Option.some.inj (q3.symm.trans Y.fill)
    rw [Launch.admits_selectMethod X.admits]; exact q4
  obtain ⟨cell0, hc0, hiss⟩ := Y.statics
  obtain ⟨u0, hu0⟩ := Cond.staticRefV Y.unassigned L.unassignedStatic L.statics hc0 hiss (hw (.isRef (.static Bundle.tN "UNASSIGNED_STACK" Bundle.steD)) (by simp [jxW]))
  obtain ⟨sen, hsen⟩ := Cond.staticRefV Y.sentinel L.sentinelStatic L.statics hc0 hiss (hw (.isRef (.static Bundle.tN "SUPPRESSED_SENTINEL" Bundle.listD)) (by simp [jxW]))
  obtain ⟨ci198, i198, fB, hk198, hg198, ha198, hsB, -, hnB, htB, hffB⟩ := Cond.ownField (t := .object "java/lang/Object") Y.found L.cls (by decide +kernel) (hw (.fieldLink Bundle.tN 198 Bundle.tN "backtrace" "Ljava/lang/Object;") (by simp [jxW])) (hw (.lays Bundle.tN Bundle.tN "backtrace" "Ljava/lang/Object;") (by simp [jxW])) e.platform hpl
  obtain ⟨cellS, hcS, heS, -, hkeep⟩ := X.same.2.2.2.2.2 T.aS cell0 hc0
  have hcellS : W.heap[T.aS]? = some cellS := hcS
  have hout' : ∀ i, (⟨T.aS, i⟩ : Loc) ∉ locs := fun i hmem => by
    have := hlocs _ hmem cell0 hc0
    rw [hiss] at this; cases this
  have hknownS : cellS.vm ≠ .unknown := by
    rw [heS]; intro hu
    rw [show cell0.vm = .unknown from hu] at hiss
    cases hiss
  have hneS : T.aS ≠ a := Nat.ne_of_lt (Nat.lt_of_lt_of_le (Array.getElem?_eq_some_iff.mp hc0).1 hnew)
  obtain ⟨iM, hffM⟩ := Y.msg
  obtain ⟨tyC, dC, hdC, hdnC⟩ := Cond.laysAt hfound hk Y.cause (hw (.lays jNS Bundle.tN "cause" "Ljava/lang/Throwable;") (by simp [jxW]))
  obtain ⟨tyS, dS, hdS, hdnS⟩ := Cond.laysAt hfound hk Y.stack (hw (.lays jNS Bundle.tN "stackTrace" Bundle.steD) (by simp [jxW]))
  obtain ⟨tyP, dP, hdP, hdnP⟩ := Cond.laysAt hfound hk Y.supp (hw (.lays jNS Bundle.tN "suppressedExceptions" Bundle.listD) (by simp [jxW]))
  obtain ⟨tyM, dM, hdM, hdnM⟩ := Cond.laysAt hfound hk hffM (hw (.lays jNS Bundle.tN "detailMessage" "Ljava/lang/String;") (by simp [jxW]))
  obtain ⟨tyB, dB, hdB, hdnB⟩ := Cond.laysAt hfound hk hffB (hw (.lays jNS Bundle.tN "backtrace" "Ljava/lang/Object;") (by simp [jxW]))
  have bC := Cond.laysApart hdB hdC hdnB hdnC (by rw [hnB, Y.causeName]; decide)
  have bS := Cond.laysApart hdB hdS hdnB hdnS (by rw [hnB, Y.stackName]; decide)
  have bP := Cond.laysApart hdB hdP hdnB hdnP (by rw [hnB, Y.suppName]; decide)
  have hskip : SkipFacts T e.platform s (fun u => u) u0 ((preparedCellV T.toThrowableT (freshCell P1.m.cls kX) a u0 sen).withEntry W.cur) :=
    ⟨{ ci198 := ci198, i198 := i198, fBack := fB }, ⟨hk198, hg198, ha198, hsB⟩, by
      have := fresh_default (c := P1.m.cls) tyB
      rw [htB] at this
      simpa [preparedCellV, Cell.setSlot, Cell.withEntry, Array.getElem?_setIfInBounds, bC, bS, bP, bC.symm, bS.symm, bP.symm, defaultValue] using this, fun _ _ => rfl⟩
  obtain ⟨tm, methC, cdC, kC, vm₁, hnC, -, -, -, -, -, -, -, hW₁, st1⟩ := Steps.initColdS (tb := p.tables) (e := e) (below := below) (s := s) (U := W) X.here hexec X.warmed hpl hown (t := Bundle.initS jNS) rfl rfl (by decide)
    (hw (.methodLink own ic (Bundle.initS jNS)) (by simp [jxW])) (h (.instanceMethod (Bundle.initS jNS)) (by simp [jxW, Bundle.passSAtoms])) (bytes := jNSb) (maxL := 2) (h (.code (Bundle.initS jNS) jNSb 2 none) (by simp [jxW, Bundle.passSAtoms]))
    (f := g) hg (a := a) (msg := msg) (rest := .ref a :: rest) hstack hd6
  cases Option.some.inj (hnC.symm.trans hP1m)
  have X₁ := X.noted hW₁
  obtain ⟨vm₂, X₂, st2⟩ := X₁.ctorMessageOffV hexec (g := { g with stack := .ref a :: rest }) hg hsize T L Z LZ M LM (P1 :: P2 :: Ps2)
    (fun P hP => by
      rcases List.mem_cons.mp hP with rfl | hP
      · exact L1
      · rcases List.mem_cons.mp hP with rfl | hP
        · exact L2
        · exact hL2 P hP) ⟨Option.some.inj (hsup.symm.trans hP2m), hlink2, hpass2⟩ (u0 := u0) (sen := sen) (self := a) hmsg (cell := freshCell P1.m.cls kX) (cellS := cellS)
    hcell (fun _ => by simp) (by simp) rfl rfl hsel0 hselF hcellS hneS hknownS (by rw [hkeep _ (hout' _)]; exact hu0) (by rw [hkeep _ (hout' _)]; exact hsen)
    (Takes.of_laid hk hord tyC (by rw [Y.causeType]; rfl)) (Takes.of_laid hk hord tyS (by rw [Y.stackType]; exact fits_refV_array _ u0)) (Takes.of_laid hk hord tyP (by rw [Y.suppType]; exact fits_refV_object _ sen))
    (Takes.of_laid hk hord tyM (by rw [Y.msgType]; exact fits_refV_object _ ⟨msg, hmsg⟩)) Y.objLocals hskip htr [] hd6
    (by simp only [List.length_cons, hlen2, List.length_nil]; omega) (by simp only [List.length_cons, hlen2, List.length_nil]; exact hRlocals)
  obtain ⟨hwalk, hrun, hended, hWU, hsame⟩ := X₂.athrowLeaves hexec (g := { g with stack := .ref a :: rest, pc := g.pc + 3 }) hg hlocked hentered hout (a := a) (rest := rest) rfl hd9
  have hlt : a < ((W.setVm vm₁).setVm vm₂).heap.size := (Array.getElem?_eq_some_iff.mp hcell).1
  have hU := heapAt_setCell_self (s := (W.setVm vm₁).setVm vm₂) (plainBareV T.toThrowableT (freshCell P1.m.cls kX) a u0 sen msg) hlt
  refine ⟨_, st1 _ (fun acts => ?_), hrun, hended, hWU, hsame.weaken (fun y hy hlt' => ?_) (Nat.le_refl _) (Nat.le_refl _), _, hU, rfl, hfound⟩
  · rw [doInvoke_state]
    exact st2 _ hwalk
  · rcases List.mem_append.mp hy with h1 | h1
    · exact h1
    · exfalso
      have hb : y.base = a := by
        simp only [List.mem_cons, List.not_mem_nil, or_false] at h1
        rcases h1 with rfl | rfl | rfl | rfl | rfl <;> rfl
      rw [hb] at hlt'
      exact Nat.not_lt.mpr hnew hlt'
end JXC
section JXS
variable {p : Program} {l : Launch} {e : Env} {R : Room} {s : State} {m : MethodId} {args : Array Value} {below : List Frame} {meth : Method} {c : Code} {H : Heap} {locs : List Loc} {cells slots : Nat} {Q : State → Prop}
variable {mc ms : Nat} {free : Addr → Prop} {A0 A1 : Nat → Prop} {H0 : Heap} {a : Array Value} {ls : Array Slot} {st0 rest : List Value}
variable {Qc : Array Value → State → Outcome → State → Prop} {XC : String → State → State → Prop}
theorem jx_throwS {cc : ByteArray} {pc : Nat} (hexec : p.tables.exec = Jvm.exec) (hb : c.code = cc) (hl : l.stackTraces = false) {own text : String} {ik is ic mc ms sa : Nat} {A : Nat → Prop}
    (hown : s.vm.findClass own = some m.cls) 
    (hk : (Cond.classLink own ik jNS).before args s = true) (hini : (Cond.initialized jNS).before args s = true) (hstr : vk_R own is text sa s) (hat : ∀ w ∈ jxA own ic, w.before args s = true)
    (hgood : ∀ w ∈ Cond.classLink own ik jNS :: Cond.initialized jNS :: jxA own ic, vx_ot w = true)
    (hU : vx_Zq Bundle.tN "UNASSIGNED_STACK" Bundle.steD A s s.heap) (hN : vx_Zq Bundle.tN "SUPPRESSED_SENTINEL" Bundle.listD A s s.heap) (hS : va_S A s.heap H locs) (hsize : ls.size = c.maxLocals)
    (d0 : decode cc pc = .ok (.new ik, 3)) (d3 : decode cc (pc + 3) = .ok (.dup, 1)) (d4 : decode cc (pc + 4) = .ok (.ldc is, 2)) (d6 : decode cc (pc + 6) = .ok (.invokespecial ic, 3)) (d9 : decode cc (pc + 9) = .ok (.athrow, 1))
    (hout : ∀ x ∈ c.exceptionTable.toList, covers x (pc + 9) = false)
    (hRframes : 2 + 3 < R.frames) (hRlocals : (rest.map fun v => v.category).sum + (13 * (2 + 1) + 43) ≤ R.locals) (hRcells : cells + 1 ≤ R.cells) (hRslots : slots + 6 ≤ R.slots) (hlocks : meth.locks = false)
    (hx : ∀ t : State, s.vm.Alike t.vm → H.size ≤ t.heap.size → (∀ q : Nat, q < H.size → t.heap[q]? = H[q]?) → XC jNS s t)
    (hf : ∀ z ∈ locs, free z.base) (hc : cells + 1 ≤ mc) (hs : slots + 6 ≤ ms) :
    W p l e R s m args below meth c H locs cells slots (vx_MQ below Qc XC args s mc ms free) (F0 m pc ls rest) := by
  intro T hT X
  have htr : e.platform.stackTraces = false := (show e.platform.stackTraces = l.stackTraces by rw [X.admits.platform]).trans hl
  have Y := vx_rebase X (R' := { frames := R.frames, locals := R.locals, cells := 1, slots := 6 }) (Nat.le_refl _) (Nat.le_refl _) hRcells hRslots
  obtain ⟨s', hA⟩ : ∃ z, z = (T.setVm s.vm).setFrames (.invoking m args :: below) := ⟨_, rfl⟩
  rw [← hA] at Y
  have hvm : s'.vm = s.vm := by rw [hA]; rfl
  have hhp : s'.heap = H := by rw [hA]; exact hT
  have hW0 : s.WarmedH s'.vm := by rw [hvm]; exact State.WarmedH.refl s
  have hat' : ∀ w ∈ jxA own ic, w.before args s' = true := fun w hw => vx_ot_at hW0 hvm.symm (hgood w (List.mem_cons_of_mem _ (List.mem_cons_of_mem _ hw))) (hat w hw)
  have hk' : (Cond.classLink own ik jNS).before args s' = true := vx_ot_at hW0 hvm.symm (hgood _ List.mem_cons_self) hk
  have hini' : (Cond.initialized jNS).before args s' = true := vx_ot_at hW0 hvm.symm (hgood _ (List.mem_cons_of_mem _ List.mem_cons_self)) hini
  have hU' : vx_Zq Bundle.tN "UNASSIGNED_STACK" Bundle.steD A s' s'.heap := by rw [hhp]; exact vx_Zq.moved hW0.alike (hU.kept hS.2.1)
  have hN' : vx_Zq Bundle.tN "SUPPRESSED_SENTINEL" Bundle.listD A s' s'.heap := by rw [hhp]; exact vx_Zq.moved hW0.alike (hN.kept hS.2.1)
  have h : ∀ w ∈ jxW own ic, w.before args s' = true := vx_own hat' (vx_isRefq hU'.1) (vx_isRefq hN'.1) hU'.2.word hN'.2.word
  have hown' : s'.vm.findClass own = some m.cls := by rw [hvm]; exact hown
  have hins : (Cond.instantiable jNS 6).before args s' = true := h _ (by simp [jxW])
  obtain ⟨vm₁, cX, kX, hfX, hkX, -, -, X₁, st1⟩ := Y.newCold hexec (own := own) (C := jNS) (index := ik) (n := 6) hown' hk' hins hini'
    (g := F0 m pc ls rest) rfl (by rw [hb]; exact d0) (Nat.le_refl _) (Nat.le_refl _)
  generalize hT1 : (T.setVm vm₁).pushCell { cls := cX, slots := kX.instanceTypes.map defaultValue, vm := .none } = T1 at X₁ st1
  have hcat : (Value.ref T.heap.size).category = 1 := rfl
  have hcellA : T1.heap[T.heap.size]? = some (freshCell cX kX) := by rw [← hT1]; exact State.heap_pushCell_size _ _
  have d3' : decode c.code (pc + 3) = .ok (.dup, 1) := by rw [hb]; exact d3
  have d4' : decode c.code (pc + 4) = .ok (.ldc is, 2) := by rw [hb]; exact d4
  have hstr' : vk_R own is text sa s' := vk_R.warm hW0 hstr
  obtain ⟨U, hsteps, hrun, hend, hW, hsame, ce, hce, hO⟩ := jx_ctor X₁ hexec htr (own := own) (ic := ic) hown' h (fun x hx => nomatch hx) hfX hkX hcellA (by rw [hhp, hT]; exact Nat.le_refl _) (msg := .ref sa) rfl
    (g := { method := m, pc := pc + 6, locals := ls, stack := .ref sa :: .ref T.heap.size :: .ref T.heap.size :: rest, locked := none }) rfl hsize rfl rfl (rest := rest) rfl
    (by rw [hb]; exact d6) (by rw [hb]; exact d9) hout hRframes (by simp only [List.map_cons, List.sum_cons, hcat]; omega) hlocks
  obtain ⟨f1, f2⟩ := vx_frame hsame
  rw [hhp] at f1 f2
  have hWs : s.WarmedH U.vm := State.WarmedH.trans hW0 hW
  have hcl : s.vm.findClass jNS = some ce.cls := by
    have h9 := hO.2
    rw [hvm] at h9
    exact h9
  have hall : s.sameButNew ({ U with vm := s.vm } : State) locs mc ms := by
    subst hA
    obtain ⟨e1, e2⟩ := hsame
    rw [State.setFrames_setFrames] at e1
    have h2 : (T.setVm s.vm).sameButNew ({ U with vm := s.vm } : State) [] (0 + 1) (0 + 6) := ⟨e1, e2⟩
    have h3 := X.same.trans h2
    rw [List.append_nil] at h3
    exact h3.mono hc hs
  refine ⟨U, ?_, .threw T.heap.size, hrun, hend, Or.inr ⟨T.heap.size, rfl, jNS, ce, locs, hx U hWs.alike f1 (fun q hq => f2 q hq (fun z hz => nomatch hz)), hce, hO.1, hcl, hWs, hall, hf⟩⟩
  refine st1 _ ?_
  show Steps p.tables e below (T1.setTop { method := m, pc := pc + 3, locals := ls, stack := .ref T.heap.size :: rest, locked := none }) _
  jvm_step X₁.here [X₁.here.top, hexec, d3', Value.category]
  exact X₁.ldcString hexec (own := own) (text := text) (index := is) (a := sa) hown' hstr'.1 hstr'.2
    (g := { method := m, pc := pc + 4, locals := ls, stack := .ref T.heap.size :: .ref T.heap.size :: rest, locked := none }) rfl d4' _ hsteps
theorem jx_throwSW {cc : ByteArray} {pc : Nat} (hexec : p.tables.exec = Jvm.exec) (hb : c.code = cc) (hl : l.stackTraces = false) {own text : String} {ik is ic mc ms sa : Nat} {A : Nat → Prop}
    (hown : s.vm.findClass own = some m.cls) 
    (hk : (Cond.classLink own ik jNS).before args s = true) (hini : (Cond.initialized jNS).before args s = true) (hstr : vk_R own is text sa s) (hat : ∀ w ∈ jxA own ic, w.before args s = true)
    (hgood : ∀ w ∈ Cond.classLink own ik jNS :: Cond.initialized jNS :: jxA own ic, vx_ot w = true)
    (hU : vx_Zq Bundle.tN "UNASSIGNED_STACK" Bundle.steD A s s.heap) (hN : vx_Zq Bundle.tN "SUPPRESSED_SENTINEL" Bundle.listD A s s.heap) (hS : va_S A s.heap H locs) (hsize : ls.size = c.maxLocals)
    (d0 : decode cc pc = .ok (.new ik, 3)) (d3 : decode cc (pc + 3) = .ok (.dup, 1)) (d4 : decode cc (pc + 4) = .ok (.ldc_w is, 3)) (d7 : decode cc (pc + 7) = .ok (.invokespecial ic, 3)) (d10 : decode cc (pc + 10) = .ok (.athrow, 1))
    (hout : ∀ x ∈ c.exceptionTable.toList, covers x (pc + 10) = false)
    (hRframes : 2 + 3 < R.frames) (hRlocals : (rest.map fun v => v.category).sum + (13 * (2 + 1) + 43) ≤ R.locals) (hRcells : cells + 1 ≤ R.cells) (hRslots : slots + 6 ≤ R.slots) (hlocks : meth.locks = false)
    (hx : ∀ t : State, s.vm.Alike t.vm → H.size ≤ t.heap.size → (∀ q : Nat, q < H.size → t.heap[q]? = H[q]?) → XC jNS s t)
    (hf : ∀ z ∈ locs, free z.base) (hc : cells + 1 ≤ mc) (hs : slots + 6 ≤ ms) :
    W p l e R s m args below meth c H locs cells slots (vx_MQ below Qc XC args s mc ms free) (F0 m pc ls rest) := by
  intro T hT X
  have htr : e.platform.stackTraces = false := (show e.platform.stackTraces = l.stackTraces by rw [X.admits.platform]).trans hl
  have Y := vx_rebase X (R' := { frames := R.frames, locals := R.locals, cells := 1, slots := 6 }) (Nat.le_refl _) (Nat.le_refl _) hRcells hRslots
  obtain ⟨s', hA⟩ : ∃ z, z = (T.setVm s.vm).setFrames (.invoking m args :: below) := ⟨_, rfl⟩
  rw [← hA] at Y
  have hvm : s'.vm = s.vm := by rw [hA]; rfl
  have hhp : s'.heap = H := by rw [hA]; exact hT
  have hW0 : s.WarmedH s'.vm := by rw [hvm]; exact State.WarmedH.refl s
  have hat' : ∀ w ∈ jxA own ic, w.before args s' = true := fun w hw => vx_ot_at hW0 hvm.symm (hgood w (List.mem_cons_of_mem _ (List.mem_cons_of_mem _ hw))) (hat w hw)
  have hk' : (Cond.classLink own ik jNS).before args s' = true := vx_ot_at hW0 hvm.symm (hgood _ List.mem_cons_self) hk
  have hini' : (Cond.initialized jNS).before args s' = true := vx_ot_at hW0 hvm.symm (hgood _ (List.mem_cons_of_mem _ List.mem_cons_self)) hini
  have hU' : vx_Zq Bundle.tN "UNASSIGNED_STACK" Bundle.steD A s' s'.heap := by rw [hhp]; exact vx_Zq.moved hW0.alike (hU.kept hS.2.1)
  have hN' : vx_Zq Bundle.tN "SUPPRESSED_SENTINEL" Bundle.listD A s' s'.heap := by rw [hhp]; exact vx_Zq.moved hW0.alike (hN.kept hS.2.1)
  have h : ∀ w ∈ jxW own ic, w.before args s' = true := vx_own hat' (vx_isRefq hU'.1) (vx_isRefq hN'.1) hU'.2.word hN'.2.word
  have hown' : s'.vm.findClass own = some m.cls := by rw [hvm]; exact hown
  have hins : (Cond.instantiable jNS 6).before args s' = true := h _ (by simp [jxW])
  obtain ⟨vm₁, cX, kX, hfX, hkX, -, -, X₁, st1⟩ := Y.newCold hexec (own := own) (C := jNS) (index := ik) (n := 6) hown' hk' hins hini'
    (g := F0 m pc ls rest) rfl (by rw [hb]; exact d0) (Nat.le_refl _) (Nat.le_refl _)
  generalize hT1 : (T.setVm vm₁).pushCell { cls := cX, slots := kX.instanceTypes.map defaultValue, vm := .none } = T1 at X₁ st1
  have hcat : (Value.ref T.heap.size).category = 1 := rfl
  have hcellA : T1.heap[T.heap.size]? = some (freshCell cX kX) := by rw [← hT1]; exact State.heap_pushCell_size _ _
  have d3' : decode c.code (pc + 3) = .ok (.dup, 1) := by rw [hb]; exact d3
  have d4' : decode c.code (pc + 4) = .ok (.ldc_w is, 3) := by rw [hb]; exact d4
  have hstr' : vk_R own is text sa s' := vk_R.warm hW0 hstr
  obtain ⟨U, hsteps, hrun, hend, hW, hsame, ce, hce, hO⟩ := jx_ctor X₁ hexec htr (own := own) (ic := ic) hown' h (fun x hx => nomatch hx) hfX hkX hcellA (by rw [hhp, hT]; exact Nat.le_refl _) (msg := .ref sa) rfl
    (g := { method := m, pc := pc + 7, locals := ls, stack := .ref sa :: .ref T.heap.size :: .ref T.heap.size :: rest, locked := none }) rfl hsize rfl rfl (rest := rest) rfl
    (by rw [hb]; exact d7) (by rw [hb]; exact d10) hout hRframes (by simp only [List.map_cons, List.sum_cons, hcat]; omega) hlocks
  obtain ⟨f1, f2⟩ := vx_frame hsame
  rw [hhp] at f1 f2
  have hWs : s.WarmedH U.vm := State.WarmedH.trans hW0 hW
  have hcl : s.vm.findClass jNS = some ce.cls := by
    have h9 := hO.2
    rw [hvm] at h9
    exact h9
  have hall : s.sameButNew ({ U with vm := s.vm } : State) locs mc ms := by
    subst hA
    obtain ⟨e1, e2⟩ := hsame
    rw [State.setFrames_setFrames] at e1
    have h2 : (T.setVm s.vm).sameButNew ({ U with vm := s.vm } : State) [] (0 + 1) (0 + 6) := ⟨e1, e2⟩
    have h3 := X.same.trans h2
    rw [List.append_nil] at h3
    exact h3.mono hc hs
  refine ⟨U, ?_, .threw T.heap.size, hrun, hend, Or.inr ⟨T.heap.size, rfl, jNS, ce, locs, hx U hWs.alike f1 (fun q hq => f2 q hq (fun z hz => nomatch hz)), hce, hO.1, hcl, hWs, hall, hf⟩⟩
  refine st1 _ ?_
  show Steps p.tables e below (T1.setTop { method := m, pc := pc + 3, locals := ls, stack := .ref T.heap.size :: rest, locked := none }) _
  jvm_step X₁.here [X₁.here.top, hexec, d3', Value.category]
  exact X₁.ldcStringW hexec (own := own) (text := text) (index := is) (a := sa) hown' hstr'.1 hstr'.2
    (g := { method := m, pc := pc + 4, locals := ls, stack := .ref T.heap.size :: .ref T.heap.size :: rest, locked := none }) rfl d4' _ hsteps
end JXS
theorem j_decl {y : MethodName} {bytes : ByteArray} {n : Nat} {r : Option FieldType} {s : State} {args : Array Value} (hi : (Cond.instanceMethod y).before args s = true) (hc : (Cond.code y bytes n r).before args s = true) : (Cond.declares y).before args s = true := by
  obtain ⟨m, meth, hn, hm, hst, -⟩ := Cond.instanceMethod_spec hi
  obtain ⟨meth', c, hm', -, -, -, -, -, -, hsig⟩ := Cond.code_spec hn hc
  cases hm.symm.trans hm'
  simp only [Cond.before, Cond.holds, Cond.value, hn, Option.bind_some, hm, Option.map_some, hst, hsig]
  simp
/-- words of a throw that the tables hold as they stand -/
def jnd (cls : String) (w : Cond) : Bool := decide (w ≠ .castable cls cls) && decide (w ≠ .declares (Bundle.initS "java/lang/RuntimeException")) && decide (w ≠ .declares (Bundle.initS "java/lang/Exception")) && decide (w ≠ .declares (Bundle.initS Bundle.tN))
theorem jth_hatY {args : Array Value} {s : State} {L : List Cond} {cls : String} (hW : ∀ w ∈ jWL, w.before args s = true) (h : ∀ w ∈ L.filter (jnd cls), w ∈ jWL) (hc : (Cond.castable cls cls).before args s = true) : ∀ w ∈ L, w.before args s = true := fun w hw => by
  by_cases h1 : w = .castable cls cls
  · rw [h1]; exact hc
  by_cases h2 : w = .declares (Bundle.initS "java/lang/RuntimeException")
  · rw [h2]; exact j_decl (bytes := Bundle.six) (n := 2) (r := none) (hW _ (jw_mem 367 (by decide +kernel) (by decide +kernel))) (hW _ (jw_mem 368 (by decide +kernel) (by decide +kernel)))
  by_cases h3 : w = .declares (Bundle.initS "java/lang/Exception")
  · rw [h3]; exact j_decl (bytes := Bundle.six) (n := 2) (r := none) (hW _ (jw_mem 370 (by decide +kernel) (by decide +kernel))) (hW _ (jw_mem 371 (by decide +kernel) (by decide +kernel)))
  by_cases h4 : w = .declares (Bundle.initS Bundle.tN)
  · rw [h4]; exact j_decl (bytes := LibCode.Throwable.InitS.code) (n := 2) (r := none) (hW _ (jw_mem 373 (by decide +kernel) (by decide +kernel))) (hW _ (jw_mem 374 (by decide +kernel) (by decide +kernel)))
  exact hW _ (h w (List.mem_filter.mpr ⟨hw, by simp [jnd, h1, h2, h3, h4]⟩))
/-- 'throw new E("text")' -/
def jThY (own : String) (ik is ic : Nat) (cls text : String) : Prop :=
  Bundle.fit cls = true ∧ ((cls, cls) ∈ jCst ∧ ∀ w ∈ (vx_atS own ic cls ["java/lang/RuntimeException", "java/lang/Exception"]).filter (jnd cls), w ∈ jWL) ∧ (own, is, text) ∈ jStrs ∧ Cond.classLink own ik cls ∈ jWL ∧ Cond.initialized cls ∈ jWL ∧
  ∀ w ∈ Cond.classLink own ik cls :: Cond.initialized cls :: vx_atS own ic cls ["java/lang/RuntimeException", "java/lang/Exception"], vx_ot w = true
/-- 'throw new NoSuchElementException("text")' -/
def jThN (own : String) (ik is ic : Nat) (text : String) : Prop :=
  ((jNS, jNS) ∈ jCst ∧ ∀ w ∈ (jxA own ic).filter (jnd jNS), w ∈ jWL) ∧ (own, is, text) ∈ jStrs ∧ Cond.classLink own ik jNS ∈ jWL ∧ Cond.initialized jNS ∈ jWL ∧
  ∀ w ∈ Cond.classLink own ik jNS :: Cond.initialized jNS :: jxA own ic, vx_ot w = true
section JE2
variable {M : jMe} {R : Room} {nw : List Nat} {Z : jFin} {pc pc' : Nat} {L L' : List (Nat × Value)} {st st' : List Value} {h h' : jH} {nc ns nc' ns' mc ms : Nat} {Pn : jPn} {Px : jPx}
theorem j_throwY {ik is ic : Nat} {cls text : String} (hT : jThY M.1.cls ik is ic cls text) (ht : M.2.2.2.2.1 = []) (d0 : decode M.2.1 pc = .ok (.new ik, 3)) (d3 : decode M.2.1 (pc + 3) = .ok (.dup, 1)) (d4 : decode M.2.1 (pc + 4) = .ok (.ldc is, 2)) (d6 : decode M.2.1 (pc + 6) = .ok (.invokespecial ic, 3)) (d9 : decode M.2.1 (pc + 9) = .ok (.athrow, 1))
    (hR : 6 ≤ R.frames ∧ 8 + 82 ≤ R.locals ∧ nc + 1 ≤ R.cells ∧ ns + 6 ≤ R.slots) (hcat : (st.map fun v => v.category).sum ≤ 8) (hp : Px cls h) (hc : nc + 1 ≤ mc) (hs : ns + 6 ≤ ms) : J M R nw (jZ nw mc ms Pn Px) pc L st h nc ns := by
  intro p l e s m args below meth c H locs ls D cy ad ad0 bs hX
  obtain ⟨⟨y1, y2, y3, y4, y5⟩, ⟨z1, z2, z3, z4, z5⟩, x3, x4, x5, x6, x7, x8, x9, x10⟩ := hX
  obtain ⟨t1, ⟨t7, t2⟩, t3, t4, t5, t6⟩ := hT
  obtain ⟨⟨s1, s2, -⟩, s3, -, -, s4, -⟩ := x3
  obtain ⟨sa, hsa⟩ := s3 _ t3
  refine vx_throwS (A := jB bs) (names := ["java/lang/RuntimeException", "java/lang/Exception"]) y1 y2 z4 y4 t1 (by decide +kernel) (y5 _ t4) (y5 _ t5) hsa (jth_hatY y5 t2 (va_Nw.use rfl (s4 _ t7))) t6 s1 s2 x5 (x8.1.trans y3.symm) d0 d3 d4 d6 d9 (fun x hx => ?_) (by show 2 + 3 < _; omega) (by show _ + (13 * (2 + 1) + 43) ≤ _; rw [j_cats]; omega) hR.2.2.1 hR.2.2.2 z2 (fun t hW hz hk => ?_) (fun z hz => x5.2.2 z hz) hc hs
  · rw [z5, ht] at hx
    cases hx
  · refine ⟨h, ad, hp, ⟨Nat.le_trans x6.1 hz, fun k c hk9 => ?_, x6.2.2⟩, x7, ⟨Nat.le_trans x5.1 hz, fun q h1 h2 => (hk q (Nat.lt_of_lt_of_le h1 x5.1)).trans (x5.2.1 q h1 h2)⟩⟩
    have ha := x6.2.1 k c hk9
    exact ha.kept (hk _ ha.lt)
theorem j_throwYW {ik is ic : Nat} {cls text : String} (hT : jThY M.1.cls ik is ic cls text) (ht : M.2.2.2.2.1 = []) (d0 : decode M.2.1 pc = .ok (.new ik, 3)) (d3 : decode M.2.1 (pc + 3) = .ok (.dup, 1)) (d4 : decode M.2.1 (pc + 4) = .ok (.ldc_w is, 3)) (d7 : decode M.2.1 (pc + 7) = .ok (.invokespecial ic, 3)) (d10 : decode M.2.1 (pc + 10) = .ok (.athrow, 1))
    (hR : 6 ≤ R.frames ∧ 8 + 82 ≤ R.locals ∧ nc + 1 ≤ R.cells ∧ ns + 6 ≤ R.slots) (hcat : (st.map fun v => v.category).sum ≤ 8) (hp : Px cls h) (hc : nc + 1 ≤ mc) (hs : ns + 6 ≤ ms) : J M R nw (jZ nw mc ms Pn Px) pc L st h nc ns := by
  intro p l e s m args below meth c H locs ls D cy ad ad0 bs hX
  obtain ⟨⟨y1, y2, y3, y4, y5⟩, ⟨z1, z2, z3, z4, z5⟩, x3, x4, x5, x6, x7, x8, x9, x10⟩ := hX
  obtain ⟨t1, ⟨t7, t2⟩, t3, t4, t5, t6⟩ := hT
  obtain ⟨⟨s1, s2, -⟩, s3, -, -, s4, -⟩ := x3
  obtain ⟨sa, hsa⟩ := s3 _ t3
  refine vx_throwSW (A := jB bs) (names := ["java/lang/RuntimeException", "java/lang/Exception"]) y1 y2 z4 y4 t1 (by decide +kernel) (y5 _ t4) (y5 _ t5) hsa (jth_hatY y5 t2 (va_Nw.use rfl (s4 _ t7))) t6 s1 s2 x5 (x8.1.trans y3.symm) d0 d3 d4 d7 d10 (fun x hx => ?_) (by show 2 + 3 < _; omega) (by show _ + (13 * (2 + 1) + 43) ≤ _; rw [j_cats]; omega) hR.2.2.1 hR.2.2.2 z2 (fun t hW hz hk => ?_) (fun z hz => x5.2.2 z hz) hc hs
  · rw [z5, ht] at hx
    cases hx
  · refine ⟨h, ad, hp, ⟨Nat.le_trans x6.1 hz, fun k c hk9 => ?_, x6.2.2⟩, x7, ⟨Nat.le_trans x5.1 hz, fun q h1 h2 => (hk q (Nat.lt_of_lt_of_le h1 x5.1)).trans (x5.2.1 q h1 h2)⟩⟩
    have ha := x6.2.1 k c hk9
    exact ha.kept (hk _ ha.lt)
theorem j_throwN {ik is ic : Nat} {text : String} (hT : jThN M.1.cls ik is ic text) (ht : M.2.2.2.2.1 = []) (d0 : decode M.2.1 pc = .ok (.new ik, 3)) (d3 : decode M.2.1 (pc + 3) = .ok (.dup, 1)) (d4 : decode M.2.1 (pc + 4) = .ok (.ldc is, 2)) (d6 : decode M.2.1 (pc + 6) = .ok (.invokespecial ic, 3)) (d9 : decode M.2.1 (pc + 9) = .ok (.athrow, 1))
    (hR : 6 ≤ R.frames ∧ 8 + 82 ≤ R.locals ∧ nc + 1 ≤ R.cells ∧ ns + 6 ≤ R.slots) (hcat : (st.map fun v => v.category).sum ≤ 8) (hp : Px jNS h) (hc : nc + 1 ≤ mc) (hs : ns + 6 ≤ ms) : J M R nw (jZ nw mc ms Pn Px) pc L st h nc ns := by
  intro p l e s m args below meth c H locs ls D cy ad ad0 bs hX
  obtain ⟨⟨y1, y2, y3, y4, y5⟩, ⟨z1, z2, z3, z4, z5⟩, x3, x4, x5, x6, x7, x8, x9, x10⟩ := hX
  obtain ⟨⟨t7, t2⟩, t3, t4, t5, t6⟩ := hT
  obtain ⟨⟨s1, s2, -⟩, s3, -, -, s4, -⟩ := x3
  obtain ⟨sa, hsa⟩ := s3 _ t3
  refine jx_throwS (A := jB bs) y1 y2 z4 y4 (y5 _ t4) (y5 _ t5) hsa (jth_hatY y5 t2 (va_Nw.use rfl (s4 _ t7))) t6 s1 s2 x5 (x8.1.trans y3.symm) d0 d3 d4 d6 d9 (fun x hx => ?_) (by show 2 + 3 < _; omega) (by show _ + (13 * (2 + 1) + 43) ≤ _; rw [j_cats]; omega) hR.2.2.1 hR.2.2.2 z2 (fun t hW hz hk => ?_) (fun z hz => x5.2.2 z hz) hc hs
  · rw [z5, ht] at hx
    cases hx
  · refine ⟨h, ad, hp, ⟨Nat.le_trans x6.1 hz, fun k c hk9 => ?_, x6.2.2⟩, x7, ⟨Nat.le_trans x5.1 hz, fun q h1 h2 => (hk q (Nat.lt_of_lt_of_le h1 x5.1)).trans (x5.2.1 q h1 h2)⟩⟩
    have ha := x6.2.1 k c hk9
    exact ha.kept (hk _ ha.lt)
theorem j_throwNW {ik is ic : Nat} {text : String} (hT : jThN M.1.cls ik is ic text) (ht : M.2.2.2.2.1 = []) (d0 : decode M.2.1 pc = .ok (.new ik, 3)) (d3 : decode M.2.1 (pc + 3) = .ok (.dup, 1)) (d4 : decode M.2.1 (pc + 4) = .ok (.ldc_w is, 3)) (d7 : decode M.2.1 (pc + 7) = .ok (.invokespecial ic, 3)) (d10 : decode M.2.1 (pc + 10) = .ok (.athrow, 1))
    (hR : 6 ≤ R.frames ∧ 8 + 82 ≤ R.locals ∧ nc + 1 ≤ R.cells ∧ ns + 6 ≤ R.slots) (hcat : (st.map fun v => v.category).sum ≤ 8) (hp : Px jNS h) (hc : nc + 1 ≤ mc) (hs : ns + 6 ≤ ms) : J M R nw (jZ nw mc ms Pn Px) pc L st h nc ns := by
  intro p l e s m args below meth c H locs ls D cy ad ad0 bs hX
  obtain ⟨⟨y1, y2, y3, y4, y5⟩, ⟨z1, z2, z3, z4, z5⟩, x3, x4, x5, x6, x7, x8, x9, x10⟩ := hX
  obtain ⟨⟨t7, t2⟩, t3, t4, t5, t6⟩ := hT
  obtain ⟨⟨s1, s2, -⟩, s3, -, -, s4, -⟩ := x3
  obtain ⟨sa, hsa⟩ := s3 _ t3
  refine jx_throwSW (A := jB bs) y1 y2 z4 y4 (y5 _ t4) (y5 _ t5) hsa (jth_hatY y5 t2 (va_Nw.use rfl (s4 _ t7))) t6 s1 s2 x5 (x8.1.trans y3.symm) d0 d3 d4 d7 d10 (fun x hx => ?_) (by show 2 + 3 < _; omega) (by show _ + (13 * (2 + 1) + 43) ≤ _; rw [j_cats]; omega) hR.2.2.1 hR.2.2.2 z2 (fun t hW hz hk => ?_) (fun z hz => x5.2.2 z hz) hc hs
  · rw [z5, ht] at hx
    cases hx
  · refine ⟨h, ad, hp, ⟨Nat.le_trans x6.1 hz, fun k c hk9 => ?_, x6.2.2⟩, x7, ⟨Nat.le_trans x5.1 hz, fun q h1 h2 => (hk q (Nat.lt_of_lt_of_le h1 x5.1)).trans (x5.2.1 q h1 h2)⟩⟩
    have ha := x6.2.1 k c hk9
    exact ha.kept (hk _ ha.lt)
end JE2
theorem jws_in {L : List Cond} (ps : List Nat) (hp : L = ps.filterMap (fun i => lw_tbl[i]?)) (hg : L.all goodWord = true) : ∀ w ∈ L, w ∈ jWL := fun w hw => by
  have h1 := List.all_eq_true.mp hg w hw
  rw [hp] at hw
  obtain ⟨i, -, hi⟩ := List.mem_filterMap.mp hw
  exact List.mem_filter.mpr ⟨List.mem_append_left _ (List.mem_of_getElem? hi), h1⟩
theorem jth_117_119_121 : jThY RX4 117 119 121 "java/lang/IllegalArgumentException" "what is not from 0 to 9" := ⟨(by decide +kernel), ⟨(.tail _ (.head _)), jws_in [57, 338, 347, 356, 359, 361, 339, 340, 84, 85, 341, 346, 357, 377, 328, 378, 330, 379, 332, 342, 344, 334, 373, 374, 376, 334, 364, 365, 366, 367, 367, 368, 369, 370, 370, 371, 372, 373, 363, 317, 325, 326, 327, 329, 331, 333, 337, 336, 335] (by decide +kernel) (by decide +kernel)⟩, (.tail _ (.tail _ (.tail _ (.head _)))), (jw_mem 316 (by decide +kernel) (by decide +kernel)), (jw_mem 60 (by decide +kernel) (by decide +kernel)), (by decide +kernel)⟩
theorem jth_157_159_161 : jThN RX4 157 159 161 "there is no such place" := ⟨⟨(.tail _ (.tail _ (.tail _ (.head _)))), jws_in [57, 338, 347, 356, 359, 361, 339, 340, 84, 85, 341, 346, 357, 377, 328, 378, 330, 379, 332, 342, 344, 334, 373, 374, 376, 334, 783, 784, 785, 367, 367, 368, 369, 370, 370, 371, 372, 373, 782, 773, 775, 355, 776, 777, 778, 779, 337, 336, 780] (by decide +kernel) (by decide +kernel)⟩, (.tail _ (.tail _ (.tail _ (.tail _ (.tail _ (.tail _ (.head _))))))), (jw_mem 772 (by decide +kernel) (by decide +kernel)), (jw_mem 64 (by decide +kernel) (by decide +kernel)), (by decide +kernel)⟩
theorem jth_177_192_181 : jThY RX4 177 192 181 "java/lang/IllegalStateException" "the person is dead" := ⟨(by decide +kernel), ⟨(.tail _ (.tail _ (.tail _ (.tail _ (.head _))))), jws_in [57, 338, 347, 356, 359, 361, 339, 340, 84, 85, 341, 346, 357, 377, 328, 378, 330, 379, 332, 342, 344, 334, 373, 374, 376, 334, 879, 880, 881, 367, 367, 368, 369, 370, 370, 371, 372, 373, 878, 869, 871, 351, 872, 873, 874, 875, 337, 336, 876] (by decide +kernel) (by decide +kernel)⟩, (.tail _ (.tail _ (.tail _ (.tail _ (.tail _ (.tail _ (.tail _ (.head _)))))))), (jw_mem 868 (by decide +kernel) (by decide +kernel)), (jw_mem 65 (by decide +kernel) (by decide +kernel)), (by decide +kernel)⟩
theorem jth_215_217_219 : jThY RX4 215 217 219 "java/lang/IndexOutOfBoundsException" "there is no such index" := ⟨(by decide +kernel), ⟨(.head _), jws_in [57, 338, 347, 356, 359, 361, 339, 340, 84, 85, 341, 346, 357, 377, 328, 378, 330, 379, 332, 342, 344, 334, 373, 374, 376, 334, 618, 619, 620, 367, 367, 368, 369, 370, 370, 371, 372, 373, 617, 608, 610, 352, 611, 612, 613, 614, 337, 336, 615] (by decide +kernel) (by decide +kernel)⟩, (.tail _ (.tail _ (.tail _ (.tail _ (.tail _ (.tail _ (.tail _ (.tail _ (.head _))))))))), (jw_mem 607 (by decide +kernel) (by decide +kernel)), (jw_mem 61 (by decide +kernel) (by decide +kernel)), (by decide +kernel)⟩
theorem jth_177_226_181 : jThY RX4 177 226 181 "java/lang/IllegalStateException" "the input is full" := ⟨(by decide +kernel), ⟨(.tail _ (.tail _ (.tail _ (.tail _ (.head _))))), jws_in [57, 338, 347, 356, 359, 361, 339, 340, 84, 85, 341, 346, 357, 377, 328, 378, 330, 379, 332, 342, 344, 334, 373, 374, 376, 334, 879, 880, 881, 367, 367, 368, 369, 370, 370, 371, 372, 373, 878, 869, 871, 351, 872, 873, 874, 875, 337, 336, 876] (by decide +kernel) (by decide +kernel)⟩, (.tail _ (.tail _ (.tail _ (.tail _ (.tail _ (.tail _ (.tail _ (.tail _ (.tail _ (.head _)))))))))), (jw_mem 868 (by decide +kernel) (by decide +kernel)), (jw_mem 65 (by decide +kernel) (by decide +kernel)), (by decide +kernel)⟩
theorem jth_117_235_121 : jThY RX4 117 235 121 "java/lang/IllegalArgumentException" "the text has an error" := ⟨(by decide +kernel), ⟨(.tail _ (.head _)), jws_in [57, 338, 347, 356, 359, 361, 339, 340, 84, 85, 341, 346, 357, 377, 328, 378, 330, 379, 332, 342, 344, 334, 373, 374, 376, 334, 364, 365, 366, 367, 367, 368, 369, 370, 370, 371, 372, 373, 363, 317, 325, 326, 327, 329, 331, 333, 337, 336, 335] (by decide +kernel) (by decide +kernel)⟩, (.tail _ (.tail _ (.tail _ (.tail _ (.tail _ (.tail _ (.tail _ (.tail _ (.tail _ (.tail _ (.head _))))))))))), (jw_mem 316 (by decide +kernel) (by decide +kernel)), (jw_mem 60 (by decide +kernel) (by decide +kernel)), (by decide +kernel)⟩
theorem jth_253_255_257 : jThY RX4 253 255 257 "java/lang/UnsupportedOperationException" "an order is refused" := ⟨(by decide +kernel), ⟨(.tail _ (.tail _ (.head _))), jws_in [57, 338, 347, 356, 359, 361, 339, 340, 84, 85, 341, 346, 357, 377, 328, 378, 330, 379, 332, 342, 344, 334, 373, 374, 376, 334, 635, 636, 637, 367, 367, 368, 369, 370, 370, 371, 372, 373, 634, 625, 627, 354, 628, 629, 630, 631, 337, 336, 632] (by decide +kernel) (by decide +kernel)⟩, (.tail _ (.tail _ (.tail _ (.tail _ (.tail _ (.tail _ (.tail _ (.tail _ (.tail _ (.tail _ (.tail _ (.head _)))))))))))), (jw_mem 624 (by decide +kernel) (by decide +kernel)), (jw_mem 62 (by decide +kernel) (by decide +kernel)), (by decide +kernel)⟩
theorem jth_117_258_121 : jThY RX4 117 258 121 "java/lang/IllegalArgumentException" "an order has a number out of range" := ⟨(by decide +kernel), ⟨(.tail _ (.head _)), jws_in [57, 338, 347, 356, 359, 361, 339, 340, 84, 85, 341, 346, 357, 377, 328, 378, 330, 379, 332, 342, 344, 334, 373, 374, 376, 334, 364, 365, 366, 367, 367, 368, 369, 370, 370, 371, 372, 373, 363, 317, 325, 326, 327, 329, 331, 333, 337, 336, 335] (by decide +kernel) (by decide +kernel)⟩, (.tail _ (.tail _ (.tail _ (.tail _ (.tail _ (.tail _ (.tail _ (.tail _ (.tail _ (.tail _ (.tail _ (.tail _ (.head _))))))))))))), (jw_mem 316 (by decide +kernel) (by decide +kernel)), (jw_mem 60 (by decide +kernel) (by decide +kernel)), (by decide +kernel)⟩
theorem jth_117_289_121 : jThY RX4 117 289 121 "java/lang/IllegalArgumentException" "what is not from 0 to 11" := ⟨(by decide +kernel), ⟨(.tail _ (.head _)), jws_in [57, 338, 347, 356, 359, 361, 339, 340, 84, 85, 341, 346, 357, 377, 328, 378, 330, 379, 332, 342, 344, 334, 373, 374, 376, 334, 364, 365, 366, 367, 367, 368, 369, 370, 370, 371, 372, 373, 363, 317, 325, 326, 327, 329, 331, 333, 337, 336, 335] (by decide +kernel) (by decide +kernel)⟩, (.tail _ (.tail _ (.tail _ (.tail _ (.tail _ (.tail _ (.tail _ (.tail _ (.tail _ (.tail _ (.tail _ (.tail _ (.tail _ (.head _)))))))))))))), (jw_mem 316 (by decide +kernel) (by decide +kernel)), (jw_mem 60 (by decide +kernel) (by decide +kernel)), (by decide +kernel)⟩
theorem jth_301_303_305 : jThY RX4 301 303 305 "java/lang/ArithmeticException" "there are no persons" := ⟨(by decide +kernel), ⟨(.tail _ (.tail _ (.tail _ (.tail _ (.tail _ (.head _)))))), jws_in [57, 338, 347, 356, 359, 361, 339, 340, 84, 85, 341, 346, 357, 377, 328, 378, 330, 379, 332, 342, 344, 334, 373, 374, 376, 334, 1291, 1292, 1293, 367, 367, 368, 369, 370, 370, 371, 372, 373, 1290, 1281, 1283, 349, 1284, 1285, 1286, 1287, 337, 336, 1288] (by decide +kernel) (by decide +kernel)⟩, (.tail _ (.tail _ (.tail _ (.tail _ (.tail _ (.tail _ (.tail _ (.tail _ (.tail _ (.tail _ (.tail _ (.tail _ (.tail _ (.tail _ (.head _))))))))))))))), (jw_mem 1280 (by decide +kernel) (by decide +kernel)), (jw_mem 74 (by decide +kernel) (by decide +kernel)), (by decide +kernel)⟩
theorem jth_177_313_181 : jThY RX4 177 313 181 "java/lang/IllegalStateException" "no change can be undone" := ⟨(by decide +kernel), ⟨(.tail _ (.tail _ (.tail _ (.tail _ (.head _))))), jws_in [57, 338, 347, 356, 359, 361, 339, 340, 84, 85, 341, 346, 357, 377, 328, 378, 330, 379, 332, 342, 344, 334, 373, 374, 376, 334, 879, 880, 881, 367, 367, 368, 369, 370, 370, 371, 372, 373, 878, 869, 871, 351, 872, 873, 874, 875, 337, 336, 876] (by decide +kernel) (by decide +kernel)⟩, (.tail _ (.tail _ (.tail _ (.tail _ (.tail _ (.tail _ (.tail _ (.tail _ (.tail _ (.tail _ (.tail _ (.tail _ (.tail _ (.tail _ (.tail _ (.head _)))))))))))))))), (jw_mem 868 (by decide +kernel) (by decide +kernel)), (jw_mem 65 (by decide +kernel) (by decide +kernel)), (by decide +kernel)⟩
theorem jth_215_323_219 : jThY RX4 215 323 219 "java/lang/IndexOutOfBoundsException" "there is no such person" := ⟨(by decide +kernel), ⟨(.head _), jws_in [57, 338, 347, 356, 359, 361, 339, 340, 84, 85, 341, 346, 357, 377, 328, 378, 330, 379, 332, 342, 344, 334, 373, 374, 376, 334, 618, 619, 620, 367, 367, 368, 369, 370, 370, 371, 372, 373, 617, 608, 610, 352, 611, 612, 613, 614, 337, 336, 615] (by decide +kernel) (by decide +kernel)⟩, (.head _), (jw_mem 607 (by decide +kernel) (by decide +kernel)), (jw_mem 61 (by decide +kernel) (by decide +kernel)), (by decide +kernel)⟩
theorem jth_157_325_161 : jThN RX4 157 325 161 "there is no such elder" := ⟨⟨(.tail _ (.tail _ (.tail _ (.head _)))), jws_in [57, 338, 347, 356, 359, 361, 339, 340, 84, 85, 341, 346, 357, 377, 328, 378, 330, 379, 332, 342, 344, 334, 373, 374, 376, 334, 783, 784, 785, 367, 367, 368, 369, 370, 370, 371, 372, 373, 782, 773, 775, 355, 776, 777, 778, 779, 337, 336, 780] (by decide +kernel) (by decide +kernel)⟩, (.tail _ (.tail _ (.tail _ (.tail _ (.head _))))), (jw_mem 772 (by decide +kernel) (by decide +kernel)), (jw_mem 64 (by decide +kernel) (by decide +kernel)), (by decide +kernel)⟩
theorem jth_157_327_161 : jThN RX4 157 327 161 "they are of different oaks" := ⟨⟨(.tail _ (.tail _ (.tail _ (.head _)))), jws_in [57, 338, 347, 356, 359, 361, 339, 340, 84, 85, 341, 346, 357, 377, 328, 378, 330, 379, 332, 342, 344, 334, 373, 374, 376, 334, 783, 784, 785, 367, 367, 368, 369, 370, 370, 371, 372, 373, 782, 773, 775, 355, 776, 777, 778, 779, 337, 336, 780] (by decide +kernel) (by decide +kernel)⟩, (.tail _ (.tail _ (.tail _ (.tail _ (.tail _ (.head _)))))), (jw_mem 772 (by decide +kernel) (by decide +kernel)), (jw_mem 64 (by decide +kernel) (by decide +kernel)), (by decide +kernel)⟩
theorem jth_117_329_121 : jThY RX4 117 329 121 "java/lang/IllegalArgumentException" "coins are from 1 to 999" := ⟨(by decide +kernel), ⟨(.tail _ (.head _)), jws_in [57, 338, 347, 356, 359, 361, 339, 340, 84, 85, 341, 346, 357, 377, 328, 378, 330, 379, 332, 342, 344, 334, 373, 374, 376, 334, 364, 365, 366, 367, 367, 368, 369, 370, 370, 371, 372, 373, 363, 317, 325, 326, 327, 329, 331, 333, 337, 336, 335] (by decide +kernel) (by decide +kernel)⟩, (.tail _ (.head _)), (jw_mem 316 (by decide +kernel) (by decide +kernel)), (jw_mem 60 (by decide +kernel) (by decide +kernel)), (by decide +kernel)⟩
theorem jth_253_331_257 : jThY RX4 253 331 257 "java/lang/UnsupportedOperationException" "it is refused" := ⟨(by decide +kernel), ⟨(.tail _ (.tail _ (.head _))), jws_in [57, 338, 347, 356, 359, 361, 339, 340, 84, 85, 341, 346, 357, 377, 328, 378, 330, 379, 332, 342, 344, 334, 373, 374, 376, 334, 635, 636, 637, 367, 367, 368, 369, 370, 370, 371, 372, 373, 634, 625, 627, 354, 628, 629, 630, 631, 337, 336, 632] (by decide +kernel) (by decide +kernel)⟩, (.tail _ (.tail _ (.head _))), (jw_mem 624 (by decide +kernel) (by decide +kernel)), (jw_mem 62 (by decide +kernel) (by decide +kernel)), (by decide +kernel)⟩
