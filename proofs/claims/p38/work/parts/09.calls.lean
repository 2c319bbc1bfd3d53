section JC1
variable {M : jMe} {R : Room} {nw : List Nat} {Z : jFin} {pc pc' : Nat} {L L' : List (Nat × Value)} {st st' : List Value} {h h' : jH} {nc ns nc' ns' mc ms : Nat} {Pn : jPn} {Px : jPx}
/-- nothing here points at a place of the list -/
def jfr (nw : List Nat) (L : List (Nat × Value)) (st : List Value) : Prop := ∀ k ∈ nw, (∀ q ∈ L, q.2 ≠ .ref k) ∧ ∀ v ∈ st, v ≠ .ref k
theorem jfr_nil {L : List (Nat × Value)} {st : List Value} : jfr [] L st := fun _ h => by cases h
theorem jv_same {ad ad' : Nat → Nat} {nw : List Nat} {v : Value} (hv : ∀ k ∈ nw, v ≠ .ref k) (ha : ∀ k : Nat, k ∉ nw → ad' k = ad k) : jv ad' v = jv ad v := by
  cases v with
  | ref k =>
    show Value.ref (ad' k) = Value.ref (ad k)
    rw [ha k fun hk => hv k hk rfl]
  | _ => rfl
theorem jst_same {ad ad' : Nat → Nat} {nw : List Nat} (hf : jfr nw L st) (ha : ∀ k : Nat, k ∉ nw → ad' k = ad k) : st.map (jv ad') = st.map (jv ad) :=
  List.map_congr_left fun v hv => jv_same (fun k hk => (hf k hk).2 v hv) ha
theorem jLs_same {ad ad' : Nat → Nat} {nw : List Nat} (hf : jfr nw L st) (ha : ∀ k : Nat, k ∉ nw → ad' k = ad k) : jLs ad' L = jLs ad L :=
  List.map_congr_left fun q hq => by rw [jv_same (fun k hk => (hf k hk).1 q hq) ha]
/-- behind a call -/
theorem J.call {mc' ms' : Nat} {nw' : List Nat} {Pn' : jPn} {Px' : jPx} (hsub : ∀ k ∈ nw', k ∈ nw) (hfr : jfr nw' L st')
    (hrun : ∀ (p : Program) (l : Launch) (e : Env) (s : State) (m : MethodId) (args : Array Value) (below : List Frame) (meth : Method) (c : Code) (H : Heap) (locs : List Loc) (ls : Array Slot) (D : va_G) (cy : Nat → ClassId) (ad ad0 : Nat → Nat) (bs : Nat), jX M nw L h p l s m args meth c H locs ls D cy ad ad0 bs →
      ∃ a9, vx_Run p l e R s m args below meth c H locs nc ns mc' ms' (F0 m pc ls (st.map (jv ad))) (st'.map (jv ad)) (jQn nw' Pn' D cy ad bs a9) (jQx nw' Px' D cy ad bs) (jB bs))
    (kn : ∀ (r : Option Value) (h' : jH), Pn' r h' → J M R nw Z (pc + 3) L (r.toList ++ st') h' (nc + mc') (ns + ms'))
    (kx : ∀ (E : String) (h' : jH), Px' E h' → JT M R nw Z pc L h' (nc + mc') (ns + ms') E) : J M R nw Z pc L st h nc ns := by
  intro p l e s m args below meth c H locs ls D cy ad ad0 bs hX
  obtain ⟨a9, hr⟩ := hrun p l e s m args below meth c H locs ls D cy ad ad0 bs hX
  obtain ⟨x1, x2, x3, x4, x5, x6, x7, x8, x9, x10⟩ := hX
  intro T hT X
  rcases hr T hT X with ⟨v, st₀, t, T', Lc, h0, X', hL, e1, e2, ⟨r, h', ad', hv, hp, hW', hq, hF⟩, go⟩ | ⟨q, st₀, t, T', Lc, E, ce, h0, X', hL, e1, e2, ⟨h', ad', hp, hW', hq, hF⟩, hce, hcv, hcl, go⟩
  · cases hv
    obtain ⟨k1, k2, k3⟩ := vx_keep (A0 := jB bs) (A1 := jB bs) h0 e1 x5 (fun _ _ z => z) (fun _ z => z) hL hF
    obtain ⟨t2, a1, b1⟩ := kn r h' hp p l e s m args below meth c T'.heap (locs ++ Lc) ls D cy ad' ad0 bs ⟨x1, x2, x3, x4, k3, by rw [e1]; exact hW', fun k hk => (hq k fun z => hk (hsub k z)).trans (x7 k hk), by rw [jLs_same hfr hq]; exact x8, x9, x10⟩ T' rfl X'
    refine ⟨t2, go t2 ?_, b1⟩
    rw [List.map_append, jst_same hfr hq] at a1
    cases r <;> exact a1
  · obtain ⟨k1, k2, k3⟩ := vx_keep (A0 := jB bs) (A1 := jB bs) h0 e1 x5 (fun _ _ z => z) (fun _ z => z) hL hF
    obtain ⟨t2, a1, b1⟩ := kx E h' hp p l e s m args below meth c T'.heap (locs ++ Lc) ls D cy ad' ad0 bs ⟨x1, x2, x3, x4, k3, by rw [e1]; exact hW', fun k hk => (hq k fun z => hk (hsub k z)).trans (x7 k hk), by rw [jLs_same hfr hq]; exact x8, x9, x10⟩ (st'.map (jv ad)) q ce (by rw [e1]; exact hce) hcv hcl T' rfl X'
    exact ⟨t2, go.trans a1, b1⟩
theorem j_blind {av : List Value} {D : va_G} {cy : Nat → ClassId} {ad : Nat → Nat} {bs : Nat} {h0 : jH} : FrameBlind (va_Pc av (fun U => (jS bs U U.heap ∧ va_K D jcl (jtys cy) U) ∧ jW D cy ad bs h0 U.heap)) := fun a U g mk q => by
  obtain ⟨q1, ⟨q2, q3⟩, q4⟩ := q
  exact ⟨q1, ⟨jS.go (U := U.calling g mk a) q2 (State.WarmedH.refl U) (fun _ _ _ => rfl), va_K.moved (u := U) (U := U.calling g mk a) (Vm.Alike.refl U.vm) q3⟩, q4⟩
/-- the words of a method that is called by name -/
def jmV (N : jMe) : Prop := Cond.instanceMethod N.1 ∈ jWL ∧ Cond.selects N.1.cls N.1 N.1 ∈ jWL ∧ Cond.initialized N.1.cls ∈ jWL ∧ jHd N ∈ jWL
def jmS (N : jMe) : Prop := Cond.static N.1 ∈ jWL ∧ Cond.initialized N.1.cls ∈ jWL ∧ jHd N ∈ jWL
def jmI (N : jMe) : Prop := Cond.instanceMethod N.1 ∈ jWL ∧ Cond.initialized N.1.cls ∈ jWL ∧ jHd N ∈ jWL
/-- the pool's entry idx of own is the method N of n parameters -/
def jCa (own : String) (idx : Nat) (N : jMe) (n : Nat) : Prop := Cond.methodLink own idx N.1 ∈ jWL ∧ (N.1.cls ≠ "java/lang/invoke/MethodHandle" ∧ N.1.cls ≠ "java/lang/invoke/VarHandle") ∧ (parseMethodDescriptor N.1.desc).map (fun d => d.parameters.length) = some n
theorem j_hd {N : jMe} (ht : N.2.2.2.2.1 = []) : jHd N = .code N.1 N.2.1 N.2.2.1 N.2.2.2.1 := by unfold jHd; rw [ht]
theorem j_goodIn {M N : jMe} (hN : jHd N ∈ jWL) {ws : List Cond} (h : ∀ w ∈ ws, w ∈ jWL) : GoodIn (jHd M :: jWL) (ws ++ (jHd N :: jWL)) := fun w hw => by
  have hw2 : w ∈ jWL := by
    rcases List.mem_append.mp hw with h1 | h1
    · exact h w h1
    · rcases List.mem_cons.mp h1 with h2 | h2
      · rw [h2]; exact hN
      · exact h2
  exact ⟨List.mem_cons_of_mem _ hw2, (jw_good hw2).2⟩
theorem j_hts {s : State} {args : Array Value} (h : ∀ w ∈ jWL, w.before args s = true) (hM : (jHd M).before args s = true) : ∀ w ∈ jHd M :: jWL, w.before args s = true := fun w hw => by
  rcases List.mem_cons.mp hw with h1 | h1
  · rw [h1]; exact hM
  · exact h w h1
theorem j_gin {N : jMe} (hN : jHd N ∈ jWL) {ws : List Cond} (h : ∀ w ∈ ws, w ∈ jWL) : GoodIn jWL (ws ++ (jHd N :: jWL)) := fun w hw => by
  have hw2 : w ∈ jWL := by
    rcases List.mem_append.mp hw with h1 | h1
    · exact h w h1
    · rcases List.mem_cons.mp h1 with h2 | h2
      · rw [h2]; exact hN
      · exact h2
  exact ⟨hw2, (jw_good hw2).2⟩
theorem j_cats (ad : Nat → Nat) : ∀ st : List Value, ((st.map (jv ad)).map fun v => v.category).sum = (st.map fun v => v.category).sum := fun st => by
  rw [List.map_map]
  exact congrArg List.sum (List.map_congr_left fun v _ => jv_cat ad v)
/-- what the callee is handed -/
theorem j_start {s : State} {H : Heap} {locs : List Loc} {D : va_G} {cy : Nat → ClassId} {ad : Nat → Nat} {bs : Nat} {av : List Value} (h3 : jS bs s s.heap) (h4 : va_K D jcl (jtys cy) s) (h5 : va_S (jB bs) s.heap H locs) (h6 : jW D cy ad bs h H) :
    ∀ U : State, U.heap = H → s.WarmedH U.vm → va_Pc av (fun U => (jS bs U U.heap ∧ va_K D jcl (jtys cy) U) ∧ jW D cy ad bs h U.heap) av.toArray U := fun U hU hW =>
  ⟨rfl, ⟨h3.go hW (fun q hq hb => by rw [hU]; exact h5.2.1 q hq hb), va_K.moved hW.alike h4⟩, by rw [hU]; exact h6⟩
theorem j_callV {N : jMe} {idx n d' mc' ms' k ci : Nat} {nw' : List Nat} {Pn' : jPn} {Px' : jPx} {as rest fs : List Value} {T9 : u_T} {n9 : Nat} (hM : jM N d' mc' ms' nw' (.ref k :: as) h Pn' Px') (hd : decode M.2.1 pc = .ok (.invokevirtual idx, 3)) (hc : jCa M.1.cls idx N n) (hm : jmV N) (ht : N.2.2.2.2.1 = []) (hn : as.length = n)
    (ha : h k = some (jO ci fs)) (hci : jcl[ci]? = some (N.1.cls, T9, n9)) (hst : as.reverse ++ .ref k :: rest = st) (hsub : ∀ k ∈ nw', k ∈ nw) (hfr : jfr nw' L rest) (hcat : (rest.map fun v => v.category).sum ≤ 8) (hR : d' + 1 ≤ R.frames ∧ 8 + (N.2.2.1 + 11) + 64 * d' ≤ R.locals) (hroom : nc + mc' ≤ R.cells ∧ ns + ms' ≤ R.slots)
    (kn : ∀ (r : Option Value) (h' : jH), Pn' r h' → J M R nw Z (pc + 3) L (r.toList ++ rest) h' (nc + mc') (ns + ms'))
    (kx : ∀ (E : String) (h' : jH), Px' E h' → JT M R nw Z pc L h' (nc + mc') (ns + ms') E) : J M R nw Z pc L st h nc ns := by
  refine J.call hsub hfr (fun p l e s m args below meth c H locs ls D cy ad ad0 bs hX => ?_) kn kx
  subst hst
  obtain ⟨⟨y1, y2, y3, y4, y5⟩, ⟨-, -, -, y6, -⟩, x3, x4, x5, x6, x7, x8, x9, x10⟩ := hX
  have hv := hM l y6 D cy ad bs
  rw [j_hd ht] at hv
  have hH := j_hd ht
  obtain ⟨m1, m2, m3, m4⟩ := hm
  obtain ⟨c1, c2, c3⟩ := hc
  have hG : GoodIn jWL (wsV M.1.cls idx N.1.cls N.1 (.code N.1 N.2.1 N.2.2.1 N.2.2.2.1 :: jWL)) := by
    rw [← hH]
    exact j_gin m4 fun w hw => by
      simp only [List.mem_cons, List.not_mem_nil, or_false] at hw
      rcases hw with rfl | rfl | rfl | rfl <;> assumption
  have cw := cwV (R := R) (rm := jR d' mc' ms') (mc := mc') (ms := ms') n y5 hG rfl rfl rfl ⟨rfl, c2.1, c2.2, c3⟩ hR
  obtain ⟨cell, g1, g2, g3⟩ := va_recv (q0 := 0) (ci := ci) x4 (j_one (x6.2.1 k _ ha)) hci rfl
  refine ⟨_, vx_runV (C := N.1.cls) (b := ad k) (As := as.map (jv ad)) ⟨y1, y2, y3, y4, y5⟩ hv cw ⟨j_blind, ⟨cell, g1, g2, g3⟩, j_start (av := (Value.ref k :: as).map (jv ad)) x3 x4 x5 x6⟩ rfl (by rw [List.length_map]; exact hn) x8.1 (by simp [jv, List.map_reverse]) (by show 2 * 0 + _ ≤ 8; rw [j_cats]; omega) hd hroom⟩
theorem j_callS {N : jMe} {idx n d' mc' ms' : Nat} {nw' : List Nat} {Pn' : jPn} {Px' : jPx} {as rest : List Value} (hM : jM N d' mc' ms' nw' as h Pn' Px') (hd : decode M.2.1 pc = .ok (.invokestatic idx, 3)) (hc : jCa M.1.cls idx N n) (hm : jmS N) (ht : N.2.2.2.2.1 = []) (hn : as.length = n)
    (hst : as.reverse ++ rest = st) (hsub : ∀ k ∈ nw', k ∈ nw) (hfr : jfr nw' L rest) (hcat : (rest.map fun v => v.category).sum ≤ 8) (hR : d' + 1 ≤ R.frames ∧ 8 + (N.2.2.1 + 11) + 64 * d' ≤ R.locals) (hroom : nc + mc' ≤ R.cells ∧ ns + ms' ≤ R.slots)
    (kn : ∀ (r : Option Value) (h' : jH), Pn' r h' → J M R nw Z (pc + 3) L (r.toList ++ rest) h' (nc + mc') (ns + ms'))
    (kx : ∀ (E : String) (h' : jH), Px' E h' → JT M R nw Z pc L h' (nc + mc') (ns + ms') E) : J M R nw Z pc L st h nc ns := by
  refine J.call hsub hfr (fun p l e s m args below meth c H locs ls D cy ad ad0 bs hX => ?_) kn kx
  subst hst
  obtain ⟨⟨y1, y2, y3, y4, y5⟩, ⟨-, -, -, y6, -⟩, x3, x4, x5, x6, x7, x8, x9, x10⟩ := hX
  have hv := hM l y6 D cy ad bs
  rw [j_hd ht] at hv
  have hH := j_hd ht
  obtain ⟨m1, m3, m4⟩ := hm
  obtain ⟨c1, c2, c3⟩ := hc
  have hG : GoodIn jWL (va_wsS M.1.cls idx N.1 (.code N.1 N.2.1 N.2.2.1 N.2.2.2.1 :: jWL)) := by
    rw [← hH]
    exact j_gin m4 fun w hw => by
      simp only [List.mem_cons, List.not_mem_nil, or_false] at hw
      rcases hw with rfl | rfl | rfl <;> assumption
  have cw := va_cwS (R := R) (rm := jR d' mc' ms') (mc := mc') (ms := ms') n y5 hG rfl rfl rfl ⟨c2.1, c2.2, c3⟩ hR
  exact ⟨_, vx_runS (As := as.map (jv ad)) ⟨y1, y2, y3, y4, y5⟩ hv cw ⟨j_blind, j_start x3 x4 x5 x6⟩ rfl (by rw [List.length_map]; exact hn) x8.1 (by simp [List.map_reverse]) (by show 2 * 0 + _ ≤ 8; rw [j_cats]; omega) hd hroom⟩
/-- a contract that throws nothing, as the kit's own -/
theorem jM.met {N : jMe} {d' mc' ms' : Nat} {nw' : List Nat} {Pn' : jPn} {a0 : List Value} (hM : jM N d' mc' ms' nw' a0 h Pn' jno) {l : Launch} (hl : l.stackTraces = false) (D : va_G) (cy : Nat → ClassId) (ad : Nat → Nat) (bs : Nat) :
    Met l N.1 (jHd N :: jWL) (jR d' mc' ms') (va_Pc (a0.map (jv ad)) (fun U => (jS bs U U.heap ∧ va_K D jcl (jtys cy) U) ∧ jW D cy ad bs h U.heap)) (jQn nw' Pn' D cy ad bs) mc' ms' (jB bs) := by
  intro p e ha hc hk s m args below hf happ hP hK
  obtain ⟨n, o, h1, h2, h3, h4⟩ := hM l hl D cy ad bs p e ha hc hk s m args below hf happ hP hK
  refine ⟨n, o, h1, h2, h3, ?_⟩
  rcases h4 with h4 | ⟨q, -, E, ce, Lq, ⟨h', ad', hp, -⟩, -⟩
  · exact h4
  · exact hp.elim
theorem va_Run.vx {p : Program} {l : Launch} {e : Env} {s : State} {m : MethodId} {args : Array Value} {below : List Frame} {meth : Method} {c : Code} {H : Heap} {locs : List Loc} {g : JFrame} {rest : List Value} {Qa : State → Outcome → State → Prop} {XC : String → State → State → Prop} {free : Addr → Prop} (hr : va_Run p l e R s m args below meth c H locs nc ns mc ms g rest Qa free) : vx_Run p l e R s m args below meth c H locs nc ns mc ms g rest Qa XC free :=
  fun T hT X => Or.inl (hr T hT X)
theorem j_callI {N : jMe} {idx n d' mc' ms' k : Nat} {nw' : List Nat} {Pn' : jPn} {as rest : List Value} (hM : jM N d' mc' ms' nw' (.ref k :: as) h Pn' jno) (hd : decode M.2.1 pc = .ok (.invokespecial idx, 3)) (hc : jCa M.1.cls idx N n) (hm : jmI N) (ht : N.2.2.2.2.1 = []) (hr : N.2.2.2.1 = none) (hnm : N.1.name = "<init>") (hn : as.length = n)
    (hst : as.reverse ++ .ref k :: rest = st) (hsub : ∀ k ∈ nw', k ∈ nw) (hfr : jfr nw' L rest) (hcat : (rest.map fun v => v.category).sum ≤ 8) (hR : d' + 1 ≤ R.frames ∧ 8 + (N.2.2.1 + 11) + 64 * d' ≤ R.locals) (hroom : nc + mc' ≤ R.cells ∧ ns + ms' ≤ R.slots)
    (kn : ∀ (r : Option Value) (h' : jH), Pn' r h' → J M R nw Z (pc + 3) L (r.toList ++ rest) h' (nc + mc') (ns + ms')) : J M R nw Z pc L st h nc ns := by
  refine J.call (Px' := jno) hsub hfr (fun p l e s m args below meth c H locs ls D cy ad ad0 bs hX => ?_) kn (fun E h' q => q.elim)
  subst hst
  obtain ⟨⟨y1, y2, y3, y4, y5⟩, ⟨-, -, -, y6, -⟩, x3, x4, x5, x6, x7, x8, x9, x10⟩ := hX
  have hv := hM.met y6 D cy ad bs
  have hH : jHd N = .code N.1 N.2.1 N.2.2.1 none := by rw [j_hd ht, hr]
  rw [hH] at hv
  obtain ⟨m1, m3, m4⟩ := hm
  obtain ⟨c1, c2, c3⟩ := hc
  have hG : GoodIn jWL (.code N.1 N.2.1 N.2.2.1 none :: jWL) := by
    rw [← hH]
    exact j_gin (ws := []) m4 fun w hw => by cases hw
  have cw := cwI (R := R) (rm := jR d' mc' ms') (mc := mc') (ms := ms') n y5 hG rfl rfl rfl (y5 _ m3) (y5 _ c1) (y5 _ m1) hnm ⟨c2.1, c2.2, c3⟩ hR
  exact ⟨_, va_Run.vx (va_runI (b := ad k) (As := as.map (jv ad)) ⟨y1, y2, y3, y4, y5⟩ hv cw ⟨j_blind, j_start (av := (Value.ref k :: as).map (jv ad)) x3 x4 x5 x6⟩ rfl (by rw [List.length_map]; exact hn) x8.1 (by simp [jv, List.map_reverse]) (by show 2 * 0 + _ ≤ 8; rw [j_cats]; omega) hd hroom)⟩
theorem j_callIN {N : jMe} {host : String} {idx n d' mc' ms' k : Nat} {nw' : List Nat} {Pn' : jPn} {as rest : List Value} (hM : jM N d' mc' ms' nw' (.ref k :: as) h Pn' jno) (hd : decode M.2.1 pc = .ok (.invokespecial idx, 3)) (hl : Cond.methodLinkNest M.1.cls idx N.1 host ∈ jWL) (hc : (N.1.cls ≠ "java/lang/invoke/MethodHandle" ∧ N.1.cls ≠ "java/lang/invoke/VarHandle") ∧ (parseMethodDescriptor N.1.desc).map (fun d => d.parameters.length) = some n) (hm : jmI N) (ht : N.2.2.2.2.1 = []) (hr : N.2.2.2.1 = none) (hnm : N.1.name = "<init>") (hn : as.length = n)
    (hst : as.reverse ++ .ref k :: rest = st) (hsub : ∀ k ∈ nw', k ∈ nw) (hfr : jfr nw' L rest) (hcat : (rest.map fun v => v.category).sum ≤ 8) (hR : d' + 1 ≤ R.frames ∧ 8 + (N.2.2.1 + 11) + 64 * d' ≤ R.locals) (hroom : nc + mc' ≤ R.cells ∧ ns + ms' ≤ R.slots)
    (kn : ∀ (r : Option Value) (h' : jH), Pn' r h' → J M R nw Z (pc + 3) L (r.toList ++ rest) h' (nc + mc') (ns + ms')) : J M R nw Z pc L st h nc ns := by
  refine J.call (Px' := jno) hsub hfr (fun p l e s m args below meth c H locs ls D cy ad ad0 bs hX => ?_) kn (fun E h' q => q.elim)
  subst hst
  obtain ⟨⟨y1, y2, y3, y4, y5⟩, ⟨-, -, -, y6, -⟩, x3, x4, x5, x6, x7, x8, x9, x10⟩ := hX
  have hv := hM.met y6 D cy ad bs
  have hH : jHd N = .code N.1 N.2.1 N.2.2.1 none := by rw [j_hd ht, hr]
  rw [hH] at hv
  obtain ⟨m1, m3, m4⟩ := hm
  obtain ⟨c2, c3⟩ := hc
  have hG : GoodIn jWL (.code N.1 N.2.1 N.2.2.1 none :: jWL) := by
    rw [← hH]
    exact j_gin (ws := []) m4 fun w hw => by cases hw
  have cw := va_cnB (R := R) (s := s) (args := args) (own := M.1.cls) (host := host) (index := idx) (rm := jR d' mc' ms') (mc := mc') (ms := ms') n y5 hG rfl rfl rfl (va_Nw.of rfl (y5 _ hl)) (y5 _ m3) ⟨c2.1, c2.2, c3⟩ hR
  exact ⟨_, va_Run.vx (va_runIN (b := ad k) (As := as.map (jv ad)) ⟨y1, y2, y3, y4, y5⟩ hv ⟨cw, hnm, y5 _ m1⟩ ⟨j_blind, j_start (av := (Value.ref k :: as).map (jv ad)) x3 x4 x5 x6⟩ rfl (by rw [List.length_map]; exact hn) x8.1 (by simp [jv, List.map_reverse]) (by show 2 * 0 + _ ≤ 8; rw [j_cats]; omega) hd hroom)⟩
end JC1
