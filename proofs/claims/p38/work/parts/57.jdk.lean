section JGR
variable {M : jMe} {R : Room} {nw : List Nat} {Z : jFin} {pc : Nat} {L : List (Nat × Value)} {st : List Value} {h : jH} {nc ns : Nat}
/-- the static that the JDK's checks hand on: null, or some reference that is not ours -/
theorem j_getstR {i9 k : Nat} (hl : Cond.fieldLink M.1.cls i9 "jdk/internal/util/Preconditions" "SIOOBE_FORMATTER" "Ljava/util/function/BiFunction;" ∈ jWL) (hd : decode M.2.1 pc = .ok (.getstatic i9, 3)) (hk : h k = none) (hn : k ∈ nw) (hfr : jfr [k] L st)
    (kk : ∀ v : Value, (v = .null ∨ v = .ref k) → J M R nw Z (pc + 3) L (v :: st) h nc ns) : J M R nw Z pc L st h nc ns := by
  intro p l e s m args below meth c H locs ls D cy ad ad0 bs hX
  obtain ⟨x1, x2, x3, x4, x5, x6, x7, x8, x9⟩ := id hX
  obtain ⟨y1, y2, y3, y4, y5⟩ := x1
  rcases x3.1.2.2 with hz | ⟨t, hz⟩
  · exact va_gets y1 y2 hz x5 y4 (y5 _ hl) (fun _ q => q) hd (kk .null (.inl rfl) p l e s m args below meth c H locs ls D cy ad ad0 bs hX)
  · have hW : jW D cy (va_up ad k t) bs h H := by
      obtain ⟨w1, w2, w3, w4, w5⟩ := x6
      have hun : ∀ j, h j ≠ none → va_up ad k t j = ad j := fun j hj => if_neg fun e => hj (by rw [e]; exact hk)
      refine ⟨w1, fun j cj hj => ?_, fun i j hi hj e => ?_, fun j hj => ?_, w5⟩
      · rw [hun j (by rw [hj]; exact fun z => by cases z), jE_up (fun hr => w5 j cj hj k hr hk)]
        exact w2 j cj hj
      · rw [hun i hi, hun j hj] at e
        exact w3 i j hi hj e
      · rw [hun j hj]; exact w4 j hj
    have w := kk (.ref k) (.inr rfl) p l e s m args below meth c H locs ls D cy (va_up ad k t) ad0 bs ⟨⟨y1, y2, y3, y4, y5⟩, x2, x3, x4, x5, hW, fun j hj => (va_up_off j (fun e => hj (by rw [List.mem_singleton.mp e]; exact hn))).trans (x7 j hj), by rw [jLs_same hfr va_up_off]; exact x8, x9⟩
    have e : (Value.ref k :: st).map (jv (va_up ad k t)) = .ref t :: st.map (jv ad) := by
      rw [List.map_cons, jst_same hfr va_up_off]
      show Value.ref (va_up ad k t k) :: _ = _
      rw [show va_up ad k t k = t from if_pos rfl]
    rw [e] at w
    exact va_gets y1 y2 hz x5 y4 (y5 _ hl) (fun _ q => q) hd w
/-- a private method of a class above is selected whatever the class -/
theorem j_selp {C : String} {y z : MethodName} {s : State} {args : Array Value} (hz : (Cond.selects C z z).before args s = true) (hcl : z.cls = y.cls) (hp : (Cond.privateMethod y).before args s = true) (hi : (Cond.instanceMethod y).before args s = true) (hy : y.cls ≠ "java/lang/invoke/MethodHandle" ∧ y.cls ≠ "java/lang/invoke/VarHandle") : (Cond.selects C y y).before args s = true := by
  obtain ⟨c, r, m, q1, q2, q3, q4, kP, hkP, hkPi⟩ := Cond.selects_spec hz
  obtain ⟨mk, methM, hnamed, hmethM, -, -⟩ := Cond.instanceMethod_spec hi
  have hfound : s.methodFound? y.cls y.name y.desc = some mk := State.methodFound?_of_named hnamed hy
  have hsel : selectMethod {} s.vm c mk = .method mk := selectMethod_private hmethM (Cond.privateMethod_at hp mk methM hnamed hmethM)
  have hk : mk.cls = m.cls := by
    have a := findClass_of_methodNamed hnamed
    have b := findClass_of_methodNamed q3
    rw [hcl] at b
    exact Option.some.inj (a.symm.trans b)
  rw [← hk] at hkP
  simp only [Cond.before, Cond.holds, Cond.value, q1, hfound, hnamed, hsel, hkP]
  simp [hkPi]
/-- a method of StringBuilder's superclass -/
def jmU (N : jMe) : Prop := Cond.instanceMethod N.1 ∈ jWL ∧ Cond.sameMethod N.1.cls N.1.cls N.1.name N.1.desc ∈ jWL ∧ Cond.initialized N.1.cls ∈ jWL ∧ jHd N ∈ jWL ∧ N.1.cls = RJ5 ∧ N.1.name ≠ "<init>" ∧ (Cond.selects RJ4 N.1 N.1 ∈ jWL ∨ Cond.privateMethod N.1 ∈ jWL ∨ True)
theorem j_sel5 : Cond.selects RJ4 yJ5_isLatin1_aae02 yJ5_isLatin1_aae02 ∈ jWL := jw_mem 948 (by decide +kernel) (by decide +kernel)
theorem j_callU {N : jMe} {idx n d' mc' ms' k : Nat} {nw' : List Nat} {Pn' : jPn} {as rest fs : List Value} (hM : jM N d' mc' ms' nw' (.ref k :: as) h Pn' jno) (hd : decode M.2.1 pc = .ok (.invokevirtual idx, 3)) (hc : jCa M.1.cls idx N n) (hm : jmU N) (hs : Cond.selects RJ4 N.1 N.1 ∈ jWL ∨ Cond.privateMethod N.1 ∈ jWL) (ht : N.2.2.2.2.1 = []) (hn : as.length = n)
    (ha : h k = some (jO 6 fs)) (hst : as.reverse ++ .ref k :: rest = st) (hsub : ∀ k ∈ nw', k ∈ nw) (hfr : jfr nw' L rest) (hcat : (rest.map fun v => v.category).sum ≤ 8) (hR : d' + 1 ≤ R.frames ∧ 8 + (N.2.2.1 + 11) + 64 * d' ≤ R.locals) (hroom : nc + mc' ≤ R.cells ∧ ns + ms' ≤ R.slots)
    (kn : ∀ (r : Option Value) (h' : jH), Pn' r h' → J M R nw Z (pc + 3) L (r.toList ++ rest) h' (nc + mc') (ns + ms')) : J M R nw Z pc L st h nc ns := by
  refine J.call (Px' := jno) hsub hfr (fun p l e s m args below meth c H locs ls D cy ad ad0 bs hX => ?_) kn (fun E h' q => q.elim)
  subst hst
  obtain ⟨⟨y1, y2, y3, y4, y5⟩, ⟨-, -, -, y6, -⟩, x3, x4, x5, x6, x7, x8, x9, x10⟩ := hX
  have hv := hM.met y6 D cy ad bs
  rw [j_hd ht] at hv
  obtain ⟨m1, m2, m3, m4, m5, m6, -⟩ := hm
  obtain ⟨c1, c2, c3⟩ := hc
  have hsel : (Cond.selects RJ4 N.1 N.1).before args s = true := by
    rcases hs with q | q
    · exact y5 _ q
    · exact j_selp (y5 _ j_sel5) m5.symm (y5 _ q) (y5 _ m1) c2
  rw [j_hd ht] at m4
  have hcw : ∀ w ∈ (Cond.code N.1 N.2.1 N.2.2.1 N.2.2.2.1 :: jWL), w ∈ jWL := fun w hw => by
    rcases List.mem_cons.mp hw with q | q
    · rw [q]; exact m4
    · exact q
  have hG : GoodIn (Cond.selects RJ4 N.1 N.1 :: jWL) (va_wsU M.1.cls idx RJ4 N.1.cls N.1 N.1 (.code N.1 N.2.1 N.2.2.1 N.2.2.2.1 :: jWL)) := fun w hw => by
    rcases List.mem_append.mp hw with h1 | h1
    · simp only [List.mem_cons, List.not_mem_nil, or_false] at h1
      rcases h1 with rfl | rfl | rfl | rfl | rfl
      · exact ⟨List.mem_cons_of_mem _ c1, (jw_good c1).2⟩
      · exact ⟨List.mem_cons_of_mem _ m2, (jw_good m2).2⟩
      · exact ⟨List.mem_cons_self, .inl (by rfl)⟩
      · exact ⟨List.mem_cons_of_mem _ m1, (jw_good m1).2⟩
      · exact ⟨List.mem_cons_of_mem _ m3, (jw_good m3).2⟩
    · exact ⟨List.mem_cons_of_mem _ (hcw w h1), (jw_good (hcw w h1)).2⟩
  have cw := va_cwU (R := R) (s := s) (args := args) (rm := jR d' mc' ms') (mc := mc') (ms := ms') n (fun w hw => by
    rcases List.mem_cons.mp hw with q | q
    · rw [q]; exact hsel
    · exact y5 _ q) hG rfl rfl rfl rfl ⟨c2.1, c2.2, c3⟩ hR
  obtain ⟨cell, g1, g2, g3⟩ := va_recv (q0 := 0) (ci := 6) x4 (j_one (x6.2.1 k _ ha)) rfl rfl
  exact ⟨_, va_Run.vx (va_runU (C := RJ4) (b := ad k) (As := as.map (jv ad)) ⟨y1, y2, y3, y4, y5⟩ hv cw ⟨j_blind, ⟨cell, g1, g2, g3⟩, j_start (av := (Value.ref k :: as).map (jv ad)) x3 x4 x5 x6⟩ rfl (by rw [List.length_map]; exact hn) x8.1 (by simp [jv, List.map_reverse]) (by show 2 * 0 + _ ≤ 8; rw [j_cats]; omega) hd hroom)⟩
theorem j_callSU {N : jMe} {idx n d' mc' ms' k : Nat} {nw' : List Nat} {Pn' : jPn} {as rest fs : List Value} (hM : jM N d' mc' ms' nw' (.ref k :: as) h Pn' jno) (hd : decode M.2.1 pc = .ok (.invokespecial idx, 3)) (hcls : M.1.cls = RJ4) (hc : jCa M.1.cls idx N n) (hm : jmU N) (ht : N.2.2.2.2.1 = []) (hn : as.length = n)
    (ha : h k = some (jO 6 fs)) (hst : as.reverse ++ .ref k :: rest = st) (hsub : ∀ k ∈ nw', k ∈ nw) (hfr : jfr nw' L rest) (hcat : (rest.map fun v => v.category).sum ≤ 8) (hR : d' + 1 ≤ R.frames ∧ 8 + (N.2.2.1 + 11) + 64 * d' ≤ R.locals) (hroom : nc + mc' ≤ R.cells ∧ ns + ms' ≤ R.slots)
    (kn : ∀ (r : Option Value) (h' : jH), Pn' r h' → J M R nw Z (pc + 3) L (r.toList ++ rest) h' (nc + mc') (ns + ms')) : J M R nw Z pc L st h nc ns := by
  refine J.call (Px' := jno) hsub hfr (fun p l e s m args below meth c H locs ls D cy ad ad0 bs hX => ?_) kn (fun E h' q => q.elim)
  subst hst
  obtain ⟨⟨y1, y2, y3, y4, y5⟩, ⟨-, -, -, y6, -⟩, x3, x4, x5, x6, x7, x8, x9, x10⟩ := hX
  have hv := hM.met y6 D cy ad bs
  rw [j_hd ht] at hv
  obtain ⟨m1, m2, m3, m4, m5, m6, -⟩ := hm
  obtain ⟨c1, c2, c3⟩ := hc
  rw [j_hd ht] at m4
  have m7 : Cond.superclass M.1.cls N.1.cls ∈ jWL := by
    rw [hcls, m5]
    exact jw_mem 223 (by decide +kernel) (by decide +kernel)
  have hcw : ∀ w ∈ (Cond.code N.1 N.2.1 N.2.2.1 N.2.2.2.1 :: jWL), w ∈ jWL := fun w hw => by
    rcases List.mem_cons.mp hw with q | q
    · rw [q]; exact m4
    · exact q
  have hG : GoodIn jWL (va_wsSU M.1.cls idx N.1 (.code N.1 N.2.1 N.2.2.1 N.2.2.2.1 :: jWL)) := fun w hw => by
    rcases List.mem_append.mp hw with h1 | h1
    · simp only [List.mem_cons, List.not_mem_nil, or_false] at h1
      rcases h1 with rfl | rfl | rfl | rfl | rfl
      · exact ⟨c1, (jw_good c1).2⟩
      · exact ⟨m2, (jw_good m2).2⟩
      · exact ⟨m7, (jw_good m7).2⟩
      · exact ⟨m1, (jw_good m1).2⟩
      · exact ⟨m3, (jw_good m3).2⟩
    · exact ⟨hcw w h1, (jw_good (hcw w h1)).2⟩
  have cw := va_cwSU (R := R) (s := s) (args := args) (rm := jR d' mc' ms') (mc := mc') (ms := ms') n y5 hG rfl rfl rfl ⟨m6, c3⟩ hR
  obtain ⟨cell, g1, g2, g3⟩ := va_recv (q0 := 0) (ci := 6) x4 (j_one (x6.2.1 k _ ha)) rfl rfl
  exact ⟨_, va_Run.vx (va_runSU (C := RJ4) (x4.1 6 _ rfl).2 (b := ad k) (As := as.map (jv ad)) ⟨y1, y2, y3, y4, y5⟩ hv cw ⟨j_blind, ⟨cell, g1, g2, g3⟩, j_start (av := (Value.ref k :: as).map (jv ad)) x3 x4 x5 x6⟩ rfl (by rw [List.length_map]; exact hn) x8.1 (by simp [jv, List.map_reverse]) (by show 2 * 0 + _ ≤ 8; rw [j_cats]; omega) hd hroom)⟩
end JGR
