/-! FAMILYOAKS' CONSTRUCTOR -/
def jz0 : Value → Bool
  | .null => true
  | .int x => x == 0
  | _ => false
theorem jz0_of {fs : List Value} (h : fs.all jz0 = true) : ∀ v ∈ fs, v = .null ∨ ∃ x, v = iv x := fun v hv => by
  have q := List.all_eq_true.mp h v hv
  cases v
  all_goals first
    | exact .inl rfl
    | (rename_i x; exact .inr ⟨0, by rw [show x = 0 from eq_of_beq q]; rfl⟩)
    | (exfalso; revert q; simp [jz0])
section JI9
variable {M : jMe} {R : Room} {nw : List Nat} {Z : jFin} {pc pc' : Nat} {L L' : List (Nat × Value)} {st st' : List Value} {h h' : jH} {nc ns nc' ns' mc ms : Nat} {Pn : jPn} {Px : jPx}
theorem J.gen (kk : ∀ h2, h2 = h → J M R nw Z pc L st h2 nc ns) : J M R nw Z pc L st h nc ns := kk h rfl
/-- a constructor of a nest mate -/
theorem j_callIO {N : jMe} {idx n d' mc' ms' k : Nat} {nw' : List Nat} {Pn' : jPn} {as rest : List Value} (hM : jM N d' mc' ms' nw' (.ref k :: as) h Pn' jno) (hd : decode M.2.1 pc = .ok (.invokespecial idx, 3)) (hq : (idx, N.1.cls) ∈ jNst) (hy : N.1 = ⟨N.1.cls, "<init>", "()V"⟩) (hcl : M.1.cls = "FamilyOaks") (hc : (N.1.cls ≠ "java/lang/invoke/MethodHandle" ∧ N.1.cls ≠ "java/lang/invoke/VarHandle") ∧ (parseMethodDescriptor N.1.desc).map (fun d => d.parameters.length) = some n) (hm : jmI N) (ht : N.2.2.2.2.1 = []) (hr : N.2.2.2.1 = none) (hnm : N.1.name = "<init>") (hn : as.length = n)
    (hst : as.reverse ++ .ref k :: rest = st) (hsub : ∀ k ∈ nw', k ∈ nw) (hfr : jfr nw' L rest) (hcat : (rest.map fun v => v.category).sum ≤ 8) (hR : d' + 1 ≤ R.frames ∧ 8 + (N.2.2.1 + 11) + 64 * d' ≤ R.locals) (hroom : nc + mc' ≤ R.cells ∧ ns + ms' ≤ R.slots)
    (kn : ∀ (r : Option Value) (h' : jH), Pn' r h' → J M R nw Z (pc + 3) L (r.toList ++ rest) h' (nc + mc') (ns + ms')) : J M R nw Z pc L st h nc ns := by
  refine J.call (Px' := jno) hsub hfr (fun p l e s m args below meth c H locs ls D cy ad ad0 bs hX => ?_) kn (fun E h' q => q.elim)
  subst hst
  obtain ⟨⟨y1, y2, y3, y4, y5⟩, ⟨-, -, -, y6, -⟩, x3, x4, x5, x6, x7, x8, x9, x10⟩ := hX
  obtain ⟨-, -, -, -, -, -, s7, -⟩ := id x3
  have hl : va_Nw (.methodLinkNest M.1.cls idx N.1 "FamilyOaks") s := by
    have q := s7 _ hq
    rw [hcl]
    rw [← hy] at q
    exact q
  have hv := hM.met y6 D cy ad bs
  have hH : jHd N = .code N.1 N.2.1 N.2.2.1 none := by rw [j_hd ht, hr]
  rw [hH] at hv
  obtain ⟨m1, m3, m4⟩ := hm
  obtain ⟨c2, c3⟩ := hc
  have hG : GoodIn jWL (.code N.1 N.2.1 N.2.2.1 none :: jWL) := by
    rw [← hH]
    exact j_gin (ws := []) m4 fun w hw => by cases hw
  have cw := va_cnB (R := R) (s := s) (args := args) (own := M.1.cls) (host := "FamilyOaks") (index := idx) (rm := jR d' mc' ms') (mc := mc') (ms := ms') n y5 hG rfl rfl rfl hl (y5 _ m3) ⟨c2.1, c2.2, c3⟩ hR
  exact ⟨_, va_Run.vx (va_runIN (b := ad k) (As := as.map (jv ad)) ⟨y1, y2, y3, y4, y5⟩ hv ⟨cw, hnm, y5 _ m1⟩ ⟨j_blind, j_start (av := (Value.ref k :: as).map (jv ad)) x3 x4 x5 x6⟩ rfl (by rw [List.length_map]; exact hn) x8.1 (by simp [jv, List.map_reverse]) (by show 2 * 0 + _ ≤ 8; rw [j_cats]; omega) hd hroom)⟩
/-- a contract that asks the class of rows of Families too -/
def jMA (M : jMe) (d mc ms : Nat) (nw : List Nat) (a0 : List Value) (h0 : jH) (Pn : jPn) : Prop :=
  ∀ (l : Launch), l.stackTraces = false → ∀ (D : va_G) (cy : Nat → ClassId) (ad : Nat → Nat) (bs : Nat),
    vx_Met l M.1 (jHd M :: jWL) (jR d mc ms) (va_Pc (a0.map (jv ad)) (fun U => ((jS bs U U.heap ∧ va_AO RX1 U) ∧ va_K D jcl (jtys cy) U) ∧ jW D cy ad bs h0 U.heap)) (jQn nw Pn D cy ad bs) (jQx nw jno D cy ad bs) mc ms (jB bs)
theorem j_blindA {av : List Value} {D : va_G} {cy : Nat → ClassId} {ad : Nat → Nat} {bs : Nat} {h0 : jH} : FrameBlind (va_Pc av (fun U => ((jS bs U U.heap ∧ va_AO RX1 U) ∧ va_K D jcl (jtys cy) U) ∧ jW D cy ad bs h0 U.heap)) := fun a U g mk q => by
  obtain ⟨q1, ⟨⟨q2, q5⟩, q3⟩, q4⟩ := q
  exact ⟨q1, ⟨⟨jS.go (U := U.calling g mk a) q2 (State.WarmedH.refl U) (fun _ _ _ => rfl), va_AO.moved (u := U) (U := U.calling g mk a) (Vm.Alike.refl U.vm) q5⟩, va_K.moved (u := U) (U := U.calling g mk a) (Vm.Alike.refl U.vm) q3⟩, q4⟩
theorem j_startA {s : State} {H : Heap} {locs : List Loc} {D : va_G} {cy : Nat → ClassId} {ad : Nat → Nat} {bs : Nat} {av : List Value} (h3 : jS bs s s.heap) (h8 : va_AO RX1 s) (h4 : va_K D jcl (jtys cy) s) (h5 : va_S (jB bs) s.heap H locs) (h6 : jW D cy ad bs h H) :
    ∀ U : State, U.heap = H → s.WarmedH U.vm → va_Pc av (fun U => ((jS bs U U.heap ∧ va_AO RX1 U) ∧ va_K D jcl (jtys cy) U) ∧ jW D cy ad bs h U.heap) av.toArray U := fun U hU hW =>
  ⟨rfl, ⟨⟨h3.go hW (fun q hq hb => by rw [hU]; exact h5.2.1 q hq hb), va_AO.moved hW.alike h8⟩, va_K.moved hW.alike h4⟩, by rw [hU]; exact h6⟩
theorem jMA.met {N : jMe} {d' mc' ms' : Nat} {nw' : List Nat} {Pn' : jPn} {a0 : List Value} (hM : jMA N d' mc' ms' nw' a0 h Pn') {l : Launch} (hl : l.stackTraces = false) (D : va_G) (cy : Nat → ClassId) (ad : Nat → Nat) (bs : Nat) :
    Met l N.1 (jHd N :: jWL) (jR d' mc' ms') (va_Pc (a0.map (jv ad)) (fun U => ((jS bs U U.heap ∧ va_AO RX1 U) ∧ va_K D jcl (jtys cy) U) ∧ jW D cy ad bs h U.heap)) (jQn nw' Pn' D cy ad bs) mc' ms' (jB bs) := by
  intro p e ha hc hk s m args below hf happ hP hK
  obtain ⟨n, o, h1, h2, h3, h4⟩ := hM l hl D cy ad bs p e ha hc hk s m args below hf happ hP hK
  refine ⟨n, o, h1, h2, h3, ?_⟩
  rcases h4 with h4 | ⟨q, -, E, ce, Lq, ⟨h', ad', hp, -⟩, -⟩
  · exact h4
  · exact hp.elim
theorem j_methodA {d : Nat} {a0 : List Value} {h0 : jH} (hy : plainName M.1.cls = true) (ht : M.2.2.2.2.1 = []) (hφ : ∀ s ad bs, va_AO RX1 s → M.2.2.2.2.2 s ad bs) (hn : (lg_sl a0).length ≤ M.2.2.1)
    (k : J M (jR d mc ms) nw (jZ nw mc ms Pn jno) 0 (lv_args 0 a0) [] h0 0 0) : jMA M d mc ms nw a0 h0 Pn := by
  intro l hl D cy ad bs
  have hH : jHd M = .code M.1 M.2.1 M.2.2.1 M.2.2.2.1 := by unfold jHd; rw [ht]
  rw [hH]
  refine vx_ofW (cc := M.2.1) (maxL := M.2.2.1) (ret := M.2.2.2.1) hy rfl ?_
  intro p e s m args below meth c s₁ B hml htab hv
  obtain ⟨rfl, ⟨⟨hS, hAO⟩, hK⟩, hW⟩ := hv
  have hts := atoms_spec (ws := Cond.code M.1 M.2.1 M.2.2.1 M.2.2.2.1 :: jWL) B.pre
  have hnl := jsl_len ad a0
  have hl0 := lv_entry (a0.map (jv ad)) (n := M.2.2.1) (by rw [hnl]; exact hn)
  rw [lg_entry_eq]
  rw [jLs_args] at hl0
  refine k p l e s m _ below meth c s.heap [] _ D cy ad ad bs ⟨⟨B.exec, B.bytes, hml, findClass_of_methodNamed B.named, fun w hw => hts w (List.mem_cons_of_mem _ hw)⟩, ⟨B.returns, B.notSynchronized, (name_of_methodNamed B.named B.method).1, hl, ?_⟩, hS, hK, va_S.rf, hW, fun _ _ => rfl, hl0, hW.1, hφ _ _ _ hAO⟩
  rw [ht]
  exact List.eq_nil_iff_forall_not_mem.mpr fun x hx => htab x hx
theorem j_callIA {N : jMe} {idx n d' mc' ms' k : Nat} {nw' : List Nat} {Pn' : jPn} {as rest : List Value} (hA : ∀ s ad bs, M.2.2.2.2.2 s ad bs → va_AO RX1 s) (hM : jMA N d' mc' ms' nw' (.ref k :: as) h Pn') (hd : decode M.2.1 pc = .ok (.invokespecial idx, 3)) (hc : jCa M.1.cls idx N n) (hm : jmI N) (ht : N.2.2.2.2.1 = []) (hr : N.2.2.2.1 = none) (hnm : N.1.name = "<init>") (hn : as.length = n)
    (hst : as.reverse ++ .ref k :: rest = st) (hsub : ∀ k ∈ nw', k ∈ nw) (hfr : jfr nw' L rest) (hcat : (rest.map fun v => v.category).sum ≤ 8) (hR : d' + 1 ≤ R.frames ∧ 8 + (N.2.2.1 + 11) + 64 * d' ≤ R.locals) (hroom : nc + mc' ≤ R.cells ∧ ns + ms' ≤ R.slots)
    (kn : ∀ (r : Option Value) (h' : jH), Pn' r h' → J M R nw Z (pc + 3) L (r.toList ++ rest) h' (nc + mc') (ns + ms')) : J M R nw Z pc L st h nc ns := by
  refine J.call (Px' := jno) hsub hfr (fun p l e s m args below meth c H locs ls D cy ad ad0 bs hX => ?_) kn (fun E h' q => q.elim)
  subst hst
  obtain ⟨⟨y1, y2, y3, y4, y5⟩, ⟨-, -, -, y6, -⟩, x3, x4, x5, x6, x7, x8, x9, x10⟩ := hX
  have hv := hM.met y6 D cy ad bs
  have hH : jHd N = .code N.1 N.2.1 N.2.2.1 none := by rw [j_hd ht, hr]
  rw [hH] at hv
  obtain ⟨m1, m3, m4⟩ := hm
  obtain ⟨c1, c2, c3⟩ := hc
  have hG : GoodIn jWL (.code N.1 N.2.1 N.2.2.1 none :: jWL) := by
    rw [← hH]
    exact j_gin (ws := []) m4 fun w hw => by cases hw
  have cw := cwI (R := R) (rm := jR d' mc' ms') (mc := mc') (ms := ms') n y5 hG rfl rfl rfl (y5 _ m3) (y5 _ c1) (y5 _ m1) hnm ⟨c2.1, c2.2, c3⟩ hR
  exact ⟨_, va_Run.vx (va_runI (b := ad k) (As := as.map (jv ad)) ⟨y1, y2, y3, y4, y5⟩ hv cw ⟨j_blindA, j_startA (av := (Value.ref k :: as).map (jv ad)) x3 (hA _ _ _ x10) x4 x5 x6⟩ rfl (by rw [List.length_map]; exact hn) x8.1 (by simp [jv, List.map_reverse]) (by show 2 * 0 + _ ≤ 8; rw [j_cats]; omega) hd hroom)⟩
theorem j_anewarrayA {idx k n : Nat} {g : Int → Option Nat} (hA : ∀ s ad bs, M.2.2.2.2.2 s ad bs → va_AO RX1 s) (hg : g = fun _ => none) (hd : decode M.2.1 pc = .ok (.anewarray idx, 3)) (hcl : Cond.classLink M.1.cls idx RX1 ∈ jWL) (hn : n ≤ 1000000) (hk : h k = none) (hkn : k ∈ nw) (hfr : jfr [k] L st) (hroom : nc + 1 ≤ R.cells ∧ ns + n ≤ R.slots)
    (kk : J M R nw Z (pc + 3) L (.ref k :: st) (jup h k (jQ n g)) (nc + 1) (ns + n)) : J M R nw Z pc L (iv n :: st) h nc ns := by
  subst hg
  refine J.ofN hk hkn hfr (fun _ hr => by obtain ⟨i9, h9⟩ := hr; cases h9) kk fun p l e s m args below meth c H locs ls D cy ad ad0 bs Q hX w => ?_
  obtain ⟨⟨y1, y2, y3, y4, y5⟩, x2, x3, x4, x5, x6, x7, x8, x9, x10⟩ := hX
  have hnn : (Int32.ofInt (n : Int)).toNatClampNeg = n := by rw [j_nat (by omega) (by omega)]; omega
  refine W.anew y1 y2 y4 (y5 _ hcl) (va_AO.use (hA _ _ _ x10)) rfl hd (n := Int32.ofInt n) rfl (by rw [Int32.lt_iff_toInt_lt, j_toI (by omega)]; simp) (by rw [hnn]; omega) hroom.1 (by rw [hnn]; exact hroom.2) fun cA kA comp h1 h2 h3 h4 => ?_
  rw [hnn]
  have hcy : cA = cy 6 := by
    obtain ⟨kA9, comp9, -, -, -, h9⟩ := (x4.2 6 (cy 6, jty 6) rfl).2
    exact Option.some.inj (h1.symm.trans h9)
  subst hcy
  refine w _ ?_ (by simp) (fun q hq => by rw [Array.getElem?_push, if_neg (Nat.ne_of_lt hq)])
  show (H.push { cls := cy 6, slots := Array.replicate n .null, vm := .none })[H.size]? = some (vp_cell (cy 6) (n, .inr (.inr (.inr (.inr fun j => (none : Option Nat).map ad)))))
  rw [Array.getElem?_push_size, arrV_new]
  rfl
end JI9
/-- the constructor, with what its row of references stands on -/
abbrev mX4_initA : jMe := (yX4_init, cX4_init, 2, none, [], fun s _ _ => va_AO RX1 s)
theorem kRw_id (K : fS) : kRw K (K 4) (K 5) = K := by
  unfold kRw
  funext i
  by_cases h5 : i = 5
  · subst h5; exact gs_s
  rw [gs_n h5]
  by_cases h4 : i = 4
  · subst h4; exact gs_s
  exact gs_n h4
theorem jFK.of {k : Nat} {K : fS} {h : jH} (w : jOb sF k K h) : jFK k K h := ⟨K 4, K 5, fun _ _ _ => ⟨rfl, rfl⟩, by rw [kRw_id]; exact w⟩
/-- the places that the constructor takes -/
def jnwX : List Nat := (List.range 118).map fun i => i + 1
/-- the object of the class as it begins -/
def X0_0 : fS := gn (fun _ _ => 0) 10 (-1)
theorem jfr_of {nw : List Nat} {L : List (Nat × Value)} {st : List Value} (h1 : nw.all (fun k => L.all fun q => match q.2 with | .ref j => j != k | _ => true) = true) (h2 : nw.all (fun k => st.all fun v => match v with | .ref j => j != k | _ => true) = true) : jfr nw L st := fun k hk => ⟨fun q hq e => by
    have w := List.all_eq_true.mp (List.all_eq_true.mp h1 k hk) q hq
    rw [e] at w
    simp at w, fun v hv e => by
    have w := List.all_eq_true.mp (List.all_eq_true.mp h2 k hk) v hv
    rw [e] at w
    simp at w⟩
theorem jSB_ne {k : Nat} {c : Int} {t : Int → Int} {h : jH} (w : jSB k c t h) : h k ≠ none := by
  obtain ⟨p, n, G, _, g, _⟩ := w
  rw [g.1]
  exact fun z => by cases z
set_option maxHeartbeats 8000000 in
theorem x_init {P : Int → fS} {h : jH} (hk : h 0 = some (jO 4 [.null, .null, .null, iv 0, .null, iv 0, .null, .null, .null, .null, iv 0, iv 0, iv 0])) (hn : ∀ j, 0 < j → j < 120 → h j = none) : jMA mX4_initA 4 91 1998 jnwX [.ref 0] h (fun r h' => r = none ∧ xC kF0 kF0 P X0_0 (fun _ _ => 0) 0 (fun _ => 0) h' ∧ jEx 0 120 h h') := by
  refine j_methodA (by decide +kernel) rfl (fun _ _ _ q => q) (Nat.le_of_ble_eq_true rfl) ?_
  generalize hZ : jZ jnwX 91 1998 _ _ = Z
  show J mX4_initA (jR 4 91 1998) jnwX Z 0 [(0, .ref 0)] [] h 0 0
  refine j_aload_n dX4_init_0 rfl rfl ?_
  refine j_objInit dX4_init_1 (jw_mem 83 (by decide +kernel) (by decide +kernel)) (jw_mem 84 (by decide +kernel) (by decide +kernel)) (jw_mem 85 (by decide +kernel) (by decide +kernel)) (by decide) (Nat.le_of_ble_eq_true rfl) ?_
  refine j_aload_n dX4_init_4 rfl rfl ?_
  refine j_new (k := 1) (ci := 1) (fs := [.null, .null, .null, .null, .null, .null, iv 0, iv 0, iv 0, iv 0, iv 0]) tyX1 dX4_init_5 (jw_mem 86 (by decide +kernel) (by decide +kernel)) (jw_mem 87 (by decide +kernel) (by decide +kernel)) (jw_mem 48 (by decide +kernel) (by decide +kernel)) rfl tyX1_ok (fun j hj => match j, hj with | 0, _ => rfl | 1, _ => rfl | 2, _ => rfl | 3, _ => rfl | 4, _ => rfl | 5, _ => rfl | 6, _ => rfl | 7, _ => rfl | 8, _ => rfl | 9, _ => rfl | 10, _ => rfl | n9 + 11, hj => absurd hj (by omega)) (jz0_of rfl) (hn 1 (by decide) (by decide)) (by decide) (jfr_1 (by simp [iv]) (by simp [iv])) ⟨Nat.le_of_ble_eq_true rfl, Nat.le_of_ble_eq_true rfl⟩ ?_
  refine j_dup dX4_init_8 rfl ?_
  refine j_callI (c1_init (k := 1) jup_s (jup_n (by decide) (hn 2 (by decide) (by decide))) (jup_n (by decide) (hn 3 (by decide) (by decide))) (jup_n (by decide) (hn 4 (by decide) (by decide))) (jup_n (by decide) (hn 5 (by decide) (by decide))) (jup_n (by decide) (hn 6 (by decide) (by decide))) (jup_n (by decide) (hn 7 (by decide) (by decide)))) dX4_init_9 jc_X4_9 jmI_X1_init rfl rfl rfl rfl rfl (by decide) (jfr_of (by decide +kernel) (by decide +kernel)) (Nat.le_of_ble_eq_true rfl) ⟨Nat.le_of_ble_eq_true rfl, Nat.le_of_ble_eq_true rfl⟩ ⟨Nat.le_of_ble_eq_true rfl, Nat.le_of_ble_eq_true rfl⟩ (fun r h1 hp9 => ?_)
  obtain ⟨rfl, g1, xh1⟩ := hp9
  have sh1 : ∀ j, (j < 1 ∨ 8 ≤ j) → h1 j = h j := fun j hj => (xh1 j (by omega)).trans (jup_n (by omega) rfl)
  refine j_putfieldF (fs' := [.ref 1, .null, .null, iv 0, .null, iv 0, .null, .null, .null, .null, iv 0, iv 0, iv 0]) dX4_init_12 jf_X4_10 (fun q hq => by cases hq; exact ⟨rfl, rfl, rfl⟩) rfl (jHold_obj _ _) (fun k9 q9 => by cases q9; rw [g1.1]; exact fun z => by cases z) ((sh1 0 (by omega)).trans hk) (Nat.le_of_ble_eq_true rfl) rfl ?_
  refine J.gen (fun h2 eh2 => ?_)
  have kh2 : h2 0 = some (jO 4 [.ref 1, .null, .null, iv 0, .null, iv 0, .null, .null, .null, .null, iv 0, iv 0, iv 0]) := by rw [eh2]; exact jup_s
  have th2 : ∀ j, 0 < j → (j < 1 ∨ 8 ≤ j) → h2 j = h j := fun j j0 j1 => by rw [eh2]; exact (jup_n (by omega) rfl).trans (sh1 j j1)
  have ah2 : ∀ j, 0 < j ∧ (j < 1 ∨ 8 ≤ j) → h2 j = h j := fun j hj => th2 j (by omega) (by omega)
  have g1_h2 : jOb sF 1 kF0 h2 := g1.eq okF fun j j0 j1 => by rw [eh2]; exact jup_n (by omega) rfl
  refine j_aload_n dX4_init_15 rfl rfl ?_
  refine j_new (k := 14) (ci := 1) (fs := [.null, .null, .null, .null, .null, .null, iv 0, iv 0, iv 0, iv 0, iv 0]) tyX1 dX4_init_16 (jw_mem 86 (by decide +kernel) (by decide +kernel)) (jw_mem 87 (by decide +kernel) (by decide +kernel)) (jw_mem 48 (by decide +kernel) (by decide +kernel)) rfl tyX1_ok (fun j hj => match j, hj with | 0, _ => rfl | 1, _ => rfl | 2, _ => rfl | 3, _ => rfl | 4, _ => rfl | 5, _ => rfl | 6, _ => rfl | 7, _ => rfl | 8, _ => rfl | 9, _ => rfl | 10, _ => rfl | n9 + 11, hj => absurd hj (by omega)) (jz0_of rfl) ((ah2 14 (by omega)).trans (hn 14 (by decide) (by decide))) (by decide) (jfr_1 (by simp [iv]) (by simp [iv])) ⟨Nat.le_of_ble_eq_true rfl, Nat.le_of_ble_eq_true rfl⟩ ?_
  refine j_dup dX4_init_19 rfl ?_
  refine j_callI (c1_init (k := 14) jup_s (jup_n (by decide) ((ah2 15 (by omega)).trans (hn 15 (by decide) (by decide)))) (jup_n (by decide) ((ah2 16 (by omega)).trans (hn 16 (by decide) (by decide)))) (jup_n (by decide) ((ah2 17 (by omega)).trans (hn 17 (by decide) (by decide)))) (jup_n (by decide) ((ah2 18 (by omega)).trans (hn 18 (by decide) (by decide)))) (jup_n (by decide) ((ah2 19 (by omega)).trans (hn 19 (by decide) (by decide)))) (jup_n (by decide) ((ah2 20 (by omega)).trans (hn 20 (by decide) (by decide))))) dX4_init_20 jc_X4_9 jmI_X1_init rfl rfl rfl rfl rfl (by decide) (jfr_of (by decide +kernel) (by decide +kernel)) (Nat.le_of_ble_eq_true rfl) ⟨Nat.le_of_ble_eq_true rfl, Nat.le_of_ble_eq_true rfl⟩ ⟨Nat.le_of_ble_eq_true rfl, Nat.le_of_ble_eq_true rfl⟩ (fun r h3 hp9 => ?_)
  obtain ⟨rfl, g14, xh3⟩ := hp9
  have sh3 : ∀ j, (j < 14 ∨ 21 ≤ j) → h3 j = h2 j := fun j hj => (xh3 j (by omega)).trans (jup_n (by omega) rfl)
  refine j_putfieldF (fs' := [.ref 1, .ref 14, .null, iv 0, .null, iv 0, .null, .null, .null, .null, iv 0, iv 0, iv 0]) dX4_init_23 jf_X4_16 (fun q hq => by cases hq; exact ⟨rfl, rfl, rfl⟩) rfl (jHold_obj _ _) (fun k9 q9 => by cases q9; rw [g14.1]; exact fun z => by cases z) ((sh3 0 (by omega)).trans kh2) (Nat.le_of_ble_eq_true rfl) rfl ?_
  refine J.gen (fun h4 eh4 => ?_)
  have kh4 : h4 0 = some (jO 4 [.ref 1, .ref 14, .null, iv 0, .null, iv 0, .null, .null, .null, .null, iv 0, iv 0, iv 0]) := by rw [eh4]; exact jup_s
  have th4 : ∀ j, 0 < j → (j < 14 ∨ 21 ≤ j) → h4 j = h2 j := fun j j0 j1 => by rw [eh4]; exact (jup_n (by omega) rfl).trans (sh3 j j1)
  have ah4 : ∀ j, 0 < j ∧ (j < 1 ∨ 8 ≤ j) ∧ (j < 14 ∨ 21 ≤ j) → h4 j = h j := fun j hj => (th4 j (by omega) (by omega)).trans (ah2 j (by omega))
  have g1_h4 : jOb sF 1 kF0 h4 := g1_h2.eq okF fun j j0 j1 => have j2 : j < 1 + 7 := j1; th4 j (by omega) (by omega)
  have g14_h4 : jOb sF 14 kF0 h4 := g14.eq okF fun j j0 j1 => by rw [eh4]; exact jup_n (by omega) rfl
  refine j_aload_n dX4_init_26 rfl rfl ?_
  refine j_new (k := 21) (ci := 1) (fs := [.null, .null, .null, .null, .null, .null, iv 0, iv 0, iv 0, iv 0, iv 0]) tyX1 dX4_init_27 (jw_mem 86 (by decide +kernel) (by decide +kernel)) (jw_mem 87 (by decide +kernel) (by decide +kernel)) (jw_mem 48 (by decide +kernel) (by decide +kernel)) rfl tyX1_ok (fun j hj => match j, hj with | 0, _ => rfl | 1, _ => rfl | 2, _ => rfl | 3, _ => rfl | 4, _ => rfl | 5, _ => rfl | 6, _ => rfl | 7, _ => rfl | 8, _ => rfl | 9, _ => rfl | 10, _ => rfl | n9 + 11, hj => absurd hj (by omega)) (jz0_of rfl) ((ah4 21 (by omega)).trans (hn 21 (by decide) (by decide))) (by decide) (jfr_1 (by simp [iv]) (by simp [iv])) ⟨Nat.le_of_ble_eq_true rfl, Nat.le_of_ble_eq_true rfl⟩ ?_
  refine j_dup dX4_init_30 rfl ?_
  refine j_callI (c1_init (k := 21) jup_s (jup_n (by decide) ((ah4 22 (by omega)).trans (hn 22 (by decide) (by decide)))) (jup_n (by decide) ((ah4 23 (by omega)).trans (hn 23 (by decide) (by decide)))) (jup_n (by decide) ((ah4 24 (by omega)).trans (hn 24 (by decide) (by decide)))) (jup_n (by decide) ((ah4 25 (by omega)).trans (hn 25 (by decide) (by decide)))) (jup_n (by decide) ((ah4 26 (by omega)).trans (hn 26 (by decide) (by decide)))) (jup_n (by decide) ((ah4 27 (by omega)).trans (hn 27 (by decide) (by decide))))) dX4_init_31 jc_X4_9 jmI_X1_init rfl rfl rfl rfl rfl (by decide) (jfr_of (by decide +kernel) (by decide +kernel)) (Nat.le_of_ble_eq_true rfl) ⟨Nat.le_of_ble_eq_true rfl, Nat.le_of_ble_eq_true rfl⟩ ⟨Nat.le_of_ble_eq_true rfl, Nat.le_of_ble_eq_true rfl⟩ (fun r h5 hp9 => ?_)
  obtain ⟨rfl, g21, xh5⟩ := hp9
  have sh5 : ∀ j, (j < 21 ∨ 28 ≤ j) → h5 j = h4 j := fun j hj => (xh5 j (by omega)).trans (jup_n (by omega) rfl)
  refine j_putfieldF (fs' := [.ref 1, .ref 14, .ref 21, iv 0, .null, iv 0, .null, .null, .null, .null, iv 0, iv 0, iv 0]) dX4_init_34 jf_X4_19 (fun q hq => by cases hq; exact ⟨rfl, rfl, rfl⟩) rfl (jHold_obj _ _) (fun k9 q9 => by cases q9; rw [g21.1]; exact fun z => by cases z) ((sh5 0 (by omega)).trans kh4) (Nat.le_of_ble_eq_true rfl) rfl ?_
  refine J.gen (fun h6 eh6 => ?_)
  have kh6 : h6 0 = some (jO 4 [.ref 1, .ref 14, .ref 21, iv 0, .null, iv 0, .null, .null, .null, .null, iv 0, iv 0, iv 0]) := by rw [eh6]; exact jup_s
  have th6 : ∀ j, 0 < j → (j < 21 ∨ 28 ≤ j) → h6 j = h4 j := fun j j0 j1 => by rw [eh6]; exact (jup_n (by omega) rfl).trans (sh5 j j1)
  have ah6 : ∀ j, 0 < j ∧ (j < 1 ∨ 8 ≤ j) ∧ (j < 14 ∨ 21 ≤ j) ∧ (j < 21 ∨ 28 ≤ j) → h6 j = h j := fun j hj => (th6 j (by omega) (by omega)).trans (ah4 j (by omega))
  have g1_h6 : jOb sF 1 kF0 h6 := g1_h4.eq okF fun j j0 j1 => have j2 : j < 1 + 7 := j1; th6 j (by omega) (by omega)
  have g14_h6 : jOb sF 14 kF0 h6 := g14_h4.eq okF fun j j0 j1 => have j2 : j < 14 + 7 := j1; th6 j (by omega) (by omega)
  have g21_h6 : jOb sF 21 kF0 h6 := g21.eq okF fun j j0 j1 => by rw [eh6]; exact jup_n (by omega) rfl
  refine j_aload_n dX4_init_37 rfl rfl ?_
  refine j_iconst dX4_init_38 ?_
  refine j_putI (fs' := [.ref 1, .ref 14, .ref 21, iv (0), .null, iv 0, .null, .null, .null, .null, iv 0, iv 0, iv 0]) dX4_init_39 jf_X4_22 (fun q hq => by cases hq; exact ⟨rfl, rfl⟩) (jHold_bool (.inl rfl)) kh6 (Nat.le_of_ble_eq_true rfl) rfl ?_
  refine J.gen (fun h7 eh7 => ?_)
  have kh7 : h7 0 = some (jO 4 [.ref 1, .ref 14, .ref 21, iv (0), .null, iv 0, .null, .null, .null, .null, iv 0, iv 0, iv 0]) := by rw [eh7]; exact jup_s
  have th7 : ∀ j, 0 < j → True → h7 j = h6 j := fun j j0 _ => by rw [eh7]; exact jup_n (by omega) rfl
  have ah7 : ∀ j, 0 < j ∧ (j < 1 ∨ 8 ≤ j) ∧ (j < 14 ∨ 21 ≤ j) ∧ (j < 21 ∨ 28 ≤ j) → h7 j = h j := fun j hj => (th7 j (by omega) trivial).trans (ah6 j (by omega))
  have g1_h7 : jOb sF 1 kF0 h7 := g1_h6.eq okF fun j j0 j1 => th7 j (by omega) trivial
  have g14_h7 : jOb sF 14 kF0 h7 := g14_h6.eq okF fun j j0 j1 => th7 j (by omega) trivial
  have g21_h7 : jOb sF 21 kF0 h7 := g21_h6.eq okF fun j j0 j1 => th7 j (by omega) trivial
  refine j_aload_n dX4_init_42 rfl rfl ?_
  refine j_bipush dX4_init_43 (by decide +kernel) ?_
  refine j_anewarrayA (k := 36) (n := 8) (g := fun _ => none) (fun _ _ _ q => q) rfl dX4_init_45 (jw_mem 86 (by decide +kernel) (by decide +kernel)) (by decide) ((ah7 36 (by omega)).trans (hn 36 (by decide) (by decide))) (by decide) (jfr_1 (by simp [iv]) (by simp [iv])) ⟨Nat.le_of_ble_eq_true rfl, Nat.le_of_ble_eq_true rfl⟩ ?_
  refine j_putfieldF (fs' := [.ref 1, .ref 14, .ref 21, iv (0), .ref 36, iv 0, .null, .null, .null, .null, iv 0, iv 0, iv 0]) dX4_init_48 jf_X4_26 (fun q hq => by cases hq; exact ⟨rfl, rfl, rfl⟩) rfl (jHold_arr _ _) (fun k9 q9 => by cases q9; rw [jup_s]; exact fun z => by cases z) (jup_n (by decide) kh7) (Nat.le_of_ble_eq_true rfl) rfl ?_
  refine J.gen (fun h8 eh8 => ?_)
  have kh8 : h8 0 = some (jO 4 [.ref 1, .ref 14, .ref 21, iv (0), .ref 36, iv 0, .null, .null, .null, .null, iv 0, iv 0, iv 0]) := by rw [eh8]; exact jup_s
  have th8 : ∀ j, 0 < j → (j < 36 ∨ 37 ≤ j) → h8 j = h7 j := fun j j0 j1 => by rw [eh8]; exact jup_n (by omega) (jup_n (by omega) rfl)
  have ah8 : ∀ j, 0 < j ∧ (j < 1 ∨ 8 ≤ j) ∧ (j < 14 ∨ 21 ≤ j) ∧ (j < 21 ∨ 28 ≤ j) ∧ (j < 36 ∨ 37 ≤ j) → h8 j = h j := fun j hj => (th8 j (by omega) (by omega)).trans (ah7 j (by omega))
  have g1_h8 : jOb sF 1 kF0 h8 := g1_h7.eq okF fun j j0 j1 => have j2 : j < 1 + 7 := j1; th8 j (by omega) (by omega)
  have g14_h8 : jOb sF 14 kF0 h8 := g14_h7.eq okF fun j j0 j1 => have j2 : j < 14 + 7 := j1; th8 j (by omega) (by omega)
  have g21_h8 : jOb sF 21 kF0 h8 := g21_h7.eq okF fun j j0 j1 => have j2 : j < 21 + 7 := j1; th8 j (by omega) (by omega)
  have qh8 : h8 36 = some (jQ 8 (fun _ => none)) := by rw [eh8]; exact jup_n (by decide) jup_s
  refine j_aload_n dX4_init_51 rfl rfl ?_
  refine j_iconst dX4_init_52 ?_
  refine j_putI (fs' := [.ref 1, .ref 14, .ref 21, iv (0), .ref 36, iv (0), .null, .null, .null, .null, iv 0, iv 0, iv 0]) dX4_init_53 jf_X4_30 (fun q hq => by cases hq; exact ⟨rfl, rfl⟩) (jHold_int _) kh8 (Nat.le_of_ble_eq_true rfl) rfl ?_
  refine J.gen (fun h9 eh9 => ?_)
  have kh9 : h9 0 = some (jO 4 [.ref 1, .ref 14, .ref 21, iv (0), .ref 36, iv (0), .null, .null, .null, .null, iv 0, iv 0, iv 0]) := by rw [eh9]; exact jup_s
  have th9 : ∀ j, 0 < j → True → h9 j = h8 j := fun j j0 _ => by rw [eh9]; exact jup_n (by omega) rfl
  have ah9 : ∀ j, 0 < j ∧ (j < 1 ∨ 8 ≤ j) ∧ (j < 14 ∨ 21 ≤ j) ∧ (j < 21 ∨ 28 ≤ j) ∧ (j < 36 ∨ 37 ≤ j) → h9 j = h j := fun j hj => (th9 j (by omega) trivial).trans (ah8 j (by omega))
  have g1_h9 : jOb sF 1 kF0 h9 := g1_h8.eq okF fun j j0 j1 => th9 j (by omega) trivial
  have g14_h9 : jOb sF 14 kF0 h9 := g14_h8.eq okF fun j j0 j1 => th9 j (by omega) trivial
  have g21_h9 : jOb sF 21 kF0 h9 := g21_h8.eq okF fun j j0 j1 => th9 j (by omega) trivial
  have qh9 : h9 36 = some (jQ 8 (fun _ => none)) := (th9 36 (by decide) trivial).trans qh8
  refine j_aload_n dX4_init_56 rfl rfl ?_
  refine j_new (k := 8) (ci := 0) (fs := [.null, .null]) tyX0 dX4_init_57 (jw_mem 135 (by decide +kernel) (by decide +kernel)) (jw_mem 136 (by decide +kernel) (by decide +kernel)) (jw_mem 49 (by decide +kernel) (by decide +kernel)) rfl tyX0_ok (fun j hj => match j, hj with | 0, _ => rfl | 1, _ => rfl | n9 + 2, hj => absurd hj (by omega)) (jz0_of rfl) ((ah9 8 (by omega)).trans (hn 8 (by decide) (by decide))) (by decide) (jfr_1 (by simp [iv]) (by simp [iv])) ⟨Nat.le_of_ble_eq_true rfl, Nat.le_of_ble_eq_true rfl⟩ ?_
  refine j_dup dX4_init_60 rfl ?_
  refine j_callIO (c0_init (k := 8) jup_s (jup_n (by decide) ((ah9 9 (by omega)).trans (hn 9 (by decide) (by decide)))) (jup_n (by decide) ((ah9 10 (by omega)).trans (hn 10 (by decide) (by decide))))) dX4_init_61 (show (36, "FamilyOaks$Elders") ∈ jNst by decide) rfl rfl ⟨⟨by decide +kernel, by decide +kernel⟩, by decide +kernel⟩ jmI_X0_init rfl rfl rfl rfl rfl (by decide) (jfr_of (by decide +kernel) (by decide +kernel)) (Nat.le_of_ble_eq_true rfl) ⟨Nat.le_of_ble_eq_true rfl, Nat.le_of_ble_eq_true rfl⟩ ⟨Nat.le_of_ble_eq_true rfl, Nat.le_of_ble_eq_true rfl⟩ (fun r h10 hp9 => ?_)
  obtain ⟨rfl, g8, xh10⟩ := hp9
  have sh10 : ∀ j, (j < 8 ∨ 11 ≤ j) → h10 j = h9 j := fun j hj => (xh10 j (by omega)).trans (jup_n (by omega) rfl)
  refine j_putfieldF (fs' := [.ref 1, .ref 14, .ref 21, iv (0), .ref 36, iv (0), .ref 8, .null, .null, .null, iv 0, iv 0, iv 0]) dX4_init_64 jf_X4_37 (fun q hq => by cases hq; exact ⟨rfl, rfl, rfl⟩) rfl (jHold_obj _ _) (fun k9 q9 => by cases q9; rw [g8.1]; exact fun z => by cases z) ((sh10 0 (by omega)).trans kh9) (Nat.le_of_ble_eq_true rfl) rfl ?_
  refine J.gen (fun h11 eh11 => ?_)
  have kh11 : h11 0 = some (jO 4 [.ref 1, .ref 14, .ref 21, iv (0), .ref 36, iv (0), .ref 8, .null, .null, .null, iv 0, iv 0, iv 0]) := by rw [eh11]; exact jup_s
  have th11 : ∀ j, 0 < j → (j < 8 ∨ 11 ≤ j) → h11 j = h9 j := fun j j0 j1 => by rw [eh11]; exact (jup_n (by omega) rfl).trans (sh10 j j1)
  have ah11 : ∀ j, 0 < j ∧ (j < 1 ∨ 8 ≤ j) ∧ (j < 14 ∨ 21 ≤ j) ∧ (j < 21 ∨ 28 ≤ j) ∧ (j < 36 ∨ 37 ≤ j) ∧ (j < 8 ∨ 11 ≤ j) → h11 j = h j := fun j hj => (th11 j (by omega) (by omega)).trans (ah9 j (by omega))
  have g1_h11 : jOb sF 1 kF0 h11 := g1_h9.eq okF fun j j0 j1 => have j2 : j < 1 + 7 := j1; th11 j (by omega) (by omega)
  have g14_h11 : jOb sF 14 kF0 h11 := g14_h9.eq okF fun j j0 j1 => have j2 : j < 14 + 7 := j1; th11 j (by omega) (by omega)
  have g21_h11 : jOb sF 21 kF0 h11 := g21_h9.eq okF fun j j0 j1 => have j2 : j < 21 + 7 := j1; th11 j (by omega) (by omega)
  have g8_h11 : jOb sE 8 (fun _ _ => 0) h11 := g8.eq okE fun j j0 j1 => by rw [eh11]; exact jup_n (by omega) rfl
  have qh11 : h11 36 = some (jQ 8 (fun _ => none)) := (th11 36 (by decide) (by decide)).trans qh9
  refine j_aload_n dX4_init_67 rfl rfl ?_
  refine j_new (k := 11) (ci := 2) (fs := [.null, .null]) tyX2 dX4_init_68 (jw_mem 148 (by decide +kernel) (by decide +kernel)) (jw_mem 149 (by decide +kernel) (by decide +kernel)) (jw_mem 50 (by decide +kernel) (by decide +kernel)) rfl tyX2_ok (fun j hj => match j, hj with | 0, _ => rfl | 1, _ => rfl | n9 + 2, hj => absurd hj (by omega)) (jz0_of rfl) ((ah11 11 (by omega)).trans (hn 11 (by decide) (by decide))) (by decide) (jfr_1 (by simp [iv]) (by simp [iv])) ⟨Nat.le_of_ble_eq_true rfl, Nat.le_of_ble_eq_true rfl⟩ ?_
  refine j_dup dX4_init_71 rfl ?_
  refine j_callIO (c2_init (k := 11) jup_s (jup_n (by decide) ((ah11 12 (by omega)).trans (hn 12 (by decide) (by decide)))) (jup_n (by decide) ((ah11 13 (by omega)).trans (hn 13 (by decide) (by decide))))) dX4_init_72 (show (43, "FamilyOaks$Houses") ∈ jNst by decide) rfl rfl ⟨⟨by decide +kernel, by decide +kernel⟩, by decide +kernel⟩ jmI_X2_init rfl rfl rfl rfl rfl (by decide) (jfr_of (by decide +kernel) (by decide +kernel)) (Nat.le_of_ble_eq_true rfl) ⟨Nat.le_of_ble_eq_true rfl, Nat.le_of_ble_eq_true rfl⟩ ⟨Nat.le_of_ble_eq_true rfl, Nat.le_of_ble_eq_true rfl⟩ (fun r h12 hp9 => ?_)
  obtain ⟨rfl, g11, xh12⟩ := hp9
  have sh12 : ∀ j, (j < 11 ∨ 14 ≤ j) → h12 j = h11 j := fun j hj => (xh12 j (by omega)).trans (jup_n (by omega) rfl)
  refine j_putfieldF (fs' := [.ref 1, .ref 14, .ref 21, iv (0), .ref 36, iv (0), .ref 8, .ref 11, .null, .null, iv 0, iv 0, iv 0]) dX4_init_75 jf_X4_44 (fun q hq => by cases hq; exact ⟨rfl, rfl, rfl⟩) rfl (jHold_obj _ _) (fun k9 q9 => by cases q9; rw [g11.1]; exact fun z => by cases z) ((sh12 0 (by omega)).trans kh11) (Nat.le_of_ble_eq_true rfl) rfl ?_
  refine J.gen (fun h13 eh13 => ?_)
  have kh13 : h13 0 = some (jO 4 [.ref 1, .ref 14, .ref 21, iv (0), .ref 36, iv (0), .ref 8, .ref 11, .null, .null, iv 0, iv 0, iv 0]) := by rw [eh13]; exact jup_s
  have th13 : ∀ j, 0 < j → (j < 11 ∨ 14 ≤ j) → h13 j = h11 j := fun j j0 j1 => by rw [eh13]; exact (jup_n (by omega) rfl).trans (sh12 j j1)
  have ah13 : ∀ j, 0 < j ∧ (j < 1 ∨ 8 ≤ j) ∧ (j < 14 ∨ 21 ≤ j) ∧ (j < 21 ∨ 28 ≤ j) ∧ (j < 36 ∨ 37 ≤ j) ∧ (j < 8 ∨ 11 ≤ j) ∧ (j < 11 ∨ 14 ≤ j) → h13 j = h j := fun j hj => (th13 j (by omega) (by omega)).trans (ah11 j (by omega))
  have g1_h13 : jOb sF 1 kF0 h13 := g1_h11.eq okF fun j j0 j1 => have j2 : j < 1 + 7 := j1; th13 j (by omega) (by omega)
  have g14_h13 : jOb sF 14 kF0 h13 := g14_h11.eq okF fun j j0 j1 => have j2 : j < 14 + 7 := j1; th13 j (by omega) (by omega)
  have g21_h13 : jOb sF 21 kF0 h13 := g21_h11.eq okF fun j j0 j1 => have j2 : j < 21 + 7 := j1; th13 j (by omega) (by omega)
  have g8_h13 : jOb sE 8 (fun _ _ => 0) h13 := g8_h11.eq okE fun j j0 j1 => have j2 : j < 8 + 3 := j1; th13 j (by omega) (by omega)
  have g11_h13 : jOb sH 11 (fun _ _ => 0) h13 := g11.eq okH fun j j0 j1 => by rw [eh13]; exact jup_n (by omega) rfl
  have qh13 : h13 36 = some (jQ 8 (fun _ => none)) := (th13 36 (by decide) (by decide)).trans qh11
  refine j_aload_n dX4_init_78 rfl rfl ?_
  refine j_new (k := 28) (ci := 3) (fs := [.null, .null, .null, .null, iv 0, iv 0, iv 0]) tyX3 dX4_init_79 (jw_mem 161 (by decide +kernel) (by decide +kernel)) (jw_mem 162 (by decide +kernel) (by decide +kernel)) (jw_mem 51 (by decide +kernel) (by decide +kernel)) rfl tyX3_ok (fun j hj => match j, hj with | 0, _ => rfl | 1, _ => rfl | 2, _ => rfl | 3, _ => rfl | 4, _ => rfl | 5, _ => rfl | 6, _ => rfl | n9 + 7, hj => absurd hj (by omega)) (jz0_of rfl) ((ah13 28 (by omega)).trans (hn 28 (by decide) (by decide))) (by decide) (jfr_1 (by simp [iv]) (by simp [iv])) ⟨Nat.le_of_ble_eq_true rfl, Nat.le_of_ble_eq_true rfl⟩ ?_
  refine j_dup dX4_init_82 rfl ?_
  refine j_callIO (c3_init (k := 28) jup_s (jup_n (by decide) ((ah13 29 (by omega)).trans (hn 29 (by decide) (by decide)))) (jup_n (by decide) ((ah13 30 (by omega)).trans (hn 30 (by decide) (by decide)))) (jup_n (by decide) ((ah13 31 (by omega)).trans (hn 31 (by decide) (by decide)))) (jup_n (by decide) ((ah13 32 (by omega)).trans (hn 32 (by decide) (by decide))))) dX4_init_83 (show (50, "FamilyOaks$Input") ∈ jNst by decide) rfl rfl ⟨⟨by decide +kernel, by decide +kernel⟩, by decide +kernel⟩ jmI_X3_init rfl rfl rfl rfl rfl (by decide) (jfr_of (by decide +kernel) (by decide +kernel)) (Nat.le_of_ble_eq_true rfl) ⟨Nat.le_of_ble_eq_true rfl, Nat.le_of_ble_eq_true rfl⟩ ⟨Nat.le_of_ble_eq_true rfl, Nat.le_of_ble_eq_true rfl⟩ (fun r h14 hp9 => ?_)
  obtain ⟨rfl, g28, xh14⟩ := hp9
  have sh14 : ∀ j, (j < 28 ∨ 33 ≤ j) → h14 j = h13 j := fun j hj => (xh14 j (by omega)).trans (jup_n (by omega) rfl)
  refine j_putfieldF (fs' := [.ref 1, .ref 14, .ref 21, iv (0), .ref 36, iv (0), .ref 8, .ref 11, .ref 28, .null, iv 0, iv 0, iv 0]) dX4_init_86 jf_X4_51 (fun q hq => by cases hq; exact ⟨rfl, rfl, rfl⟩) rfl (jHold_obj _ _) (fun k9 q9 => by cases q9; rw [g28.1]; exact fun z => by cases z) ((sh14 0 (by omega)).trans kh13) (Nat.le_of_ble_eq_true rfl) rfl ?_
  refine J.gen (fun h15 eh15 => ?_)
  have kh15 : h15 0 = some (jO 4 [.ref 1, .ref 14, .ref 21, iv (0), .ref 36, iv (0), .ref 8, .ref 11, .ref 28, .null, iv 0, iv 0, iv 0]) := by rw [eh15]; exact jup_s
  have th15 : ∀ j, 0 < j → (j < 28 ∨ 33 ≤ j) → h15 j = h13 j := fun j j0 j1 => by rw [eh15]; exact (jup_n (by omega) rfl).trans (sh14 j j1)
  have ah15 : ∀ j, 0 < j ∧ (j < 1 ∨ 8 ≤ j) ∧ (j < 14 ∨ 21 ≤ j) ∧ (j < 21 ∨ 28 ≤ j) ∧ (j < 36 ∨ 37 ≤ j) ∧ (j < 8 ∨ 11 ≤ j) ∧ (j < 11 ∨ 14 ≤ j) ∧ (j < 28 ∨ 33 ≤ j) → h15 j = h j := fun j hj => (th15 j (by omega) (by omega)).trans (ah13 j (by omega))
  have g1_h15 : jOb sF 1 kF0 h15 := g1_h13.eq okF fun j j0 j1 => have j2 : j < 1 + 7 := j1; th15 j (by omega) (by omega)
  have g14_h15 : jOb sF 14 kF0 h15 := g14_h13.eq okF fun j j0 j1 => have j2 : j < 14 + 7 := j1; th15 j (by omega) (by omega)
  have g21_h15 : jOb sF 21 kF0 h15 := g21_h13.eq okF fun j j0 j1 => have j2 : j < 21 + 7 := j1; th15 j (by omega) (by omega)
  have g8_h15 : jOb sE 8 (fun _ _ => 0) h15 := g8_h13.eq okE fun j j0 j1 => have j2 : j < 8 + 3 := j1; th15 j (by omega) (by omega)
  have g11_h15 : jOb sH 11 (fun _ _ => 0) h15 := g11_h13.eq okH fun j j0 j1 => have j2 : j < 11 + 3 := j1; th15 j (by omega) (by omega)
  have g28_h15 : jOb sI 28 (fun _ _ => 0) h15 := g28.eq okI fun j j0 j1 => by rw [eh15]; exact jup_n (by omega) rfl
  have qh15 : h15 36 = some (jQ 8 (fun _ => none)) := (th15 36 (by decide) (by decide)).trans qh13
  refine j_aload_n dX4_init_89 rfl rfl ?_
  refine j_new (k := 33) (ci := 6) (fs := [.null, iv 0, iv 0, iv 0]) tyJ4 dX4_init_90 (jw_mem 192 (by decide +kernel) (by decide +kernel)) (jw_mem 193 (by decide +kernel) (by decide +kernel)) (jw_mem 53 (by decide +kernel) (by decide +kernel)) rfl tyJ4_ok (fun j hj => match j, hj with | 0, _ => rfl | 1, _ => rfl | 2, _ => rfl | 3, _ => rfl | n9 + 4, hj => absurd hj (by omega)) (jz0_of rfl) ((ah15 33 (by omega)).trans (hn 33 (by decide) (by decide))) (by decide) (jfr_1 (by simp [iv]) (by simp [iv])) ⟨Nat.le_of_ble_eq_true rfl, Nat.le_of_ble_eq_true rfl⟩ ?_
  refine j_dup dX4_init_93 rfl ?_
  refine j_callI (cb4_init (k := 33) jup_s (jup_n (by decide) ((ah15 34 (by omega)).trans (hn 34 (by decide) (by decide)))) (jup_n (by decide) ((ah15 35 (by omega)).trans (hn 35 (by decide) (by decide))))) dX4_init_94 jc_X4_57 jmI_J4_init_da8c8 rfl rfl rfl rfl rfl (by decide) (jfr_of (by decide +kernel) (by decide +kernel)) (Nat.le_of_ble_eq_true rfl) ⟨Nat.le_of_ble_eq_true rfl, Nat.le_of_ble_eq_true rfl⟩ ⟨Nat.le_of_ble_eq_true rfl, Nat.le_of_ble_eq_true rfl⟩ (fun r h16 hp9 => ?_)
  obtain ⟨rfl, g33, xh16⟩ := hp9
  have sh16 : ∀ j, (j < 33 ∨ 36 ≤ j) → h16 j = h15 j := fun j hj => (xh16 j (by omega)).trans (jup_n (by omega) rfl)
  refine j_putfieldF (fs' := [.ref 1, .ref 14, .ref 21, iv (0), .ref 36, iv (0), .ref 8, .ref 11, .ref 28, .ref 33, iv 0, iv 0, iv 0]) dX4_init_97 jf_X4_58 (fun q hq => by cases hq; exact ⟨rfl, rfl, rfl⟩) rfl (jHold_obj _ _) (fun k9 q9 => by cases q9; exact jSB_ne g33) ((sh16 0 (by omega)).trans kh15) (Nat.le_of_ble_eq_true rfl) rfl ?_
  refine J.gen (fun h17 eh17 => ?_)
  have kh17 : h17 0 = some (jO 4 [.ref 1, .ref 14, .ref 21, iv (0), .ref 36, iv (0), .ref 8, .ref 11, .ref 28, .ref 33, iv 0, iv 0, iv 0]) := by rw [eh17]; exact jup_s
  have th17 : ∀ j, 0 < j → (j < 33 ∨ 36 ≤ j) → h17 j = h15 j := fun j j0 j1 => by rw [eh17]; exact (jup_n (by omega) rfl).trans (sh16 j j1)
  have ah17 : ∀ j, 0 < j ∧ (j < 1 ∨ 8 ≤ j) ∧ (j < 14 ∨ 21 ≤ j) ∧ (j < 21 ∨ 28 ≤ j) ∧ (j < 36 ∨ 37 ≤ j) ∧ (j < 8 ∨ 11 ≤ j) ∧ (j < 11 ∨ 14 ≤ j) ∧ (j < 28 ∨ 33 ≤ j) ∧ (j < 33 ∨ 36 ≤ j) → h17 j = h j := fun j hj => (th17 j (by omega) (by omega)).trans (ah15 j (by omega))
  have g1_h17 : jOb sF 1 kF0 h17 := g1_h15.eq okF fun j j0 j1 => have j2 : j < 1 + 7 := j1; th17 j (by omega) (by omega)
  have g14_h17 : jOb sF 14 kF0 h17 := g14_h15.eq okF fun j j0 j1 => have j2 : j < 14 + 7 := j1; th17 j (by omega) (by omega)
  have g21_h17 : jOb sF 21 kF0 h17 := g21_h15.eq okF fun j j0 j1 => have j2 : j < 21 + 7 := j1; th17 j (by omega) (by omega)
  have g8_h17 : jOb sE 8 (fun _ _ => 0) h17 := g8_h15.eq okE fun j j0 j1 => have j2 : j < 8 + 3 := j1; th17 j (by omega) (by omega)
  have g11_h17 : jOb sH 11 (fun _ _ => 0) h17 := g11_h15.eq okH fun j j0 j1 => have j2 : j < 11 + 3 := j1; th17 j (by omega) (by omega)
  have g28_h17 : jOb sI 28 (fun _ _ => 0) h17 := g28_h15.eq okI fun j j0 j1 => have j2 : j < 28 + 5 := j1; th17 j (by omega) (by omega)
  have g33_h17 : jSB 33 0 (fun _ => 0) h17 := g33.eq fun j j0 j1 => by rw [eh17]; exact jup_n (by omega) rfl
  have qh17 : h17 36 = some (jQ 8 (fun _ => none)) := (th17 36 (by decide) (by decide)).trans qh15
  refine j_aload_n dX4_init_100 rfl rfl ?_
  refine j_iconst dX4_init_101 ?_
  refine j_putI (fs' := [.ref 1, .ref 14, .ref 21, iv (0), .ref 36, iv (0), .ref 8, .ref 11, .ref 28, .ref 33, iv (-1), iv 0, iv 0]) dX4_init_102 jf_X4_62 (fun q hq => by cases hq; exact ⟨rfl, rfl⟩) (jHold_int _) kh17 (Nat.le_of_ble_eq_true rfl) rfl ?_
  refine J.gen (fun h18 eh18 => ?_)
  have kh18 : h18 0 = some (jO 4 [.ref 1, .ref 14, .ref 21, iv (0), .ref 36, iv (0), .ref 8, .ref 11, .ref 28, .ref 33, iv (-1), iv 0, iv 0]) := by rw [eh18]; exact jup_s
  have th18 : ∀ j, 0 < j → True → h18 j = h17 j := fun j j0 _ => by rw [eh18]; exact jup_n (by omega) rfl
  have ah18 : ∀ j, 0 < j ∧ (j < 1 ∨ 8 ≤ j) ∧ (j < 14 ∨ 21 ≤ j) ∧ (j < 21 ∨ 28 ≤ j) ∧ (j < 36 ∨ 37 ≤ j) ∧ (j < 8 ∨ 11 ≤ j) ∧ (j < 11 ∨ 14 ≤ j) ∧ (j < 28 ∨ 33 ≤ j) ∧ (j < 33 ∨ 36 ≤ j) → h18 j = h j := fun j hj => (th18 j (by omega) trivial).trans (ah17 j (by omega))
  have g1_h18 : jOb sF 1 kF0 h18 := g1_h17.eq okF fun j j0 j1 => th18 j (by omega) trivial
  have g14_h18 : jOb sF 14 kF0 h18 := g14_h17.eq okF fun j j0 j1 => th18 j (by omega) trivial
  have g21_h18 : jOb sF 21 kF0 h18 := g21_h17.eq okF fun j j0 j1 => th18 j (by omega) trivial
  have g8_h18 : jOb sE 8 (fun _ _ => 0) h18 := g8_h17.eq okE fun j j0 j1 => th18 j (by omega) trivial
  have g11_h18 : jOb sH 11 (fun _ _ => 0) h18 := g11_h17.eq okH fun j j0 j1 => th18 j (by omega) trivial
  have g28_h18 : jOb sI 28 (fun _ _ => 0) h18 := g28_h17.eq okI fun j j0 j1 => th18 j (by omega) trivial
  have g33_h18 : jSB 33 0 (fun _ => 0) h18 := g33_h17.eq fun j j0 j1 => th18 j (by omega) trivial
  have qh18 : h18 36 = some (jQ 8 (fun _ => none)) := (th18 36 (by decide) trivial).trans qh17
  refine j_aload_n dX4_init_105 rfl rfl ?_
  refine j_iconst dX4_init_106 ?_
  refine j_putI (fs' := [.ref 1, .ref 14, .ref 21, iv (0), .ref 36, iv (0), .ref 8, .ref 11, .ref 28, .ref 33, iv (-1), iv (0), iv 0]) dX4_init_107 jf_X4_65 (fun q hq => by cases hq; exact ⟨rfl, rfl⟩) (jHold_int _) kh18 (Nat.le_of_ble_eq_true rfl) rfl ?_
  refine J.gen (fun h19 eh19 => ?_)
  have kh19 : h19 0 = some (jO 4 [.ref 1, .ref 14, .ref 21, iv (0), .ref 36, iv (0), .ref 8, .ref 11, .ref 28, .ref 33, iv (-1), iv (0), iv 0]) := by rw [eh19]; exact jup_s
  have th19 : ∀ j, 0 < j → True → h19 j = h18 j := fun j j0 _ => by rw [eh19]; exact jup_n (by omega) rfl
  have ah19 : ∀ j, 0 < j ∧ (j < 1 ∨ 8 ≤ j) ∧ (j < 14 ∨ 21 ≤ j) ∧ (j < 21 ∨ 28 ≤ j) ∧ (j < 36 ∨ 37 ≤ j) ∧ (j < 8 ∨ 11 ≤ j) ∧ (j < 11 ∨ 14 ≤ j) ∧ (j < 28 ∨ 33 ≤ j) ∧ (j < 33 ∨ 36 ≤ j) → h19 j = h j := fun j hj => (th19 j (by omega) trivial).trans (ah18 j (by omega))
  have g1_h19 : jOb sF 1 kF0 h19 := g1_h18.eq okF fun j j0 j1 => th19 j (by omega) trivial
  have g14_h19 : jOb sF 14 kF0 h19 := g14_h18.eq okF fun j j0 j1 => th19 j (by omega) trivial
  have g21_h19 : jOb sF 21 kF0 h19 := g21_h18.eq okF fun j j0 j1 => th19 j (by omega) trivial
  have g8_h19 : jOb sE 8 (fun _ _ => 0) h19 := g8_h18.eq okE fun j j0 j1 => th19 j (by omega) trivial
  have g11_h19 : jOb sH 11 (fun _ _ => 0) h19 := g11_h18.eq okH fun j j0 j1 => th19 j (by omega) trivial
  have g28_h19 : jOb sI 28 (fun _ _ => 0) h19 := g28_h18.eq okI fun j j0 j1 => th19 j (by omega) trivial
  have g33_h19 : jSB 33 0 (fun _ => 0) h19 := g33_h18.eq fun j j0 j1 => th19 j (by omega) trivial
  have qh19 : h19 36 = some (jQ 8 (fun _ => none)) := (th19 36 (by decide) trivial).trans qh18
  refine j_aload_n dX4_init_110 rfl rfl ?_
  refine j_iconst dX4_init_111 ?_
  refine j_putI (fs' := [.ref 1, .ref 14, .ref 21, iv (0), .ref 36, iv (0), .ref 8, .ref 11, .ref 28, .ref 33, iv (-1), iv (0), iv (0)]) dX4_init_112 jf_X4_68 (fun q hq => by cases hq; exact ⟨rfl, rfl⟩) (jHold_int _) kh19 (Nat.le_of_ble_eq_true rfl) rfl ?_
  refine J.gen (fun h20 eh20 => ?_)
  have kh20 : h20 0 = some (jO 4 [.ref 1, .ref 14, .ref 21, iv (0), .ref 36, iv (0), .ref 8, .ref 11, .ref 28, .ref 33, iv (-1), iv (0), iv (0)]) := by rw [eh20]; exact jup_s
  have th20 : ∀ j, 0 < j → True → h20 j = h19 j := fun j j0 _ => by rw [eh20]; exact jup_n (by omega) rfl
  have ah20 : ∀ j, 0 < j ∧ (j < 1 ∨ 8 ≤ j) ∧ (j < 14 ∨ 21 ≤ j) ∧ (j < 21 ∨ 28 ≤ j) ∧ (j < 36 ∨ 37 ≤ j) ∧ (j < 8 ∨ 11 ≤ j) ∧ (j < 11 ∨ 14 ≤ j) ∧ (j < 28 ∨ 33 ≤ j) ∧ (j < 33 ∨ 36 ≤ j) → h20 j = h j := fun j hj => (th20 j (by omega) trivial).trans (ah19 j (by omega))
  have g1_h20 : jOb sF 1 kF0 h20 := g1_h19.eq okF fun j j0 j1 => th20 j (by omega) trivial
  have g14_h20 : jOb sF 14 kF0 h20 := g14_h19.eq okF fun j j0 j1 => th20 j (by omega) trivial
  have g21_h20 : jOb sF 21 kF0 h20 := g21_h19.eq okF fun j j0 j1 => th20 j (by omega) trivial
  have g8_h20 : jOb sE 8 (fun _ _ => 0) h20 := g8_h19.eq okE fun j j0 j1 => th20 j (by omega) trivial
  have g11_h20 : jOb sH 11 (fun _ _ => 0) h20 := g11_h19.eq okH fun j j0 j1 => th20 j (by omega) trivial
  have g28_h20 : jOb sI 28 (fun _ _ => 0) h20 := g28_h19.eq okI fun j j0 j1 => th20 j (by omega) trivial
  have g33_h20 : jSB 33 0 (fun _ => 0) h20 := g33_h19.eq fun j j0 j1 => th20 j (by omega) trivial
  have qh20 : h20 36 = some (jQ 8 (fun _ => none)) := (th20 36 (by decide) trivial).trans qh19
  refine j_iconst dX4_init_115 ?_
  refine j_istore_n (L' := [(0, _), (1, _)]) dX4_init_116 rfl (by decide) rfl ?_
  refine j_iload_n dX4_init_117 rfl rfl ?_
  refine j_bipush dX4_init_118 (by decide +kernel) ?_
  refine j_icmp_ge (tgt := 142) dX4_init_120 (by decide) (by decide) (fun c1 => absurd c1 (by decide)) (fun _ => ?_)
  refine j_aload_n dX4_init_123 rfl rfl ?_
  refine j_getfield (v := .ref 36) dX4_init_124 jf_X4_26 kh20 rfl ?_
  refine j_iload_n dX4_init_127 rfl rfl ?_
  refine j_new (k := 40) (ci := 1) (fs := [.null, .null, .null, .null, .null, .null, iv 0, iv 0, iv 0, iv 0, iv 0]) tyX1 dX4_init_128 (jw_mem 86 (by decide +kernel) (by decide +kernel)) (jw_mem 87 (by decide +kernel) (by decide +kernel)) (jw_mem 48 (by decide +kernel) (by decide +kernel)) rfl tyX1_ok (fun j hj => match j, hj with | 0, _ => rfl | 1, _ => rfl | 2, _ => rfl | 3, _ => rfl | 4, _ => rfl | 5, _ => rfl | 6, _ => rfl | 7, _ => rfl | 8, _ => rfl | 9, _ => rfl | 10, _ => rfl | n9 + 11, hj => absurd hj (by omega)) (jz0_of rfl) ((ah20 40 (by omega)).trans (hn 40 (by decide) (by decide))) (by decide) (jfr_1 (by simp [iv]) (by simp [iv])) ⟨Nat.le_of_ble_eq_true rfl, Nat.le_of_ble_eq_true rfl⟩ ?_
  refine j_dup dX4_init_131 rfl ?_
  refine j_callI (c1_init (k := 40) jup_s (jup_n (by decide) ((ah20 41 (by omega)).trans (hn 41 (by decide) (by decide)))) (jup_n (by decide) ((ah20 42 (by omega)).trans (hn 42 (by decide) (by decide)))) (jup_n (by decide) ((ah20 43 (by omega)).trans (hn 43 (by decide) (by decide)))) (jup_n (by decide) ((ah20 44 (by omega)).trans (hn 44 (by decide) (by decide)))) (jup_n (by decide) ((ah20 45 (by omega)).trans (hn 45 (by decide) (by decide)))) (jup_n (by decide) ((ah20 46 (by omega)).trans (hn 46 (by decide) (by decide))))) dX4_init_132 jc_X4_9 jmI_X1_init rfl rfl rfl rfl rfl (by decide) (jfr_of (by decide +kernel) (by decide +kernel)) (Nat.le_of_ble_eq_true rfl) ⟨Nat.le_of_ble_eq_true rfl, Nat.le_of_ble_eq_true rfl⟩ ⟨Nat.le_of_ble_eq_true rfl, Nat.le_of_ble_eq_true rfl⟩ (fun r h21 hp9 => ?_)
  obtain ⟨rfl, g40, xh21⟩ := hp9
  have sh21 : ∀ j, (j < 40 ∨ 47 ≤ j) → h21 j = h20 j := fun j hj => (xh21 j (by omega)).trans (jup_n (by omega) rfl)
  show J mX4_initA _ _ _ 135 _ (.ref 40 :: iv 0 :: .ref 36 :: []) _ _ _
  refine j_aastore dX4_init_135 ((sh21 36 (by decide)).trans qh20) g40.1 ⟨by decide, by decide⟩ (by decide) ?_
  refine J.gen (fun h22 eh22 => ?_)
  have kh22 : h22 0 = some (jO 4 [.ref 1, .ref 14, .ref 21, iv (0), .ref 36, iv (0), .ref 8, .ref 11, .ref 28, .ref 33, iv (-1), iv (0), iv (0)]) := by rw [eh22]; exact (jup_n (by decide) rfl).trans ((sh21 0 (by omega)).trans kh20)
  have th22 : ∀ j, j ≠ 36 → (j < 40 ∨ 47 ≤ j) → h22 j = h20 j := fun j j0 j1 => by rw [eh22]; exact (jup_n j0 rfl).trans (sh21 j j1)
  have ah22 : ∀ j, 0 < j ∧ (j < 1 ∨ 8 ≤ j) ∧ (j < 14 ∨ 21 ≤ j) ∧ (j < 21 ∨ 28 ≤ j) ∧ (j < 36 ∨ 37 ≤ j) ∧ (j < 8 ∨ 11 ≤ j) ∧ (j < 11 ∨ 14 ≤ j) ∧ (j < 28 ∨ 33 ≤ j) ∧ (j < 33 ∨ 36 ≤ j) ∧ (j < 40 ∨ 47 ≤ j) → h22 j = h j := fun j hj => (th22 j (by omega) (by omega)).trans (ah20 j (by omega))
  have g1_h22 : jOb sF 1 kF0 h22 := g1_h20.eq okF fun j j0 j1 => have j2 : j < 1 + 7 := j1; th22 j (by omega) (by omega)
  have g14_h22 : jOb sF 14 kF0 h22 := g14_h20.eq okF fun j j0 j1 => have j2 : j < 14 + 7 := j1; th22 j (by omega) (by omega)
  have g21_h22 : jOb sF 21 kF0 h22 := g21_h20.eq okF fun j j0 j1 => have j2 : j < 21 + 7 := j1; th22 j (by omega) (by omega)
  have g8_h22 : jOb sE 8 (fun _ _ => 0) h22 := g8_h20.eq okE fun j j0 j1 => have j2 : j < 8 + 3 := j1; th22 j (by omega) (by omega)
  have g11_h22 : jOb sH 11 (fun _ _ => 0) h22 := g11_h20.eq okH fun j j0 j1 => have j2 : j < 11 + 3 := j1; th22 j (by omega) (by omega)
  have g28_h22 : jOb sI 28 (fun _ _ => 0) h22 := g28_h20.eq okI fun j j0 j1 => have j2 : j < 28 + 5 := j1; th22 j (by omega) (by omega)
  have g33_h22 : jSB 33 0 (fun _ => 0) h22 := g33_h20.eq fun j j0 j1 => th22 j (by omega) (by omega)
  have g40_h22 : jOb sF 40 kF0 h22 := g40.eq okF fun j j0 j1 => by rw [eh22]; exact jup_n (by omega) rfl
  have qh22 : h22 36 = some (jQ 8 (jqu (fun _ => none) 0 (some 40))) := by rw [eh22]; exact jup_s
  refine j_iinc (L' := [(0, _), (1, _)]) dX4_init_136 rfl (by decide) rfl ?_
  refine j_goto (tgt := 117) dX4_init_139 (by decide) ?_
  show J mX4_initA _ _ _ 117 [(0, .ref 0), (1, iv 1)] [] _ _ _
  refine j_iload_n dX4_init_117 rfl rfl ?_
  refine j_bipush dX4_init_118 (by decide +kernel) ?_
  refine j_icmp_ge (tgt := 142) dX4_init_120 (by decide) (by decide) (fun c1 => absurd c1 (by decide)) (fun _ => ?_)
  refine j_aload_n dX4_init_123 rfl rfl ?_
  refine j_getfield (v := .ref 36) dX4_init_124 jf_X4_26 kh22 rfl ?_
  refine j_iload_n dX4_init_127 rfl rfl ?_
  refine j_new (k := 50) (ci := 1) (fs := [.null, .null, .null, .null, .null, .null, iv 0, iv 0, iv 0, iv 0, iv 0]) tyX1 dX4_init_128 (jw_mem 86 (by decide +kernel) (by decide +kernel)) (jw_mem 87 (by decide +kernel) (by decide +kernel)) (jw_mem 48 (by decide +kernel) (by decide +kernel)) rfl tyX1_ok (fun j hj => match j, hj with | 0, _ => rfl | 1, _ => rfl | 2, _ => rfl | 3, _ => rfl | 4, _ => rfl | 5, _ => rfl | 6, _ => rfl | 7, _ => rfl | 8, _ => rfl | 9, _ => rfl | 10, _ => rfl | n9 + 11, hj => absurd hj (by omega)) (jz0_of rfl) ((ah22 50 (by omega)).trans (hn 50 (by decide) (by decide))) (by decide) (jfr_1 (by simp [iv]) (by simp [iv])) ⟨Nat.le_of_ble_eq_true rfl, Nat.le_of_ble_eq_true rfl⟩ ?_
  refine j_dup dX4_init_131 rfl ?_
  refine j_callI (c1_init (k := 50) jup_s (jup_n (by decide) ((ah22 51 (by omega)).trans (hn 51 (by decide) (by decide)))) (jup_n (by decide) ((ah22 52 (by omega)).trans (hn 52 (by decide) (by decide)))) (jup_n (by decide) ((ah22 53 (by omega)).trans (hn 53 (by decide) (by decide)))) (jup_n (by decide) ((ah22 54 (by omega)).trans (hn 54 (by decide) (by decide)))) (jup_n (by decide) ((ah22 55 (by omega)).trans (hn 55 (by decide) (by decide)))) (jup_n (by decide) ((ah22 56 (by omega)).trans (hn 56 (by decide) (by decide))))) dX4_init_132 jc_X4_9 jmI_X1_init rfl rfl rfl rfl rfl (by decide) (jfr_of (by decide +kernel) (by decide +kernel)) (Nat.le_of_ble_eq_true rfl) ⟨Nat.le_of_ble_eq_true rfl, Nat.le_of_ble_eq_true rfl⟩ ⟨Nat.le_of_ble_eq_true rfl, Nat.le_of_ble_eq_true rfl⟩ (fun r h23 hp9 => ?_)
  obtain ⟨rfl, g50, xh23⟩ := hp9
  have sh23 : ∀ j, (j < 50 ∨ 57 ≤ j) → h23 j = h22 j := fun j hj => (xh23 j (by omega)).trans (jup_n (by omega) rfl)
  show J mX4_initA _ _ _ 135 _ (.ref 50 :: iv 1 :: .ref 36 :: []) _ _ _
  refine j_aastore dX4_init_135 ((sh23 36 (by decide)).trans qh22) g50.1 ⟨by decide, by decide⟩ (by decide) ?_
  refine J.gen (fun h24 eh24 => ?_)
  have kh24 : h24 0 = some (jO 4 [.ref 1, .ref 14, .ref 21, iv (0), .ref 36, iv (0), .ref 8, .ref 11, .ref 28, .ref 33, iv (-1), iv (0), iv (0)]) := by rw [eh24]; exact (jup_n (by decide) rfl).trans ((sh23 0 (by omega)).trans kh22)
  have th24 : ∀ j, j ≠ 36 → (j < 50 ∨ 57 ≤ j) → h24 j = h22 j := fun j j0 j1 => by rw [eh24]; exact (jup_n j0 rfl).trans (sh23 j j1)
  have ah24 : ∀ j, 0 < j ∧ (j < 1 ∨ 8 ≤ j) ∧ (j < 14 ∨ 21 ≤ j) ∧ (j < 21 ∨ 28 ≤ j) ∧ (j < 36 ∨ 37 ≤ j) ∧ (j < 8 ∨ 11 ≤ j) ∧ (j < 11 ∨ 14 ≤ j) ∧ (j < 28 ∨ 33 ≤ j) ∧ (j < 33 ∨ 36 ≤ j) ∧ (j < 40 ∨ 47 ≤ j) ∧ (j < 50 ∨ 57 ≤ j) → h24 j = h j := fun j hj => (th24 j (by omega) (by omega)).trans (ah22 j (by omega))
  have g1_h24 : jOb sF 1 kF0 h24 := g1_h22.eq okF fun j j0 j1 => have j2 : j < 1 + 7 := j1; th24 j (by omega) (by omega)
  have g14_h24 : jOb sF 14 kF0 h24 := g14_h22.eq okF fun j j0 j1 => have j2 : j < 14 + 7 := j1; th24 j (by omega) (by omega)
  have g21_h24 : jOb sF 21 kF0 h24 := g21_h22.eq okF fun j j0 j1 => have j2 : j < 21 + 7 := j1; th24 j (by omega) (by omega)
  have g8_h24 : jOb sE 8 (fun _ _ => 0) h24 := g8_h22.eq okE fun j j0 j1 => have j2 : j < 8 + 3 := j1; th24 j (by omega) (by omega)
  have g11_h24 : jOb sH 11 (fun _ _ => 0) h24 := g11_h22.eq okH fun j j0 j1 => have j2 : j < 11 + 3 := j1; th24 j (by omega) (by omega)
  have g28_h24 : jOb sI 28 (fun _ _ => 0) h24 := g28_h22.eq okI fun j j0 j1 => have j2 : j < 28 + 5 := j1; th24 j (by omega) (by omega)
  have g33_h24 : jSB 33 0 (fun _ => 0) h24 := g33_h22.eq fun j j0 j1 => th24 j (by omega) (by omega)
  have g40_h24 : jOb sF 40 kF0 h24 := g40_h22.eq okF fun j j0 j1 => have j2 : j < 40 + 7 := j1; th24 j (by omega) (by omega)
  have g50_h24 : jOb sF 50 kF0 h24 := g50.eq okF fun j j0 j1 => by rw [eh24]; exact jup_n (by omega) rfl
  have qh24 : h24 36 = some (jQ 8 (jqu (jqu (fun _ => none) 0 (some 40)) 1 (some 50))) := by rw [eh24]; exact jup_s
  refine j_iinc (L' := [(0, _), (1, _)]) dX4_init_136 rfl (by decide) rfl ?_
  refine j_goto (tgt := 117) dX4_init_139 (by decide) ?_
  show J mX4_initA _ _ _ 117 [(0, .ref 0), (1, iv 2)] [] _ _ _
  refine j_iload_n dX4_init_117 rfl rfl ?_
  refine j_bipush dX4_init_118 (by decide +kernel) ?_
  refine j_icmp_ge (tgt := 142) dX4_init_120 (by decide) (by decide) (fun c1 => absurd c1 (by decide)) (fun _ => ?_)
  refine j_aload_n dX4_init_123 rfl rfl ?_
  refine j_getfield (v := .ref 36) dX4_init_124 jf_X4_26 kh24 rfl ?_
  refine j_iload_n dX4_init_127 rfl rfl ?_
  refine j_new (k := 60) (ci := 1) (fs := [.null, .null, .null, .null, .null, .null, iv 0, iv 0, iv 0, iv 0, iv 0]) tyX1 dX4_init_128 (jw_mem 86 (by decide +kernel) (by decide +kernel)) (jw_mem 87 (by decide +kernel) (by decide +kernel)) (jw_mem 48 (by decide +kernel) (by decide +kernel)) rfl tyX1_ok (fun j hj => match j, hj with | 0, _ => rfl | 1, _ => rfl | 2, _ => rfl | 3, _ => rfl | 4, _ => rfl | 5, _ => rfl | 6, _ => rfl | 7, _ => rfl | 8, _ => rfl | 9, _ => rfl | 10, _ => rfl | n9 + 11, hj => absurd hj (by omega)) (jz0_of rfl) ((ah24 60 (by omega)).trans (hn 60 (by decide) (by decide))) (by decide) (jfr_1 (by simp [iv]) (by simp [iv])) ⟨Nat.le_of_ble_eq_true rfl, Nat.le_of_ble_eq_true rfl⟩ ?_
  refine j_dup dX4_init_131 rfl ?_
  refine j_callI (c1_init (k := 60) jup_s (jup_n (by decide) ((ah24 61 (by omega)).trans (hn 61 (by decide) (by decide)))) (jup_n (by decide) ((ah24 62 (by omega)).trans (hn 62 (by decide) (by decide)))) (jup_n (by decide) ((ah24 63 (by omega)).trans (hn 63 (by decide) (by decide)))) (jup_n (by decide) ((ah24 64 (by omega)).trans (hn 64 (by decide) (by decide)))) (jup_n (by decide) ((ah24 65 (by omega)).trans (hn 65 (by decide) (by decide)))) (jup_n (by decide) ((ah24 66 (by omega)).trans (hn 66 (by decide) (by decide))))) dX4_init_132 jc_X4_9 jmI_X1_init rfl rfl rfl rfl rfl (by decide) (jfr_of (by decide +kernel) (by decide +kernel)) (Nat.le_of_ble_eq_true rfl) ⟨Nat.le_of_ble_eq_true rfl, Nat.le_of_ble_eq_true rfl⟩ ⟨Nat.le_of_ble_eq_true rfl, Nat.le_of_ble_eq_true rfl⟩ (fun r h25 hp9 => ?_)
  obtain ⟨rfl, g60, xh25⟩ := hp9
  have sh25 : ∀ j, (j < 60 ∨ 67 ≤ j) → h25 j = h24 j := fun j hj => (xh25 j (by omega)).trans (jup_n (by omega) rfl)
  show J mX4_initA _ _ _ 135 _ (.ref 60 :: iv 2 :: .ref 36 :: []) _ _ _
  refine j_aastore dX4_init_135 ((sh25 36 (by decide)).trans qh24) g60.1 ⟨by decide, by decide⟩ (by decide) ?_
  refine J.gen (fun h26 eh26 => ?_)
  have kh26 : h26 0 = some (jO 4 [.ref 1, .ref 14, .ref 21, iv (0), .ref 36, iv (0), .ref 8, .ref 11, .ref 28, .ref 33, iv (-1), iv (0), iv (0)]) := by rw [eh26]; exact (jup_n (by decide) rfl).trans ((sh25 0 (by omega)).trans kh24)
  have th26 : ∀ j, j ≠ 36 → (j < 60 ∨ 67 ≤ j) → h26 j = h24 j := fun j j0 j1 => by rw [eh26]; exact (jup_n j0 rfl).trans (sh25 j j1)
  have ah26 : ∀ j, 0 < j ∧ (j < 1 ∨ 8 ≤ j) ∧ (j < 14 ∨ 21 ≤ j) ∧ (j < 21 ∨ 28 ≤ j) ∧ (j < 36 ∨ 37 ≤ j) ∧ (j < 8 ∨ 11 ≤ j) ∧ (j < 11 ∨ 14 ≤ j) ∧ (j < 28 ∨ 33 ≤ j) ∧ (j < 33 ∨ 36 ≤ j) ∧ (j < 40 ∨ 47 ≤ j) ∧ (j < 50 ∨ 57 ≤ j) ∧ (j < 60 ∨ 67 ≤ j) → h26 j = h j := fun j hj => (th26 j (by omega) (by omega)).trans (ah24 j (by omega))
  have g1_h26 : jOb sF 1 kF0 h26 := g1_h24.eq okF fun j j0 j1 => have j2 : j < 1 + 7 := j1; th26 j (by omega) (by omega)
  have g14_h26 : jOb sF 14 kF0 h26 := g14_h24.eq okF fun j j0 j1 => have j2 : j < 14 + 7 := j1; th26 j (by omega) (by omega)
  have g21_h26 : jOb sF 21 kF0 h26 := g21_h24.eq okF fun j j0 j1 => have j2 : j < 21 + 7 := j1; th26 j (by omega) (by omega)
  have g8_h26 : jOb sE 8 (fun _ _ => 0) h26 := g8_h24.eq okE fun j j0 j1 => have j2 : j < 8 + 3 := j1; th26 j (by omega) (by omega)
  have g11_h26 : jOb sH 11 (fun _ _ => 0) h26 := g11_h24.eq okH fun j j0 j1 => have j2 : j < 11 + 3 := j1; th26 j (by omega) (by omega)
  have g28_h26 : jOb sI 28 (fun _ _ => 0) h26 := g28_h24.eq okI fun j j0 j1 => have j2 : j < 28 + 5 := j1; th26 j (by omega) (by omega)
  have g33_h26 : jSB 33 0 (fun _ => 0) h26 := g33_h24.eq fun j j0 j1 => th26 j (by omega) (by omega)
  have g40_h26 : jOb sF 40 kF0 h26 := g40_h24.eq okF fun j j0 j1 => have j2 : j < 40 + 7 := j1; th26 j (by omega) (by omega)
  have g50_h26 : jOb sF 50 kF0 h26 := g50_h24.eq okF fun j j0 j1 => have j2 : j < 50 + 7 := j1; th26 j (by omega) (by omega)
  have g60_h26 : jOb sF 60 kF0 h26 := g60.eq okF fun j j0 j1 => by rw [eh26]; exact jup_n (by omega) rfl
  have qh26 : h26 36 = some (jQ 8 (jqu (jqu (jqu (fun _ => none) 0 (some 40)) 1 (some 50)) 2 (some 60))) := by rw [eh26]; exact jup_s
  refine j_iinc (L' := [(0, _), (1, _)]) dX4_init_136 rfl (by decide) rfl ?_
  refine j_goto (tgt := 117) dX4_init_139 (by decide) ?_
  show J mX4_initA _ _ _ 117 [(0, .ref 0), (1, iv 3)] [] _ _ _
  refine j_iload_n dX4_init_117 rfl rfl ?_
  refine j_bipush dX4_init_118 (by decide +kernel) ?_
  refine j_icmp_ge (tgt := 142) dX4_init_120 (by decide) (by decide) (fun c1 => absurd c1 (by decide)) (fun _ => ?_)
  refine j_aload_n dX4_init_123 rfl rfl ?_
  refine j_getfield (v := .ref 36) dX4_init_124 jf_X4_26 kh26 rfl ?_
  refine j_iload_n dX4_init_127 rfl rfl ?_
  refine j_new (k := 70) (ci := 1) (fs := [.null, .null, .null, .null, .null, .null, iv 0, iv 0, iv 0, iv 0, iv 0]) tyX1 dX4_init_128 (jw_mem 86 (by decide +kernel) (by decide +kernel)) (jw_mem 87 (by decide +kernel) (by decide +kernel)) (jw_mem 48 (by decide +kernel) (by decide +kernel)) rfl tyX1_ok (fun j hj => match j, hj with | 0, _ => rfl | 1, _ => rfl | 2, _ => rfl | 3, _ => rfl | 4, _ => rfl | 5, _ => rfl | 6, _ => rfl | 7, _ => rfl | 8, _ => rfl | 9, _ => rfl | 10, _ => rfl | n9 + 11, hj => absurd hj (by omega)) (jz0_of rfl) ((ah26 70 (by omega)).trans (hn 70 (by decide) (by decide))) (by decide) (jfr_1 (by simp [iv]) (by simp [iv])) ⟨Nat.le_of_ble_eq_true rfl, Nat.le_of_ble_eq_true rfl⟩ ?_
  refine j_dup dX4_init_131 rfl ?_
  refine j_callI (c1_init (k := 70) jup_s (jup_n (by decide) ((ah26 71 (by omega)).trans (hn 71 (by decide) (by decide)))) (jup_n (by decide) ((ah26 72 (by omega)).trans (hn 72 (by decide) (by decide)))) (jup_n (by decide) ((ah26 73 (by omega)).trans (hn 73 (by decide) (by decide)))) (jup_n (by decide) ((ah26 74 (by omega)).trans (hn 74 (by decide) (by decide)))) (jup_n (by decide) ((ah26 75 (by omega)).trans (hn 75 (by decide) (by decide)))) (jup_n (by decide) ((ah26 76 (by omega)).trans (hn 76 (by decide) (by decide))))) dX4_init_132 jc_X4_9 jmI_X1_init rfl rfl rfl rfl rfl (by decide) (jfr_of (by decide +kernel) (by decide +kernel)) (Nat.le_of_ble_eq_true rfl) ⟨Nat.le_of_ble_eq_true rfl, Nat.le_of_ble_eq_true rfl⟩ ⟨Nat.le_of_ble_eq_true rfl, Nat.le_of_ble_eq_true rfl⟩ (fun r h27 hp9 => ?_)
  obtain ⟨rfl, g70, xh27⟩ := hp9
  have sh27 : ∀ j, (j < 70 ∨ 77 ≤ j) → h27 j = h26 j := fun j hj => (xh27 j (by omega)).trans (jup_n (by omega) rfl)
  show J mX4_initA _ _ _ 135 _ (.ref 70 :: iv 3 :: .ref 36 :: []) _ _ _
  refine j_aastore dX4_init_135 ((sh27 36 (by decide)).trans qh26) g70.1 ⟨by decide, by decide⟩ (by decide) ?_
  refine J.gen (fun h28 eh28 => ?_)
  have kh28 : h28 0 = some (jO 4 [.ref 1, .ref 14, .ref 21, iv (0), .ref 36, iv (0), .ref 8, .ref 11, .ref 28, .ref 33, iv (-1), iv (0), iv (0)]) := by rw [eh28]; exact (jup_n (by decide) rfl).trans ((sh27 0 (by omega)).trans kh26)
  have th28 : ∀ j, j ≠ 36 → (j < 70 ∨ 77 ≤ j) → h28 j = h26 j := fun j j0 j1 => by rw [eh28]; exact (jup_n j0 rfl).trans (sh27 j j1)
  have ah28 : ∀ j, 0 < j ∧ (j < 1 ∨ 8 ≤ j) ∧ (j < 14 ∨ 21 ≤ j) ∧ (j < 21 ∨ 28 ≤ j) ∧ (j < 36 ∨ 37 ≤ j) ∧ (j < 8 ∨ 11 ≤ j) ∧ (j < 11 ∨ 14 ≤ j) ∧ (j < 28 ∨ 33 ≤ j) ∧ (j < 33 ∨ 36 ≤ j) ∧ (j < 40 ∨ 47 ≤ j) ∧ (j < 50 ∨ 57 ≤ j) ∧ (j < 60 ∨ 67 ≤ j) ∧ (j < 70 ∨ 77 ≤ j) → h28 j = h j := fun j hj => (th28 j (by omega) (by omega)).trans (ah26 j (by omega))
  have g1_h28 : jOb sF 1 kF0 h28 := g1_h26.eq okF fun j j0 j1 => have j2 : j < 1 + 7 := j1; th28 j (by omega) (by omega)
  have g14_h28 : jOb sF 14 kF0 h28 := g14_h26.eq okF fun j j0 j1 => have j2 : j < 14 + 7 := j1; th28 j (by omega) (by omega)
  have g21_h28 : jOb sF 21 kF0 h28 := g21_h26.eq okF fun j j0 j1 => have j2 : j < 21 + 7 := j1; th28 j (by omega) (by omega)
  have g8_h28 : jOb sE 8 (fun _ _ => 0) h28 := g8_h26.eq okE fun j j0 j1 => have j2 : j < 8 + 3 := j1; th28 j (by omega) (by omega)
  have g11_h28 : jOb sH 11 (fun _ _ => 0) h28 := g11_h26.eq okH fun j j0 j1 => have j2 : j < 11 + 3 := j1; th28 j (by omega) (by omega)
  have g28_h28 : jOb sI 28 (fun _ _ => 0) h28 := g28_h26.eq okI fun j j0 j1 => have j2 : j < 28 + 5 := j1; th28 j (by omega) (by omega)
  have g33_h28 : jSB 33 0 (fun _ => 0) h28 := g33_h26.eq fun j j0 j1 => th28 j (by omega) (by omega)
  have g40_h28 : jOb sF 40 kF0 h28 := g40_h26.eq okF fun j j0 j1 => have j2 : j < 40 + 7 := j1; th28 j (by omega) (by omega)
  have g50_h28 : jOb sF 50 kF0 h28 := g50_h26.eq okF fun j j0 j1 => have j2 : j < 50 + 7 := j1; th28 j (by omega) (by omega)
  have g60_h28 : jOb sF 60 kF0 h28 := g60_h26.eq okF fun j j0 j1 => have j2 : j < 60 + 7 := j1; th28 j (by omega) (by omega)
  have g70_h28 : jOb sF 70 kF0 h28 := g70.eq okF fun j j0 j1 => by rw [eh28]; exact jup_n (by omega) rfl
  have qh28 : h28 36 = some (jQ 8 (jqu (jqu (jqu (jqu (fun _ => none) 0 (some 40)) 1 (some 50)) 2 (some 60)) 3 (some 70))) := by rw [eh28]; exact jup_s
  refine j_iinc (L' := [(0, _), (1, _)]) dX4_init_136 rfl (by decide) rfl ?_
  refine j_goto (tgt := 117) dX4_init_139 (by decide) ?_
  show J mX4_initA _ _ _ 117 [(0, .ref 0), (1, iv 4)] [] _ _ _
  refine j_iload_n dX4_init_117 rfl rfl ?_
  refine j_bipush dX4_init_118 (by decide +kernel) ?_
  refine j_icmp_ge (tgt := 142) dX4_init_120 (by decide) (by decide) (fun c1 => absurd c1 (by decide)) (fun _ => ?_)
  refine j_aload_n dX4_init_123 rfl rfl ?_
  refine j_getfield (v := .ref 36) dX4_init_124 jf_X4_26 kh28 rfl ?_
  refine j_iload_n dX4_init_127 rfl rfl ?_
  refine j_new (k := 80) (ci := 1) (fs := [.null, .null, .null, .null, .null, .null, iv 0, iv 0, iv 0, iv 0, iv 0]) tyX1 dX4_init_128 (jw_mem 86 (by decide +kernel) (by decide +kernel)) (jw_mem 87 (by decide +kernel) (by decide +kernel)) (jw_mem 48 (by decide +kernel) (by decide +kernel)) rfl tyX1_ok (fun j hj => match j, hj with | 0, _ => rfl | 1, _ => rfl | 2, _ => rfl | 3, _ => rfl | 4, _ => rfl | 5, _ => rfl | 6, _ => rfl | 7, _ => rfl | 8, _ => rfl | 9, _ => rfl | 10, _ => rfl | n9 + 11, hj => absurd hj (by omega)) (jz0_of rfl) ((ah28 80 (by omega)).trans (hn 80 (by decide) (by decide))) (by decide) (jfr_1 (by simp [iv]) (by simp [iv])) ⟨Nat.le_of_ble_eq_true rfl, Nat.le_of_ble_eq_true rfl⟩ ?_
  refine j_dup dX4_init_131 rfl ?_
  refine j_callI (c1_init (k := 80) jup_s (jup_n (by decide) ((ah28 81 (by omega)).trans (hn 81 (by decide) (by decide)))) (jup_n (by decide) ((ah28 82 (by omega)).trans (hn 82 (by decide) (by decide)))) (jup_n (by decide) ((ah28 83 (by omega)).trans (hn 83 (by decide) (by decide)))) (jup_n (by decide) ((ah28 84 (by omega)).trans (hn 84 (by decide) (by decide)))) (jup_n (by decide) ((ah28 85 (by omega)).trans (hn 85 (by decide) (by decide)))) (jup_n (by decide) ((ah28 86 (by omega)).trans (hn 86 (by decide) (by decide))))) dX4_init_132 jc_X4_9 jmI_X1_init rfl rfl rfl rfl rfl (by decide) (jfr_of (by decide +kernel) (by decide +kernel)) (Nat.le_of_ble_eq_true rfl) ⟨Nat.le_of_ble_eq_true rfl, Nat.le_of_ble_eq_true rfl⟩ ⟨Nat.le_of_ble_eq_true rfl, Nat.le_of_ble_eq_true rfl⟩ (fun r h29 hp9 => ?_)
  obtain ⟨rfl, g80, xh29⟩ := hp9
  have sh29 : ∀ j, (j < 80 ∨ 87 ≤ j) → h29 j = h28 j := fun j hj => (xh29 j (by omega)).trans (jup_n (by omega) rfl)
  show J mX4_initA _ _ _ 135 _ (.ref 80 :: iv 4 :: .ref 36 :: []) _ _ _
  refine j_aastore dX4_init_135 ((sh29 36 (by decide)).trans qh28) g80.1 ⟨by decide, by decide⟩ (by decide) ?_
  refine J.gen (fun h30 eh30 => ?_)
  have kh30 : h30 0 = some (jO 4 [.ref 1, .ref 14, .ref 21, iv (0), .ref 36, iv (0), .ref 8, .ref 11, .ref 28, .ref 33, iv (-1), iv (0), iv (0)]) := by rw [eh30]; exact (jup_n (by decide) rfl).trans ((sh29 0 (by omega)).trans kh28)
  have th30 : ∀ j, j ≠ 36 → (j < 80 ∨ 87 ≤ j) → h30 j = h28 j := fun j j0 j1 => by rw [eh30]; exact (jup_n j0 rfl).trans (sh29 j j1)
  have ah30 : ∀ j, 0 < j ∧ (j < 1 ∨ 8 ≤ j) ∧ (j < 14 ∨ 21 ≤ j) ∧ (j < 21 ∨ 28 ≤ j) ∧ (j < 36 ∨ 37 ≤ j) ∧ (j < 8 ∨ 11 ≤ j) ∧ (j < 11 ∨ 14 ≤ j) ∧ (j < 28 ∨ 33 ≤ j) ∧ (j < 33 ∨ 36 ≤ j) ∧ (j < 40 ∨ 47 ≤ j) ∧ (j < 50 ∨ 57 ≤ j) ∧ (j < 60 ∨ 67 ≤ j) ∧ (j < 70 ∨ 77 ≤ j) ∧ (j < 80 ∨ 87 ≤ j) → h30 j = h j := fun j hj => (th30 j (by omega) (by omega)).trans (ah28 j (by omega))
  have g1_h30 : jOb sF 1 kF0 h30 := g1_h28.eq okF fun j j0 j1 => have j2 : j < 1 + 7 := j1; th30 j (by omega) (by omega)
  have g14_h30 : jOb sF 14 kF0 h30 := g14_h28.eq okF fun j j0 j1 => have j2 : j < 14 + 7 := j1; th30 j (by omega) (by omega)
  have g21_h30 : jOb sF 21 kF0 h30 := g21_h28.eq okF fun j j0 j1 => have j2 : j < 21 + 7 := j1; th30 j (by omega) (by omega)
  have g8_h30 : jOb sE 8 (fun _ _ => 0) h30 := g8_h28.eq okE fun j j0 j1 => have j2 : j < 8 + 3 := j1; th30 j (by omega) (by omega)
  have g11_h30 : jOb sH 11 (fun _ _ => 0) h30 := g11_h28.eq okH fun j j0 j1 => have j2 : j < 11 + 3 := j1; th30 j (by omega) (by omega)
  have g28_h30 : jOb sI 28 (fun _ _ => 0) h30 := g28_h28.eq okI fun j j0 j1 => have j2 : j < 28 + 5 := j1; th30 j (by omega) (by omega)
  have g33_h30 : jSB 33 0 (fun _ => 0) h30 := g33_h28.eq fun j j0 j1 => th30 j (by omega) (by omega)
  have g40_h30 : jOb sF 40 kF0 h30 := g40_h28.eq okF fun j j0 j1 => have j2 : j < 40 + 7 := j1; th30 j (by omega) (by omega)
  have g50_h30 : jOb sF 50 kF0 h30 := g50_h28.eq okF fun j j0 j1 => have j2 : j < 50 + 7 := j1; th30 j (by omega) (by omega)
  have g60_h30 : jOb sF 60 kF0 h30 := g60_h28.eq okF fun j j0 j1 => have j2 : j < 60 + 7 := j1; th30 j (by omega) (by omega)
  have g70_h30 : jOb sF 70 kF0 h30 := g70_h28.eq okF fun j j0 j1 => have j2 : j < 70 + 7 := j1; th30 j (by omega) (by omega)
  have g80_h30 : jOb sF 80 kF0 h30 := g80.eq okF fun j j0 j1 => by rw [eh30]; exact jup_n (by omega) rfl
  have qh30 : h30 36 = some (jQ 8 (jqu (jqu (jqu (jqu (jqu (fun _ => none) 0 (some 40)) 1 (some 50)) 2 (some 60)) 3 (some 70)) 4 (some 80))) := by rw [eh30]; exact jup_s
  refine j_iinc (L' := [(0, _), (1, _)]) dX4_init_136 rfl (by decide) rfl ?_
  refine j_goto (tgt := 117) dX4_init_139 (by decide) ?_
  show J mX4_initA _ _ _ 117 [(0, .ref 0), (1, iv 5)] [] _ _ _
  refine j_iload_n dX4_init_117 rfl rfl ?_
  refine j_bipush dX4_init_118 (by decide +kernel) ?_
  refine j_icmp_ge (tgt := 142) dX4_init_120 (by decide) (by decide) (fun c1 => absurd c1 (by decide)) (fun _ => ?_)
  refine j_aload_n dX4_init_123 rfl rfl ?_
  refine j_getfield (v := .ref 36) dX4_init_124 jf_X4_26 kh30 rfl ?_
  refine j_iload_n dX4_init_127 rfl rfl ?_
  refine j_new (k := 90) (ci := 1) (fs := [.null, .null, .null, .null, .null, .null, iv 0, iv 0, iv 0, iv 0, iv 0]) tyX1 dX4_init_128 (jw_mem 86 (by decide +kernel) (by decide +kernel)) (jw_mem 87 (by decide +kernel) (by decide +kernel)) (jw_mem 48 (by decide +kernel) (by decide +kernel)) rfl tyX1_ok (fun j hj => match j, hj with | 0, _ => rfl | 1, _ => rfl | 2, _ => rfl | 3, _ => rfl | 4, _ => rfl | 5, _ => rfl | 6, _ => rfl | 7, _ => rfl | 8, _ => rfl | 9, _ => rfl | 10, _ => rfl | n9 + 11, hj => absurd hj (by omega)) (jz0_of rfl) ((ah30 90 (by omega)).trans (hn 90 (by decide) (by decide))) (by decide) (jfr_1 (by simp [iv]) (by simp [iv])) ⟨Nat.le_of_ble_eq_true rfl, Nat.le_of_ble_eq_true rfl⟩ ?_
  refine j_dup dX4_init_131 rfl ?_
  refine j_callI (c1_init (k := 90) jup_s (jup_n (by decide) ((ah30 91 (by omega)).trans (hn 91 (by decide) (by decide)))) (jup_n (by decide) ((ah30 92 (by omega)).trans (hn 92 (by decide) (by decide)))) (jup_n (by decide) ((ah30 93 (by omega)).trans (hn 93 (by decide) (by decide)))) (jup_n (by decide) ((ah30 94 (by omega)).trans (hn 94 (by decide) (by decide)))) (jup_n (by decide) ((ah30 95 (by omega)).trans (hn 95 (by decide) (by decide)))) (jup_n (by decide) ((ah30 96 (by omega)).trans (hn 96 (by decide) (by decide))))) dX4_init_132 jc_X4_9 jmI_X1_init rfl rfl rfl rfl rfl (by decide) (jfr_of (by decide +kernel) (by decide +kernel)) (Nat.le_of_ble_eq_true rfl) ⟨Nat.le_of_ble_eq_true rfl, Nat.le_of_ble_eq_true rfl⟩ ⟨Nat.le_of_ble_eq_true rfl, Nat.le_of_ble_eq_true rfl⟩ (fun r h31 hp9 => ?_)
  obtain ⟨rfl, g90, xh31⟩ := hp9
  have sh31 : ∀ j, (j < 90 ∨ 97 ≤ j) → h31 j = h30 j := fun j hj => (xh31 j (by omega)).trans (jup_n (by omega) rfl)
  show J mX4_initA _ _ _ 135 _ (.ref 90 :: iv 5 :: .ref 36 :: []) _ _ _
  refine j_aastore dX4_init_135 ((sh31 36 (by decide)).trans qh30) g90.1 ⟨by decide, by decide⟩ (by decide) ?_
  refine J.gen (fun h32 eh32 => ?_)
  have kh32 : h32 0 = some (jO 4 [.ref 1, .ref 14, .ref 21, iv (0), .ref 36, iv (0), .ref 8, .ref 11, .ref 28, .ref 33, iv (-1), iv (0), iv (0)]) := by rw [eh32]; exact (jup_n (by decide) rfl).trans ((sh31 0 (by omega)).trans kh30)
  have th32 : ∀ j, j ≠ 36 → (j < 90 ∨ 97 ≤ j) → h32 j = h30 j := fun j j0 j1 => by rw [eh32]; exact (jup_n j0 rfl).trans (sh31 j j1)
  have ah32 : ∀ j, 0 < j ∧ (j < 1 ∨ 8 ≤ j) ∧ (j < 14 ∨ 21 ≤ j) ∧ (j < 21 ∨ 28 ≤ j) ∧ (j < 36 ∨ 37 ≤ j) ∧ (j < 8 ∨ 11 ≤ j) ∧ (j < 11 ∨ 14 ≤ j) ∧ (j < 28 ∨ 33 ≤ j) ∧ (j < 33 ∨ 36 ≤ j) ∧ (j < 40 ∨ 47 ≤ j) ∧ (j < 50 ∨ 57 ≤ j) ∧ (j < 60 ∨ 67 ≤ j) ∧ (j < 70 ∨ 77 ≤ j) ∧ (j < 80 ∨ 87 ≤ j) ∧ (j < 90 ∨ 97 ≤ j) → h32 j = h j := fun j hj => (th32 j (by omega) (by omega)).trans (ah30 j (by omega))
  have g1_h32 : jOb sF 1 kF0 h32 := g1_h30.eq okF fun j j0 j1 => have j2 : j < 1 + 7 := j1; th32 j (by omega) (by omega)
  have g14_h32 : jOb sF 14 kF0 h32 := g14_h30.eq okF fun j j0 j1 => have j2 : j < 14 + 7 := j1; th32 j (by omega) (by omega)
  have g21_h32 : jOb sF 21 kF0 h32 := g21_h30.eq okF fun j j0 j1 => have j2 : j < 21 + 7 := j1; th32 j (by omega) (by omega)
  have g8_h32 : jOb sE 8 (fun _ _ => 0) h32 := g8_h30.eq okE fun j j0 j1 => have j2 : j < 8 + 3 := j1; th32 j (by omega) (by omega)
  have g11_h32 : jOb sH 11 (fun _ _ => 0) h32 := g11_h30.eq okH fun j j0 j1 => have j2 : j < 11 + 3 := j1; th32 j (by omega) (by omega)
  have g28_h32 : jOb sI 28 (fun _ _ => 0) h32 := g28_h30.eq okI fun j j0 j1 => have j2 : j < 28 + 5 := j1; th32 j (by omega) (by omega)
  have g33_h32 : jSB 33 0 (fun _ => 0) h32 := g33_h30.eq fun j j0 j1 => th32 j (by omega) (by omega)
  have g40_h32 : jOb sF 40 kF0 h32 := g40_h30.eq okF fun j j0 j1 => have j2 : j < 40 + 7 := j1; th32 j (by omega) (by omega)
  have g50_h32 : jOb sF 50 kF0 h32 := g50_h30.eq okF fun j j0 j1 => have j2 : j < 50 + 7 := j1; th32 j (by omega) (by omega)
  have g60_h32 : jOb sF 60 kF0 h32 := g60_h30.eq okF fun j j0 j1 => have j2 : j < 60 + 7 := j1; th32 j (by omega) (by omega)
  have g70_h32 : jOb sF 70 kF0 h32 := g70_h30.eq okF fun j j0 j1 => have j2 : j < 70 + 7 := j1; th32 j (by omega) (by omega)
  have g80_h32 : jOb sF 80 kF0 h32 := g80_h30.eq okF fun j j0 j1 => have j2 : j < 80 + 7 := j1; th32 j (by omega) (by omega)
  have g90_h32 : jOb sF 90 kF0 h32 := g90.eq okF fun j j0 j1 => by rw [eh32]; exact jup_n (by omega) rfl
  have qh32 : h32 36 = some (jQ 8 (jqu (jqu (jqu (jqu (jqu (jqu (fun _ => none) 0 (some 40)) 1 (some 50)) 2 (some 60)) 3 (some 70)) 4 (some 80)) 5 (some 90))) := by rw [eh32]; exact jup_s
  refine j_iinc (L' := [(0, _), (1, _)]) dX4_init_136 rfl (by decide) rfl ?_
  refine j_goto (tgt := 117) dX4_init_139 (by decide) ?_
  show J mX4_initA _ _ _ 117 [(0, .ref 0), (1, iv 6)] [] _ _ _
  refine j_iload_n dX4_init_117 rfl rfl ?_
  refine j_bipush dX4_init_118 (by decide +kernel) ?_
  refine j_icmp_ge (tgt := 142) dX4_init_120 (by decide) (by decide) (fun c1 => absurd c1 (by decide)) (fun _ => ?_)
  refine j_aload_n dX4_init_123 rfl rfl ?_
  refine j_getfield (v := .ref 36) dX4_init_124 jf_X4_26 kh32 rfl ?_
  refine j_iload_n dX4_init_127 rfl rfl ?_
  refine j_new (k := 100) (ci := 1) (fs := [.null, .null, .null, .null, .null, .null, iv 0, iv 0, iv 0, iv 0, iv 0]) tyX1 dX4_init_128 (jw_mem 86 (by decide +kernel) (by decide +kernel)) (jw_mem 87 (by decide +kernel) (by decide +kernel)) (jw_mem 48 (by decide +kernel) (by decide +kernel)) rfl tyX1_ok (fun j hj => match j, hj with | 0, _ => rfl | 1, _ => rfl | 2, _ => rfl | 3, _ => rfl | 4, _ => rfl | 5, _ => rfl | 6, _ => rfl | 7, _ => rfl | 8, _ => rfl | 9, _ => rfl | 10, _ => rfl | n9 + 11, hj => absurd hj (by omega)) (jz0_of rfl) ((ah32 100 (by omega)).trans (hn 100 (by decide) (by decide))) (by decide) (jfr_1 (by simp [iv]) (by simp [iv])) ⟨Nat.le_of_ble_eq_true rfl, Nat.le_of_ble_eq_true rfl⟩ ?_
  refine j_dup dX4_init_131 rfl ?_
  refine j_callI (c1_init (k := 100) jup_s (jup_n (by decide) ((ah32 101 (by omega)).trans (hn 101 (by decide) (by decide)))) (jup_n (by decide) ((ah32 102 (by omega)).trans (hn 102 (by decide) (by decide)))) (jup_n (by decide) ((ah32 103 (by omega)).trans (hn 103 (by decide) (by decide)))) (jup_n (by decide) ((ah32 104 (by omega)).trans (hn 104 (by decide) (by decide)))) (jup_n (by decide) ((ah32 105 (by omega)).trans (hn 105 (by decide) (by decide)))) (jup_n (by decide) ((ah32 106 (by omega)).trans (hn 106 (by decide) (by decide))))) dX4_init_132 jc_X4_9 jmI_X1_init rfl rfl rfl rfl rfl (by decide) (jfr_of (by decide +kernel) (by decide +kernel)) (Nat.le_of_ble_eq_true rfl) ⟨Nat.le_of_ble_eq_true rfl, Nat.le_of_ble_eq_true rfl⟩ ⟨Nat.le_of_ble_eq_true rfl, Nat.le_of_ble_eq_true rfl⟩ (fun r h33 hp9 => ?_)
  obtain ⟨rfl, g100, xh33⟩ := hp9
  have sh33 : ∀ j, (j < 100 ∨ 107 ≤ j) → h33 j = h32 j := fun j hj => (xh33 j (by omega)).trans (jup_n (by omega) rfl)
  show J mX4_initA _ _ _ 135 _ (.ref 100 :: iv 6 :: .ref 36 :: []) _ _ _
  refine j_aastore dX4_init_135 ((sh33 36 (by decide)).trans qh32) g100.1 ⟨by decide, by decide⟩ (by decide) ?_
  refine J.gen (fun h34 eh34 => ?_)
  have kh34 : h34 0 = some (jO 4 [.ref 1, .ref 14, .ref 21, iv (0), .ref 36, iv (0), .ref 8, .ref 11, .ref 28, .ref 33, iv (-1), iv (0), iv (0)]) := by rw [eh34]; exact (jup_n (by decide) rfl).trans ((sh33 0 (by omega)).trans kh32)
  have th34 : ∀ j, j ≠ 36 → (j < 100 ∨ 107 ≤ j) → h34 j = h32 j := fun j j0 j1 => by rw [eh34]; exact (jup_n j0 rfl).trans (sh33 j j1)
  have ah34 : ∀ j, 0 < j ∧ (j < 1 ∨ 8 ≤ j) ∧ (j < 14 ∨ 21 ≤ j) ∧ (j < 21 ∨ 28 ≤ j) ∧ (j < 36 ∨ 37 ≤ j) ∧ (j < 8 ∨ 11 ≤ j) ∧ (j < 11 ∨ 14 ≤ j) ∧ (j < 28 ∨ 33 ≤ j) ∧ (j < 33 ∨ 36 ≤ j) ∧ (j < 40 ∨ 47 ≤ j) ∧ (j < 50 ∨ 57 ≤ j) ∧ (j < 60 ∨ 67 ≤ j) ∧ (j < 70 ∨ 77 ≤ j) ∧ (j < 80 ∨ 87 ≤ j) ∧ (j < 90 ∨ 97 ≤ j) ∧ (j < 100 ∨ 107 ≤ j) → h34 j = h j := fun j hj => (th34 j (by omega) (by omega)).trans (ah32 j (by omega))
  have g1_h34 : jOb sF 1 kF0 h34 := g1_h32.eq okF fun j j0 j1 => have j2 : j < 1 + 7 := j1; th34 j (by omega) (by omega)
  have g14_h34 : jOb sF 14 kF0 h34 := g14_h32.eq okF fun j j0 j1 => have j2 : j < 14 + 7 := j1; th34 j (by omega) (by omega)
  have g21_h34 : jOb sF 21 kF0 h34 := g21_h32.eq okF fun j j0 j1 => have j2 : j < 21 + 7 := j1; th34 j (by omega) (by omega)
  have g8_h34 : jOb sE 8 (fun _ _ => 0) h34 := g8_h32.eq okE fun j j0 j1 => have j2 : j < 8 + 3 := j1; th34 j (by omega) (by omega)
  have g11_h34 : jOb sH 11 (fun _ _ => 0) h34 := g11_h32.eq okH fun j j0 j1 => have j2 : j < 11 + 3 := j1; th34 j (by omega) (by omega)
  have g28_h34 : jOb sI 28 (fun _ _ => 0) h34 := g28_h32.eq okI fun j j0 j1 => have j2 : j < 28 + 5 := j1; th34 j (by omega) (by omega)
  have g33_h34 : jSB 33 0 (fun _ => 0) h34 := g33_h32.eq fun j j0 j1 => th34 j (by omega) (by omega)
  have g40_h34 : jOb sF 40 kF0 h34 := g40_h32.eq okF fun j j0 j1 => have j2 : j < 40 + 7 := j1; th34 j (by omega) (by omega)
  have g50_h34 : jOb sF 50 kF0 h34 := g50_h32.eq okF fun j j0 j1 => have j2 : j < 50 + 7 := j1; th34 j (by omega) (by omega)
  have g60_h34 : jOb sF 60 kF0 h34 := g60_h32.eq okF fun j j0 j1 => have j2 : j < 60 + 7 := j1; th34 j (by omega) (by omega)
  have g70_h34 : jOb sF 70 kF0 h34 := g70_h32.eq okF fun j j0 j1 => have j2 : j < 70 + 7 := j1; th34 j (by omega) (by omega)
  have g80_h34 : jOb sF 80 kF0 h34 := g80_h32.eq okF fun j j0 j1 => have j2 : j < 80 + 7 := j1; th34 j (by omega) (by omega)
  have g90_h34 : jOb sF 90 kF0 h34 := g90_h32.eq okF fun j j0 j1 => have j2 : j < 90 + 7 := j1; th34 j (by omega) (by omega)
  have g100_h34 : jOb sF 100 kF0 h34 := g100.eq okF fun j j0 j1 => by rw [eh34]; exact jup_n (by omega) rfl
  have qh34 : h34 36 = some (jQ 8 (jqu (jqu (jqu (jqu (jqu (jqu (jqu (fun _ => none) 0 (some 40)) 1 (some 50)) 2 (some 60)) 3 (some 70)) 4 (some 80)) 5 (some 90)) 6 (some 100))) := by rw [eh34]; exact jup_s
  refine j_iinc (L' := [(0, _), (1, _)]) dX4_init_136 rfl (by decide) rfl ?_
  refine j_goto (tgt := 117) dX4_init_139 (by decide) ?_
  show J mX4_initA _ _ _ 117 [(0, .ref 0), (1, iv 7)] [] _ _ _
  refine j_iload_n dX4_init_117 rfl rfl ?_
  refine j_bipush dX4_init_118 (by decide +kernel) ?_
  refine j_icmp_ge (tgt := 142) dX4_init_120 (by decide) (by decide) (fun c1 => absurd c1 (by decide)) (fun _ => ?_)
  refine j_aload_n dX4_init_123 rfl rfl ?_
  refine j_getfield (v := .ref 36) dX4_init_124 jf_X4_26 kh34 rfl ?_
  refine j_iload_n dX4_init_127 rfl rfl ?_
  refine j_new (k := 110) (ci := 1) (fs := [.null, .null, .null, .null, .null, .null, iv 0, iv 0, iv 0, iv 0, iv 0]) tyX1 dX4_init_128 (jw_mem 86 (by decide +kernel) (by decide +kernel)) (jw_mem 87 (by decide +kernel) (by decide +kernel)) (jw_mem 48 (by decide +kernel) (by decide +kernel)) rfl tyX1_ok (fun j hj => match j, hj with | 0, _ => rfl | 1, _ => rfl | 2, _ => rfl | 3, _ => rfl | 4, _ => rfl | 5, _ => rfl | 6, _ => rfl | 7, _ => rfl | 8, _ => rfl | 9, _ => rfl | 10, _ => rfl | n9 + 11, hj => absurd hj (by omega)) (jz0_of rfl) ((ah34 110 (by omega)).trans (hn 110 (by decide) (by decide))) (by decide) (jfr_1 (by simp [iv]) (by simp [iv])) ⟨Nat.le_of_ble_eq_true rfl, Nat.le_of_ble_eq_true rfl⟩ ?_
  refine j_dup dX4_init_131 rfl ?_
  refine j_callI (c1_init (k := 110) jup_s (jup_n (by decide) ((ah34 111 (by omega)).trans (hn 111 (by decide) (by decide)))) (jup_n (by decide) ((ah34 112 (by omega)).trans (hn 112 (by decide) (by decide)))) (jup_n (by decide) ((ah34 113 (by omega)).trans (hn 113 (by decide) (by decide)))) (jup_n (by decide) ((ah34 114 (by omega)).trans (hn 114 (by decide) (by decide)))) (jup_n (by decide) ((ah34 115 (by omega)).trans (hn 115 (by decide) (by decide)))) (jup_n (by decide) ((ah34 116 (by omega)).trans (hn 116 (by decide) (by decide))))) dX4_init_132 jc_X4_9 jmI_X1_init rfl rfl rfl rfl rfl (by decide) (jfr_of (by decide +kernel) (by decide +kernel)) (Nat.le_of_ble_eq_true rfl) ⟨Nat.le_of_ble_eq_true rfl, Nat.le_of_ble_eq_true rfl⟩ ⟨Nat.le_of_ble_eq_true rfl, Nat.le_of_ble_eq_true rfl⟩ (fun r h35 hp9 => ?_)
  obtain ⟨rfl, g110, xh35⟩ := hp9
  have sh35 : ∀ j, (j < 110 ∨ 117 ≤ j) → h35 j = h34 j := fun j hj => (xh35 j (by omega)).trans (jup_n (by omega) rfl)
  show J mX4_initA _ _ _ 135 _ (.ref 110 :: iv 7 :: .ref 36 :: []) _ _ _
  refine j_aastore dX4_init_135 ((sh35 36 (by decide)).trans qh34) g110.1 ⟨by decide, by decide⟩ (by decide) ?_
  refine J.gen (fun h36 eh36 => ?_)
  have kh36 : h36 0 = some (jO 4 [.ref 1, .ref 14, .ref 21, iv (0), .ref 36, iv (0), .ref 8, .ref 11, .ref 28, .ref 33, iv (-1), iv (0), iv (0)]) := by rw [eh36]; exact (jup_n (by decide) rfl).trans ((sh35 0 (by omega)).trans kh34)
  have th36 : ∀ j, j ≠ 36 → (j < 110 ∨ 117 ≤ j) → h36 j = h34 j := fun j j0 j1 => by rw [eh36]; exact (jup_n j0 rfl).trans (sh35 j j1)
  have ah36 : ∀ j, 0 < j ∧ (j < 1 ∨ 8 ≤ j) ∧ (j < 14 ∨ 21 ≤ j) ∧ (j < 21 ∨ 28 ≤ j) ∧ (j < 36 ∨ 37 ≤ j) ∧ (j < 8 ∨ 11 ≤ j) ∧ (j < 11 ∨ 14 ≤ j) ∧ (j < 28 ∨ 33 ≤ j) ∧ (j < 33 ∨ 36 ≤ j) ∧ (j < 40 ∨ 47 ≤ j) ∧ (j < 50 ∨ 57 ≤ j) ∧ (j < 60 ∨ 67 ≤ j) ∧ (j < 70 ∨ 77 ≤ j) ∧ (j < 80 ∨ 87 ≤ j) ∧ (j < 90 ∨ 97 ≤ j) ∧ (j < 100 ∨ 107 ≤ j) ∧ (j < 110 ∨ 117 ≤ j) → h36 j = h j := fun j hj => (th36 j (by omega) (by omega)).trans (ah34 j (by omega))
  have g1_h36 : jOb sF 1 kF0 h36 := g1_h34.eq okF fun j j0 j1 => have j2 : j < 1 + 7 := j1; th36 j (by omega) (by omega)
  have g14_h36 : jOb sF 14 kF0 h36 := g14_h34.eq okF fun j j0 j1 => have j2 : j < 14 + 7 := j1; th36 j (by omega) (by omega)
  have g21_h36 : jOb sF 21 kF0 h36 := g21_h34.eq okF fun j j0 j1 => have j2 : j < 21 + 7 := j1; th36 j (by omega) (by omega)
  have g8_h36 : jOb sE 8 (fun _ _ => 0) h36 := g8_h34.eq okE fun j j0 j1 => have j2 : j < 8 + 3 := j1; th36 j (by omega) (by omega)
  have g11_h36 : jOb sH 11 (fun _ _ => 0) h36 := g11_h34.eq okH fun j j0 j1 => have j2 : j < 11 + 3 := j1; th36 j (by omega) (by omega)
  have g28_h36 : jOb sI 28 (fun _ _ => 0) h36 := g28_h34.eq okI fun j j0 j1 => have j2 : j < 28 + 5 := j1; th36 j (by omega) (by omega)
  have g33_h36 : jSB 33 0 (fun _ => 0) h36 := g33_h34.eq fun j j0 j1 => th36 j (by omega) (by omega)
  have g40_h36 : jOb sF 40 kF0 h36 := g40_h34.eq okF fun j j0 j1 => have j2 : j < 40 + 7 := j1; th36 j (by omega) (by omega)
  have g50_h36 : jOb sF 50 kF0 h36 := g50_h34.eq okF fun j j0 j1 => have j2 : j < 50 + 7 := j1; th36 j (by omega) (by omega)
  have g60_h36 : jOb sF 60 kF0 h36 := g60_h34.eq okF fun j j0 j1 => have j2 : j < 60 + 7 := j1; th36 j (by omega) (by omega)
  have g70_h36 : jOb sF 70 kF0 h36 := g70_h34.eq okF fun j j0 j1 => have j2 : j < 70 + 7 := j1; th36 j (by omega) (by omega)
  have g80_h36 : jOb sF 80 kF0 h36 := g80_h34.eq okF fun j j0 j1 => have j2 : j < 80 + 7 := j1; th36 j (by omega) (by omega)
  have g90_h36 : jOb sF 90 kF0 h36 := g90_h34.eq okF fun j j0 j1 => have j2 : j < 90 + 7 := j1; th36 j (by omega) (by omega)
  have g100_h36 : jOb sF 100 kF0 h36 := g100_h34.eq okF fun j j0 j1 => have j2 : j < 100 + 7 := j1; th36 j (by omega) (by omega)
  have g110_h36 : jOb sF 110 kF0 h36 := g110.eq okF fun j j0 j1 => by rw [eh36]; exact jup_n (by omega) rfl
  have qh36 : h36 36 = some (jQ 8 (jqu (jqu (jqu (jqu (jqu (jqu (jqu (jqu (fun _ => none) 0 (some 40)) 1 (some 50)) 2 (some 60)) 3 (some 70)) 4 (some 80)) 5 (some 90)) 6 (some 100)) 7 (some 110))) := by rw [eh36]; exact jup_s
  refine j_iinc (L' := [(0, _), (1, _)]) dX4_init_136 rfl (by decide) rfl ?_
  refine j_goto (tgt := 117) dX4_init_139 (by decide) ?_
  show J mX4_initA _ _ _ 117 [(0, .ref 0), (1, iv 8)] [] _ _ _
  refine j_iload_n dX4_init_117 rfl rfl ?_
  refine j_bipush dX4_init_118 (by decide +kernel) ?_
  refine j_icmp_ge (tgt := 142) dX4_init_120 (by decide) (by decide) (fun _ => ?_) (fun c1 => absurd (show (8 : Int) ≤ 8 by decide) c1)
  have hX : jOb sX 0 X0_0 h36 := ⟨kh36, fun i p t n hi => by
      match i, hi with
      | 0, hi => cases hi
      | 1, hi => cases hi
      | 2, hi => cases hi
      | 3, hi => cases hi
      | 4, hi => cases hi
      | 5, hi => cases hi
      | 6, hi => cases hi
      | 7, hi => cases hi
      | 8, hi => cases hi
      | 9, hi => cases hi
      | 10, hi => cases hi
      | 11, hi => cases hi
      | 12, hi => cases hi
      | n9 + 13, hi => simp at hi⟩
  subst hZ
  refine j_return dX4_init_142 rfl ⟨rfl, ⟨⟨kF0 4, kF0 5, _, _, hX, by rw [kRw_id]; exact g1_h36, g8_h36, g11_h36, fun _ _ _ => ⟨rfl, rfl⟩, fun q => absurd q (by decide), ⟨fun x x0 x1 => ⟨Int.le_refl _, x0⟩, fun p p0 p1 => absurd p1 (by show ¬ p < 0; omega)⟩⟩, ⟨kF0, g14_h36⟩, ⟨jFK.of g21_h36, g28_h36, g33_h36⟩, ?_, by decide⟩, ?_⟩ (Nat.le_of_ble_eq_true rfl) (Nat.le_of_ble_eq_true rfl)
  · refine ⟨fun i => (40 + 10 * i).toNat, (jqu (jqu (jqu (jqu (jqu (jqu (jqu (jqu (fun _ => none) 0 (some 40)) 1 (some 50)) 2 (some 60)) 3 (some 70)) 4 (some 80)) 5 (some 90)) 6 (some 100)) 7 (some 110)), ⟨fun i i0 i1 => ?_, fun i j i0 i1 j0 j1 e9 => ?_⟩, qh36, fun i i0 i1 => ?_, fun i i0 i1 => ⟨kF0, ?_⟩, fun i i0 i1 => absurd i1 (by show ¬ i < 0; omega)⟩
    · show 40 ≤ (40 + 10 * i).toNat ∧ (40 + 10 * i).toNat ≤ 110 ∧ (40 + 10 * i).toNat % 10 = 0
      omega
    · have e9 : (40 + 10 * i).toNat = (40 + 10 * j).toNat := e9
      omega
    · rcases (show i = 0 ∨ i = 1 ∨ i = 2 ∨ i = 3 ∨ i = 4 ∨ i = 5 ∨ i = 6 ∨ i = 7 by omega) with rfl | rfl | rfl | rfl | rfl | rfl | rfl | rfl
      · exact rfl
      · exact rfl
      · exact rfl
      · exact rfl
      · exact rfl
      · exact rfl
      · exact rfl
      · exact rfl
    · rcases (show i = 0 ∨ i = 1 ∨ i = 2 ∨ i = 3 ∨ i = 4 ∨ i = 5 ∨ i = 6 ∨ i = 7 by omega) with rfl | rfl | rfl | rfl | rfl | rfl | rfl | rfl
      · exact g40_h36
      · exact g50_h36
      · exact g60_h36
      · exact g70_h36
      · exact g80_h36
      · exact g90_h36
      · exact g100_h36
      · exact g110_h36
  · exact fun j hj => ah36 j (by omega)
