/-! TEXTS: toString, charAt, builders -/
theorem wd84_53 : (Jvm.Cond.initialized "java/lang/StringBuilder") ∈ jWL := jw_mem 53 (by decide +kernel) (by decide +kernel)
theorem wd84_54 : (Jvm.Cond.initialized "java/lang/String") ∈ jWL := jw_mem 54 (by decide +kernel) (by decide +kernel)
theorem wd84_56 : (Jvm.Cond.initialized "java/lang/Math") ∈ jWL := jw_mem 56 (by decide +kernel) (by decide +kernel)
theorem wd84_68 : (Jvm.Cond.initialized "java/lang/System") ∈ jWL := jw_mem 68 (by decide +kernel) (by decide +kernel)
theorem wd84_84 : (Jvm.Cond.instanceMethod ({ cls := "java/lang/Object", name := "<init>", desc := "()V" } : Jvm.MethodName)) ∈ jWL := jw_mem 84 (by decide +kernel) (by decide +kernel)
theorem wd84_85 : (Jvm.Cond.code ({ cls := "java/lang/Object", name := "<init>", desc := "()V" } : Jvm.MethodName) object_method_1_code (1 : Nat) (Option.none : Option Jvm.ClassFile.FieldType)) ∈ jWL := jw_mem 85 (by decide +kernel) (by decide +kernel)
theorem wd84_224 : (Jvm.Cond.arrayClass Jvm.ClassFile.FieldType.byte) ∈ jWL := jw_mem 224 (by decide +kernel) (by decide +kernel)
theorem wd84_671 : (Jvm.Cond.instantiable "java/lang/String" (4 : Nat)) ∈ jWL := jw_mem 671 (by decide +kernel) (by decide +kernel)
theorem wd84_932 : (Jvm.Cond.methodLink "java/util/Arrays" (310 : Nat) ({ cls := "[B", name := "clone", desc := "()Ljava/lang/Object;" } : Jvm.MethodName)) ∈ jWL := jw_mem 932 (by decide +kernel) (by decide +kernel)
theorem wd84_938 : (Jvm.Cond.classLink "java/util/Arrays" (311 : Nat) "[B") ∈ jWL := jw_mem 938 (by decide +kernel) (by decide +kernel)
theorem wd84_939 : (Jvm.Cond.methodLink "java/util/Arrays" (304 : Nat) ({ cls := "java/lang/Math", name := "min", desc := "(II)I" } : Jvm.MethodName)) ∈ jWL := jw_mem 939 (by decide +kernel) (by decide +kernel)
theorem wd84_940 : (Jvm.Cond.static ({ cls := "java/lang/Math", name := "min", desc := "(II)I" } : Jvm.MethodName)) ∈ jWL := jw_mem 940 (by decide +kernel) (by decide +kernel)
theorem wd84_941 : (Jvm.Cond.code ({ cls := "java/lang/Math", name := "min", desc := "(II)I" } : Jvm.MethodName) prog_21_method_69_code (2 : Nat) (Option.some Jvm.ClassFile.FieldType.int)) ∈ jWL := jw_mem 941 (by decide +kernel) (by decide +kernel)
theorem wd84_942 : (Jvm.Cond.methodLink "java/util/Arrays" (150 : Nat) ({ cls := "java/lang/System", name := "arraycopy", desc := "(Ljava/lang/Object;ILjava/lang/Object;II)V" } : Jvm.MethodName)) ∈ jWL := jw_mem 942 (by decide +kernel) (by decide +kernel)
theorem wd84_943 : (Jvm.Cond.static ({ cls := "java/lang/System", name := "arraycopy", desc := "(Ljava/lang/Object;ILjava/lang/Object;II)V" } : Jvm.MethodName)) ∈ jWL := jw_mem 943 (by decide +kernel) (by decide +kernel)
theorem wd84_944 : (Jvm.Cond.native ({ cls := "java/lang/System", name := "arraycopy", desc := "(Ljava/lang/Object;ILjava/lang/Object;II)V" } : Jvm.MethodName)) ∈ jWL := jw_mem 944 (by decide +kernel) (by decide +kernel)
theorem wd84_948 : (Jvm.Cond.selects "java/lang/StringBuilder" ({ cls := "java/lang/AbstractStringBuilder", name := "isLatin1", desc := "()Z" } : Jvm.MethodName) ({ cls := "java/lang/AbstractStringBuilder", name := "isLatin1", desc := "()Z" } : Jvm.MethodName)) ∈ jWL := jw_mem 948 (by decide +kernel) (by decide +kernel)
theorem wd84_1050 : (Jvm.Cond.classLink "java/lang/StringBuilder" (18 : Nat) "java/lang/String") ∈ jWL := jw_mem 1050 (by decide +kernel) (by decide +kernel)
theorem wd84_1057 : (Jvm.Cond.methodLink "java/lang/String" (1 : Nat) ({ cls := "java/lang/Object", name := "<init>", desc := "()V" } : Jvm.MethodName)) ∈ jWL := jw_mem 1057 (by decide +kernel) (by decide +kernel)
theorem wd84_1061 : (Jvm.Cond.selects "java/lang/StringBuilder" ({ cls := "java/lang/AbstractStringBuilder", name := "getValue", desc := "()[B" } : Jvm.MethodName) ({ cls := "java/lang/AbstractStringBuilder", name := "getValue", desc := "()[B" } : Jvm.MethodName)) ∈ jWL := jw_mem 1061 (by decide +kernel) (by decide +kernel)
theorem wd84_1063 : (Jvm.Cond.methodLink "java/lang/String" (549 : Nat) ({ cls := "java/lang/AbstractStringBuilder", name := "length", desc := "()I" } : Jvm.MethodName)) ∈ jWL := jw_mem 1063 (by decide +kernel) (by decide +kernel)
theorem wd84_1064 : (Jvm.Cond.instanceMethod ({ cls := "java/lang/AbstractStringBuilder", name := "length", desc := "()I" } : Jvm.MethodName)) ∈ jWL := jw_mem 1064 (by decide +kernel) (by decide +kernel)
theorem wd84_1065 : (Jvm.Cond.sameMethod "java/lang/AbstractStringBuilder" "java/lang/AbstractStringBuilder" "length" "()I") ∈ jWL := jw_mem 1065 (by decide +kernel) (by decide +kernel)
theorem wd84_1066 : (Jvm.Cond.selects "java/lang/StringBuilder" ({ cls := "java/lang/AbstractStringBuilder", name := "length", desc := "()I" } : Jvm.MethodName) ({ cls := "java/lang/StringBuilder", name := "length", desc := "()I" } : Jvm.MethodName)) ∈ jWL := jw_mem 1066 (by decide +kernel) (by decide +kernel)
theorem wd84_1067 : (Jvm.Cond.instanceMethod ({ cls := "java/lang/StringBuilder", name := "length", desc := "()I" } : Jvm.MethodName)) ∈ jWL := jw_mem 1067 (by decide +kernel) (by decide +kernel)
theorem wd84_1068 : (Jvm.Cond.code ({ cls := "java/lang/StringBuilder", name := "length", desc := "()I" } : Jvm.MethodName) prog_25_method_93_code (1 : Nat) (Option.some Jvm.ClassFile.FieldType.int)) ∈ jWL := jw_mem 1068 (by decide +kernel) (by decide +kernel)
theorem wd84_1070 : (Jvm.Cond.code ({ cls := "java/lang/AbstractStringBuilder", name := "length", desc := "()I" } : Jvm.MethodName) prog_9_method_6_code (1 : Nat) (Option.some Jvm.ClassFile.FieldType.int)) ∈ jWL := jw_mem 1070 (by decide +kernel) (by decide +kernel)
section JT5
variable {M0 : jMe} {Ln : Nat} {xs : Nat → Int32} {R : Room} {nw : List Nat} {Z : jFin} {pc pc' : Nat} {L L' : List (Nat × Value)} {st st' : List Value} {h h' : jH} {nc ns nc' ns' mc ms : Nat} {Pn : jPn} {Px : jPx}
/-- a constructor that asks what the law knows -/
theorem j_callIF {N : jMe} {idx n d' mc' ms' k : Nat} {nw' : List Nat} {Pn' : jPn} {as rest : List Value} (hM : jMF N Ln xs d' mc' ms' nw' (.ref k :: as) h Pn' jno) (hd : decode M0.2.1 pc = .ok (.invokespecial idx, 3)) (hc : jCa M0.1.cls idx N n) (hm : jmI N) (ht : N.2.2.2.2.1 = []) (hr : N.2.2.2.1 = none) (hnm : N.1.name = "<init>") (hnw : pNw nw) (hn : as.length = n)
    (hst : as.reverse ++ .ref k :: rest = st) (hsub : ∀ k ∈ nw', k ∈ nw) (hfr : jfr nw' L rest) (hcat : (rest.map fun v => v.category).sum ≤ 8) (hR : d' + 1 ≤ R.frames ∧ 8 + (N.2.2.1 + 11) + 64 * d' ≤ R.locals) (hroom : nc + mc' ≤ R.cells ∧ ns + ms' ≤ R.slots)
    (kn : ∀ (r : Option Value) (h' : jH), Pn' r h' → J (pMe M0 Ln xs) R nw Z (pc + 3) L (r.toList ++ rest) h' (nc + mc') (ns + ms')) : J (pMe M0 Ln xs) R nw Z pc L st h nc ns := by
  refine J.call (Px' := jno) hsub hfr (fun p l e s m args below meth c H locs ls D cy ad ad0 bs hX => ?_) kn (fun E h' q => q.elim)
  subst hst
  obtain ⟨⟨y1, y2, y3, y4, y5⟩, ⟨-, -, -, y6, -⟩, x3, x4, x5, x6, x7, x8, x9, x10⟩ := hX
  have hv := hM.met y6 D cy ad bs
  have hH : jHd N = .code N.1 N.2.1 N.2.2.1 none := by rw [j_hd ht, hr]
  rw [hH] at hv
  obtain ⟨m1, m3, m4⟩ := hm
  obtain ⟨c1, c2, c3⟩ := hc
  have hG : GoodIn jWL (.code N.1 N.2.1 N.2.2.1 none :: jWL) := by
    rw [← hH]
    exact j_gin (ws := []) m4 fun w hw => by cases hw
  have cw := cwI (R := R) (rm := jR d' mc' ms') (mc := mc') (ms := ms') n y5 hG rfl rfl rfl (y5 _ m3) (y5 _ c1) (y5 _ m1) hnm ⟨c2.1, c2.2, c3⟩ hR
  exact ⟨_, va_Run.vx (va_runI (b := ad k) (As := as.map (jv ad)) ⟨y1, y2, y3, y4, y5⟩ hv cw ⟨j_blindF, j_startF (av := (Value.ref k :: as).map (jv ad)) x3 (x10.ad hnw x7) x4 x5 x6⟩ rfl (by rw [List.length_map]; exact hn) x8.1 (by simp [jv, List.map_reverse]) (by show 2 * 0 + _ ≤ 8; rw [j_cats]; omega) hd hroom)⟩
/-- a method of StringBuilder's superclass that StringBuilder has anew -/
theorem j_callUO {M N : jMe} {x : MethodName} {b0 : ByteArray} {m0 : Nat} {r0 : Option FieldType} {idx n d' mc' ms' k : Nat} {nw' : List Nat} {Pn' : jPn} {as rest fs : List Value} (hM : jM N d' mc' ms' nw' (.ref k :: as) h Pn' jno) (hd : decode M.2.1 pc = .ok (.invokevirtual idx, 3)) (c1 : Cond.methodLink M.1.cls idx x ∈ jWL) (m2 : Cond.sameMethod x.cls RJ5 x.name x.desc ∈ jWL) (m1 : Cond.instanceMethod ⟨RJ5, x.name, x.desc⟩ ∈ jWL) (hsel : Cond.selects RJ4 x N.1 ∈ jWL) (m3 : Cond.instanceMethod N.1 ∈ jWL) (m4 : Cond.initialized N.1.cls ∈ jWL) (m5 : jHd N ∈ jWL) (h0 : Cond.code ⟨RJ5, x.name, x.desc⟩ b0 m0 r0 ∈ jWL) (c3 : (parseMethodDescriptor x.desc).map (fun d => d.parameters.length) = some n) (ht : N.2.2.2.2.1 = []) (hn : as.length = n)
    (ha : h k = some (jO 6 fs)) (hst : as.reverse ++ .ref k :: rest = st) (hsub : ∀ k ∈ nw', k ∈ nw) (hfr : jfr nw' L rest) (hcat : (rest.map fun v => v.category).sum ≤ 8) (hR : d' + 1 ≤ R.frames ∧ 8 + (N.2.2.1 + 11) + 64 * d' ≤ R.locals) (hroom : nc + mc' ≤ R.cells ∧ ns + ms' ≤ R.slots)
    (kn : ∀ (r : Option Value) (h' : jH), Pn' r h' → J M R nw Z (pc + 3) L (r.toList ++ rest) h' (nc + mc') (ns + ms')) : J M R nw Z pc L st h nc ns := by
  refine J.call (Px' := jno) hsub hfr (fun p l e s m args below meth c H locs ls D cy ad ad0 bs hX => ?_) kn (fun E h' q => q.elim)
  subst hst
  obtain ⟨⟨y1, y2, y3, y4, y5⟩, ⟨-, -, -, y6, -⟩, x3, x4, x5, x6, x7, x8, x9, x10⟩ := hX
  have hv := hM.met y6 D cy ad bs
  rw [j_hd ht] at hv
  rw [j_hd ht] at m5
  have hcw : ∀ w ∈ (Cond.code N.1 N.2.1 N.2.2.1 N.2.2.2.1 :: jWL), w ∈ jWL := fun w hw => by
    rcases List.mem_cons.mp hw with q | q
    · rw [q]; exact m5
    · exact q
  have hG : GoodIn jWL (va_wsO M.1.cls idx RJ4 RJ5 x N.1 (.code N.1 N.2.1 N.2.2.1 N.2.2.2.1 :: jWL)) := fun w hw => by
    rcases List.mem_append.mp hw with h1 | h1
    · simp only [List.mem_cons, List.not_mem_nil, or_false] at h1
      rcases h1 with rfl | rfl | rfl | rfl | rfl | rfl
      · exact ⟨c1, (jw_good c1).2⟩
      · exact ⟨m2, (jw_good m2).2⟩
      · exact ⟨m1, (jw_good m1).2⟩
      · exact ⟨hsel, (jw_good hsel).2⟩
      · exact ⟨m3, (jw_good m3).2⟩
      · exact ⟨m4, (jw_good m4).2⟩
    · exact ⟨hcw w h1, (jw_good (hcw w h1)).2⟩
  have cw := va_cwO (R := R) (s := s) (args := args) (rm := jR d' mc' ms') (mc := mc') (ms := ms') n y5 hG rfl rfl rfl h0 ⟨by decide, by decide, c3⟩ hR
  obtain ⟨cell, g1, g2, g3⟩ := va_recv (q0 := 0) (ci := 6) x4 (j_one (x6.2.1 k _ ha)) rfl rfl
  exact ⟨_, va_Run.vx (va_runU (C := RJ4) (b := ad k) (As := as.map (jv ad)) ⟨y1, y2, y3, y4, y5⟩ hv cw ⟨j_blind, ⟨cell, g1, g2, g3⟩, j_start (av := (Value.ref k :: as).map (jv ad)) x3 x4 x5 x6⟩ rfl (by rw [List.length_map]; exact hn) x8.1 (by simp [jv, List.map_reverse]) (by show 2 * 0 + _ ≤ 8; rw [j_cats]; omega) hd hroom)⟩
end JT5
section JT6
variable {Ln : Nat} {xs : Nat → Int32} {h : jH}
theorem ct_checkLength {m : Nat} (hm : m ≤ 34) : jM mJ7_checkLength_df160 0 0 0 [] [iv 0, iv m] h (fun r h' => r = none ∧ h = h') jno := by
  refine j_method (by decide +kernel) rfl (fun _ _ _ => trivial) (Nat.le_of_ble_eq_true rfl) ?_
  generalize hZ : jZ [] 0 0 _ _ = Z
  show J mJ7_checkLength_df160 (jR 0 0 0) [] Z 0 [(0, iv 0), (1, iv m)] [] h 0 0
  refine j_iload_n dJ7_checkLength_df160_0 rfl rfl ?_
  refine j_iload_n dJ7_checkLength_df160_1 rfl rfl ?_
  refine j_icmp_ge (tgt := 37) dJ7_checkLength_df160_2 (by decide) (by omega) (fun _ => ?_) (fun c => absurd (by omega) c)
  subst hZ
  exact j_return dJ7_checkLength_df160_37 rfl ⟨rfl, rfl⟩ (Nat.le_refl _) (Nat.le_refl _)
/-- the first letters of a row, in a row of their own -/
def jCR (a kb m : Nat) (f : Int → Int) (h h' : jH) : Prop := (∃ g, h' kb = some (jA 3 m g) ∧ (∀ j : Nat, j < m → g j = f j) ∧ ∀ j, 0 ≤ g j ∧ g j < 128) ∧ ∀ j, j ≠ kb → h' j = h j
theorem ct_copyOfRangeByte {a kb n m : Nat} {f : Int → Int} (ha : h a = some (jA 3 n f)) (hb : ∀ j, 0 ≤ f j ∧ f j < 128) (hm : m ≤ n ∧ n ≤ 34) (hN : h kb = none) (hne : kb ≠ a) : jM mJ7_copyOfRangeByte_39247 3 1 34 [kb] [.ref a, iv 0, iv m] h (fun r h' => r = some (.ref kb) ∧ jCR a kb m f h h') jno := by
  refine j_method (by decide +kernel) rfl (fun _ _ _ => trivial) (Nat.le_of_ble_eq_true rfl) ?_
  generalize hZ : jZ [kb] 1 34 _ _ = Z
  show J mJ7_copyOfRangeByte_39247 (jR 3 1 34) [kb] Z 0 [(0, .ref a), (1, iv 0), (2, iv m)] [] h 0 0
  refine j_iload_n dJ7_copyOfRangeByte_39247_0 rfl rfl ?_
  refine j_iload_n dJ7_copyOfRangeByte_39247_1 rfl rfl ?_
  refine j_callS (ct_checkLength (m := m) (by omega)) dJ7_copyOfRangeByte_39247_2 jc_J7_343 jmS_J7_checkLength_df160 rfl rfl rfl (by simp) jfr_nil (Nat.le_of_ble_eq_true rfl) ⟨Nat.le_of_ble_eq_true rfl, Nat.le_of_ble_eq_true rfl⟩ ⟨Nat.le_of_ble_eq_true rfl, Nat.le_of_ble_eq_true rfl⟩ (fun r h1 hp9 => ?_) (fun E h9 q => q.elim)
  obtain ⟨rfl, rfl⟩ := hp9
  refine j_iload_n dJ7_copyOfRangeByte_39247_5 rfl rfl ?_
  refine j_iload_n dJ7_copyOfRangeByte_39247_6 rfl rfl ?_
  refine j_isub dJ7_copyOfRangeByte_39247_7 ?_
  rw [Int.sub_zero]
  refine j_istore_n (L' := [(0, _), (1, _), (2, _), (3, _)]) dJ7_copyOfRangeByte_39247_8 rfl (Nat.le_of_ble_eq_true rfl) rfl ?_
  refine j_iload_n dJ7_copyOfRangeByte_39247_9 rfl rfl ?_
  refine j_newarray (t := 3) (k := kb) (n := m) (f := fun _ => 0) rfl dJ7_copyOfRangeByte_39247_10 rfl (by decide) wd84_224 (by omega) hN (by simp) (jfr_1 (by intro q hq e; simp only [List.mem_cons, List.not_mem_nil, or_false] at hq; rcases hq with hq | hq | hq | hq <;> (subst hq; dsimp only at e; cases e; try exact hne rfl)) (by simp)) ⟨Nat.le_of_ble_eq_true rfl, by show 0 + 0 + m ≤ 34; omega⟩ ?_
  refine j_astore (L' := [(0, _), (1, _), (2, _), (3, _), (4, _)]) dJ7_copyOfRangeByte_39247_12 (Nat.le_of_ble_eq_true rfl) rfl ?_
  refine j_aload_n dJ7_copyOfRangeByte_39247_14 rfl rfl ?_
  refine j_iload_n dJ7_copyOfRangeByte_39247_15 rfl rfl ?_
  refine j_aload dJ7_copyOfRangeByte_39247_16 rfl ?_
  refine j_iconst dJ7_copyOfRangeByte_39247_18 ?_
  refine j_aload_n dJ7_copyOfRangeByte_39247_19 rfl rfl ?_
  have ha2 : jup h kb (jA 3 m fun _ => 0) a = some (jA 3 n f) := jup_n (fun e => hne e.symm) ha
  refine j_arraylength dJ7_copyOfRangeByte_39247_20 ha2 (by decide) ?_
  refine j_iload_n dJ7_copyOfRangeByte_39247_21 rfl rfl ?_
  refine j_isub dJ7_copyOfRangeByte_39247_22 ?_
  rw [Int.sub_zero]
  refine j_iload_n dJ7_copyOfRangeByte_39247_23 rfl rfl ?_
  refine j_mmin wd84_939 wd84_940 wd84_56 wd84_941 (by omega) dJ7_copyOfRangeByte_39247_24 (by first | decide | exact ⟨by decide, by show 0 + 0 + m ≤ 34; omega⟩) (by first | decide | exact ⟨by decide, by show 0 + 0 + m ≤ 34; omega⟩) (Nat.le_of_ble_eq_true rfl) ?_
  rw [show min (n : Int) (m : Int) = (m : Int) by omega]
  refine j_copyT (t := 3) (n0 := n) (n1 := m) (by decide) dJ7_copyOfRangeByte_39247_27 wd84_942 wd84_944 wd84_943 wd84_68 ha2 jup_s ⟨by omega, by omega, by omega, by omega, by omega, by omega, by omega⟩ (fun x => jfit_byte (by have := hb x; omega)) ⟨Nat.le_of_ble_eq_true rfl, Nat.le_of_ble_eq_true rfl⟩ (Nat.le_of_ble_eq_true rfl) ?_
  refine j_aload dJ7_copyOfRangeByte_39247_30 rfl ?_
  subst hZ
  refine j_areturn dJ7_copyOfRangeByte_39247_32 rfl (Or.inr ⟨_, rfl⟩) ⟨rfl, ⟨_, jup_s, fun j hj => ?_, fun j => ?_⟩, fun j hj => jup_n hj (jup_n hj rfl)⟩ (Nat.le_refl _) (by show 0 + 0 + m ≤ 34; omega)
  · refine (if_pos (by omega)).trans ?_
    rw [show 0 + ((j : Int) - 0) = (j : Int) by omega]
  · unfold jcpy
    split
    · exact hb _
    · exact ⟨Int.le_refl _, by show (0 : Int) < 128; decide⟩
theorem ct_copyOfRange {a kb n m : Nat} {f : Int → Int} (ha : h a = some (jA 3 n f)) (hb : ∀ j, 0 ≤ f j ∧ f j < 128) (hm : m ≤ n ∧ n ≤ 34) (hN : h kb = none) (hne : kb ≠ a) : jMF mJ7_copyOfRange_39247 Ln xs 4 1 34 [kb] [.ref a, iv 0, iv m] h (fun r h' => r = some (.ref kb) ∧ jCR a kb m f h h') jno := by
  refine j_methodF (by decide +kernel) rfl (Nat.le_of_ble_eq_true rfl) ?_
  generalize hZ : jZ [kb] 1 34 _ _ = Z
  show J (pMe mJ7_copyOfRange_39247 Ln xs) (jR 4 1 34) [kb] Z 0 [(0, .ref a), (1, iv 0), (2, iv m)] [] h 0 0
  refine j_iload_n dJ7_copyOfRange_39247_0 rfl rfl ?_
  refine j_if_ne (tgt := 10) dJ7_copyOfRange_39247_1 (by decide) (by omega) (fun c => absurd rfl c) (fun _ => ?_)
  refine j_iload_n dJ7_copyOfRange_39247_4 rfl rfl ?_
  refine j_aload_n dJ7_copyOfRange_39247_5 rfl rfl ?_
  refine j_arraylength dJ7_copyOfRange_39247_6 ha (by decide) ?_
  refine j_icmp_eq (tgt := 17) dJ7_copyOfRange_39247_7 (by decide) (by omega) (fun c => ?_) (fun c => ?_)
  · have hmn : m = n := by omega
    subst hmn
    refine j_aload_n dJ7_copyOfRange_39247_17 rfl rfl ?_
    refine j_cloneB (k := kb) dJ7_copyOfRange_39247_18 wd84_932 (Nat.le_of_ble_eq_true rfl) ha hb hN (by simp) (jfr_1 (by intro q hq e; simp only [List.mem_cons, List.not_mem_nil, or_false] at hq; rcases hq with hq | hq | hq <;> (subst hq; dsimp only at e; cases e; try exact hne rfl)) (by simp)) ⟨Nat.le_of_ble_eq_true rfl, Nat.le_of_ble_eq_true rfl⟩ ⟨Nat.le_of_ble_eq_true rfl, by show 0 + m ≤ 34; omega⟩ ?_
    refine j_castB dJ7_copyOfRange_39247_21 wd84_938 jup_s ?_
    subst hZ
    exact j_areturn dJ7_copyOfRange_39247_24 rfl (Or.inr ⟨_, rfl⟩) ⟨rfl, ⟨f, jup_s, fun _ _ => rfl, hb⟩, fun j hj => jup_n hj rfl⟩ (Nat.le_refl _) (by show 0 + m ≤ 34; omega)
  · refine j_aload_n dJ7_copyOfRange_39247_10 rfl rfl ?_
    refine j_iload_n dJ7_copyOfRange_39247_11 rfl rfl ?_
    refine j_iload_n dJ7_copyOfRange_39247_12 rfl rfl ?_
    refine j_callS (ct_copyOfRangeByte ha hb hm hN hne) dJ7_copyOfRange_39247_13 jc_J7_339 jmS_J7_copyOfRangeByte_39247 rfl rfl rfl (fun _ z => z) (jfr_1 (by intro q hq e; simp only [List.mem_cons, List.not_mem_nil, or_false] at hq; rcases hq with hq | hq | hq <;> (subst hq; dsimp only at e; cases e; try exact hne rfl)) (by simp)) (Nat.le_of_ble_eq_true rfl) ⟨Nat.le_of_ble_eq_true rfl, Nat.le_of_ble_eq_true rfl⟩ ⟨Nat.le_of_ble_eq_true rfl, Nat.le_of_ble_eq_true rfl⟩ (fun r h1 hp9 => ?_) (fun E h9 q => q.elim)
    obtain ⟨rfl, z⟩ := hp9
    subst hZ
    exact j_areturn dJ7_copyOfRange_39247_16 rfl (Or.inr ⟨_, rfl⟩) ⟨rfl, z⟩ (Nat.le_refl _) (Nat.le_refl _)
theorem cb_getValue {k p n : Nat} {G : fS} (hG : jOb (sB p n) k G h) : jM mJ5_getValue_6d5f1 0 0 0 [] [.ref k] h (jRet (.ref (k + p)) h) jno := by
  refine j_method (by decide +kernel) rfl (fun _ _ _ => trivial) (Nat.le_of_ble_eq_true rfl) ?_
  generalize hZ : jZ [] 0 0 _ _ = Z
  show J mJ5_getValue_6d5f1 (jR 0 0 0) [] Z 0 [(0, .ref k)] [] h 0 0
  refine j_aload_n dJ5_getValue_6d5f1_0 rfl rfl ?_
  refine j_getfield (v := .ref (k + p)) dJ5_getValue_6d5f1_1 jf_J5_15 hG.1 rfl ?_
  subst hZ
  exact j_areturn dJ5_getValue_6d5f1_4 rfl (Or.inr ⟨_, rfl⟩) ⟨rfl, rfl⟩ (Nat.le_refl _) (Nat.le_refl _)
/-- the constructor of a text out of a builder -/
theorem ct_init2 {k r : Nat} {l : List Int} (hL : jBl k l h) (hr : h r = some (jO 5 [.null, iv 0, iv 0, iv 0])) (hN : h (r + 1) = none) (hd : r + 2 ≤ k ∨ k + 3 ≤ r) (hk : r + 1 ≠ 150 ∧ (r + 1 < 400 ∨ 420 ≤ r + 1)) : jMF mJ0_init_db425 Ln xs 5 1 34 [r + 1] [.ref r, .ref k, .null] h (fun r' h' => r' = none ∧ jSt r l h' ∧ ∀ j, j ≠ r → j ≠ r + 1 → h' j = h j) jno := by
  obtain ⟨p, n, G, hq, hG, hc0, hc3, ht, hb, hc, hcn⟩ := hL
  have hpn := hq.o
  have hnw := pNw1 hk
  refine j_methodF (by decide +kernel) rfl (Nat.le_of_ble_eq_true rfl) ?_
  generalize hZ : jZ [r + 1] 1 34 _ _ = Z
  show J (pMe mJ0_init_db425 Ln xs) (jR 5 1 34) [r + 1] Z 0 [(0, .ref r), (1, .ref k), (2, .null)] [] h 0 0
  refine J.keep [0, 1] (L' := [(0, _), (1, _)]) rfl ?_
  refine j_aload_n dJ0_init_db425_0 rfl rfl ?_
  refine j_objInit dJ0_init_db425_1 wd84_1057 wd84_84 wd84_85 (by decide) (Nat.le_of_ble_eq_true rfl) ?_
  refine j_aload_n dJ0_init_db425_4 rfl rfl ?_
  refine j_callU (cb_getValue hG) dJ0_init_db425_5 jcu_J0_552 jmU_J5_getValue_6d5f1 (.inl wd84_1061) rfl rfl hG.1 rfl (by simp) jfr_nil (Nat.le_of_ble_eq_true rfl) ⟨Nat.le_of_ble_eq_true rfl, Nat.le_of_ble_eq_true rfl⟩ ⟨Nat.le_of_ble_eq_true rfl, Nat.le_of_ble_eq_true rfl⟩ (fun r' h1 hp9 => ?_)
  obtain ⟨rfl, rfl⟩ := hp9
  refine j_astore_n (L' := [(0, _), (1, _), (3, _)]) dJ0_init_db425_8 rfl (Nat.le_of_ble_eq_true rfl) rfl ?_
  refine j_aload_n dJ0_init_db425_9 rfl rfl ?_
  refine j_callUO (x := ⟨RJ5, "length", "()I"⟩) (cb4_length hG) dJ0_init_db425_10 wd84_1063 wd84_1065 wd84_1064 wd84_1066 wd84_1067 wd84_53 wd84_1068 wd84_1070 (by decide +kernel) rfl rfl hG.1 rfl (by simp) jfr_nil (Nat.le_of_ble_eq_true rfl) ⟨Nat.le_of_ble_eq_true rfl, Nat.le_of_ble_eq_true rfl⟩ ⟨Nat.le_of_ble_eq_true rfl, Nat.le_of_ble_eq_true rfl⟩ (fun r' h1 hp9 => ?_)
  obtain ⟨rfl, rfl⟩ := hp9
  refine j_istore (L' := [(0, _), (1, _), (3, _), (4, _)]) dJ0_init_db425_13 (Nat.le_of_ble_eq_true rfl) rfl ?_
  refine j_aload_n dJ0_init_db425_15 rfl rfl ?_
  refine j_callU (cb_isLatin1 hpn hG hc0) dJ0_init_db425_16 jcu_J0_1047 jmU_J5_isLatin1_aae02 (.inl wd84_948) rfl rfl hG.1 rfl (by simp) jfr_nil (Nat.le_of_ble_eq_true rfl) ⟨Nat.le_of_ble_eq_true rfl, Nat.le_of_ble_eq_true rfl⟩ ⟨Nat.le_of_ble_eq_true rfl, Nat.le_of_ble_eq_true rfl⟩ (fun r' h1 hp9 => ?_)
  obtain ⟨rfl, rfl⟩ := hp9
  refine j_if_eq (tgt := 41) dJ0_init_db425_19 (by decide) (by omega) (fun c => absurd c (by decide)) (fun _ => ?_)
  refine j_aload_n dJ0_init_db425_22 rfl rfl ?_
  refine j_iconst dJ0_init_db425_23 ?_
  refine j_putfieldF (v := iv 0) (fs' := [.null, iv 0, iv 0, iv 0]) dJ0_init_db425_24 jf_J0_15 (fun q hq => by cases hq; exact ⟨rfl, rfl, rfl⟩) rfl (jHold_byte (by omega)) (fun k9 q9 => by cases q9) hr (Nat.le_of_ble_eq_true rfl) rfl ?_
  refine j_aload_n dJ0_init_db425_27 rfl rfl ?_
  refine j_aload_n dJ0_init_db425_28 rfl rfl ?_
  refine j_iconst dJ0_init_db425_29 ?_
  refine j_iload dJ0_init_db425_30 rfl ?_
  rw [hc3]
  have hp9 : k + p ≠ r := by omega
  have ha : jup h r (jO 5 [.null, iv 0, iv 0, iv 0]) (k + p) = some (jA 3 n (G 0)) := jup_n hp9 (hG.a 0 p 3 n rfl)
  refine j_callSF (ct_copyOfRange (m := l.length) ha hb ⟨by omega, by omega⟩ (jup_n (by omega) hN) (by omega)) dJ0_init_db425_32 jc_J0_54 jmS_J7_copyOfRange_39247 rfl hnw rfl rfl (fun _ z => z) (jfr_1 (by intro q hq e; simp only [List.mem_cons, List.not_mem_nil, or_false] at hq; rcases hq with hq | hq | hq | hq <;> (subst hq; dsimp only at e; first | (have e2 : r = r + 1 := Value.ref.inj e; omega) | (have e2 : k = r + 1 := Value.ref.inj e; omega) | (have e2 : k + p = r + 1 := Value.ref.inj e; omega) | (cases e; done))) (fun v hv e => by
    rcases List.mem_cons.mp hv with q | q
    · rw [q] at e; (have e2 : r = r + 1 := Value.ref.inj e; omega)
    · exact (List.not_mem_nil q).elim)) (Nat.le_of_ble_eq_true rfl) ⟨Nat.le_of_ble_eq_true rfl, Nat.le_of_ble_eq_true rfl⟩ ⟨Nat.le_of_ble_eq_true rfl, Nat.le_of_ble_eq_true rfl⟩ (fun r' h1 hp9 => ?_) (fun E h9 q => q.elim)
  obtain ⟨rfl, ⟨g, g1, g2, g3⟩, g4⟩ := hp9
  refine j_putfieldF (v := .ref (r + 1)) (fs' := [.ref (r + 1), iv 0, iv 0, iv 0]) dJ0_init_db425_35 jf_J0_9 (fun q hq => by cases hq; exact ⟨rfl, rfl, rfl⟩) rfl (jHold_arr _ _) (fun k9 q9 => by cases q9; rw [g1]; intro z; cases z) ((g4 r (by omega)).trans jup_s) (Nat.le_of_ble_eq_true rfl) rfl ?_
  refine j_goto (tgt := 97) dJ0_init_db425_38 (by decide) ?_
  subst hZ
  refine j_return dJ0_init_db425_97 rfl ⟨rfl, ⟨g, jup_s, (jup_n (by omega) g1), fun j hj => ?_, g3⟩, fun j j0 j1 => (jup_n j0 ((g4 j j1).trans (jup_n j0 rfl)))⟩ (Nat.le_refl _) (Nat.le_refl _)
  rw [g2 j hj, ht j (by omega) (by omega), List.getD_eq_getElem?_getD]
  rfl
theorem ct_init1 {k r : Nat} {l : List Int} (hL : jBl k l h) (hr : h r = some (jO 5 [.null, iv 0, iv 0, iv 0])) (hN : h (r + 1) = none) (hd : r + 2 ≤ k ∨ k + 3 ≤ r) (hk : r + 1 ≠ 150 ∧ (r + 1 < 400 ∨ 420 ≤ r + 1)) : jMF mJ0_init_81219 Ln xs 6 1 34 [r + 1] [.ref r, .ref k] h (fun r' h' => r' = none ∧ jSt r l h' ∧ ∀ j, j ≠ r → j ≠ r + 1 → h' j = h j) jno := by
  refine j_methodF (by decide +kernel) rfl (Nat.le_of_ble_eq_true rfl) ?_
  generalize hZ : jZ [r + 1] 1 34 _ _ = Z
  show J (pMe mJ0_init_81219 Ln xs) (jR 6 1 34) [r + 1] Z 0 [(0, .ref r), (1, .ref k)] [] h 0 0
  refine j_aload_n dJ0_init_81219_0 rfl rfl ?_
  refine j_aload_n dJ0_init_81219_1 rfl rfl ?_
  refine j_aconst_null dJ0_init_81219_2 ?_
  refine j_callIF (ct_init2 hL hr hN hd hk) dJ0_init_81219_3 jc_J0_489 jmI_J0_init_db425 rfl rfl rfl (pNw1 hk) rfl rfl (fun _ z => z) (jfr_1 (by intro q hq e; simp only [List.mem_cons, List.not_mem_nil, or_false] at hq; rcases hq with hq | hq <;> (subst hq; dsimp only at e; cases e; try omega)) (by simp)) (Nat.le_of_ble_eq_true rfl) ⟨Nat.le_of_ble_eq_true rfl, Nat.le_of_ble_eq_true rfl⟩ ⟨Nat.le_of_ble_eq_true rfl, Nat.le_of_ble_eq_true rfl⟩ (fun r' h1 hp9 => ?_)
  obtain ⟨rfl, z⟩ := hp9
  subst hZ
  exact j_return dJ0_init_81219_6 rfl ⟨rfl, z⟩ (Nat.le_refl _) (Nat.le_refl _)
theorem pNw2 {k : Nat} (hk : (k ≠ 150 ∧ k + 1 ≠ 150) ∧ (k + 1 < 400 ∨ 420 ≤ k)) : pNw [k, k + 1] := fun j hj => by
  simp only [List.mem_cons, List.not_mem_nil, or_false] at hj
  omega
theorem ct_toString {k r : Nat} {l : List Int} (hL : jBl k l h) (hr : h r = none) (hN : h (r + 1) = none) (hd : r + 2 ≤ k ∨ k + 3 ≤ r) (hk : (r ≠ 150 ∧ r + 1 ≠ 150) ∧ (r + 1 < 400 ∨ 420 ≤ r)) : jMF mJ4_toString_0e30d Ln xs 7 2 38 [r, r + 1] [.ref k] h (fun r' h' => r' = some (.ref r) ∧ jSt r l h' ∧ ∀ j, j ≠ r → j ≠ r + 1 → h' j = h j) jno := by
  refine j_methodF (by decide +kernel) rfl (Nat.le_of_ble_eq_true rfl) ?_
  generalize hZ : jZ [r, r + 1] 2 38 _ _ = Z
  show J (pMe mJ4_toString_0e30d Ln xs) (jR 7 2 38) [r, r + 1] Z 0 [(0, .ref k)] [] h 0 0
  refine j_new (k := r) (ci := 5) (fs := [.null, iv 0, iv 0, iv 0]) tyJ0 dJ4_toString_0e30d_0 wd84_1050 wd84_671 wd84_54 rfl tyJ0_ok (fun j hj => match j, hj with | 0, _ => rfl | 1, _ => rfl | 2, _ => rfl | 3, _ => rfl | n9 + 4, hj => absurd hj (by omega)) (jz0_of rfl) hr (by simp) (jfr_1 (by intro q hq e; simp only [List.mem_cons, List.not_mem_nil, or_false] at hq; subst hq; dsimp only at e; cases e; omega) (by simp)) ⟨Nat.le_of_ble_eq_true rfl, Nat.le_of_ble_eq_true rfl⟩ ?_
  refine j_dup dJ4_toString_0e30d_3 rfl ?_
  refine j_aload_n dJ4_toString_0e30d_4 rfl rfl ?_
  have e0 : ∀ j, j ≠ r → jup h r (jO 5 [.null, iv 0, iv 0, iv 0]) j = h j := fun j hj => jup_n hj rfl
  refine j_callIF (ct_init1 (hL.eq fun j j0 j1 => e0 j (by omega)) jup_s ((e0 _ (by omega)).trans hN) hd (by omega)) dJ4_toString_0e30d_5 jc_J4_137 jmI_J0_init_81219 rfl rfl rfl (pNw2 hk) rfl rfl (by simp) (jfr_1 (by intro q hq e; simp only [List.mem_cons, List.not_mem_nil, or_false] at hq; subst hq; dsimp only at e; cases e; omega) (by intro v hv e; simp only [List.mem_cons, List.not_mem_nil, or_false] at hv; subst hv; cases e)) (Nat.le_of_ble_eq_true rfl) ⟨Nat.le_of_ble_eq_true rfl, Nat.le_of_ble_eq_true rfl⟩ ⟨Nat.le_of_ble_eq_true rfl, Nat.le_of_ble_eq_true rfl⟩ (fun r' h1 hp9 => ?_)
  obtain ⟨rfl, z1, z2⟩ := hp9
  subst hZ
  exact j_areturn dJ4_toString_0e30d_8 rfl (Or.inl ⟨_, rfl⟩) ⟨rfl, z1, fun j j0 j1 => (z2 j j0 j1).trans (e0 j j0)⟩ (Nat.le_refl _) (Nat.le_refl _)
/-- a text's letter -/
theorem ct_char1 {a n : Nat} {f : Int → Int} {i : Int} (ha : h a = some (jA 3 n f)) (hi : 0 ≤ i ∧ i < n ∧ (n : Int) ≤ 1000) (hb : ∀ j, 0 ≤ f j ∧ f j < 128) {kk : Nat} (hN : h kk = none) (hne : kk ≠ a) : jM mJ1_charAt_3b067 2 0 0 [kk] [.ref a, iv i] h (jRet (iv (f i)) h) jno := by
  refine j_method (by decide +kernel) rfl (fun _ _ _ => trivial) (Nat.le_of_ble_eq_true rfl) ?_
  generalize hZ : jZ [kk] 0 0 _ _ = Z
  show J mJ1_charAt_3b067 (jR 2 0 0) [kk] Z 0 [(0, .ref a), (1, iv i)] [] h 0 0
  refine j_iload_n dJ1_charAt_3b067_0 rfl rfl ?_
  refine j_aload_n dJ1_charAt_3b067_1 rfl rfl ?_
  refine j_arraylength dJ1_charAt_3b067_2 ha (by decide) ?_
  refine j_callS (cb_ck0 (i := i) (n := n) (by omega) hN) dJ1_charAt_3b067_3 jc_J1_9 jmS_J0_checkIndex_df160 rfl rfl rfl (fun _ z => z) (jfr_1 (by intro q hq e; simp only [List.mem_cons, List.not_mem_nil, or_false] at hq; rcases hq with hq | hq <;> (subst hq; dsimp only at e; cases e; try exact hne rfl)) (by simp)) (Nat.le_of_ble_eq_true rfl) ⟨Nat.le_of_ble_eq_true rfl, Nat.le_of_ble_eq_true rfl⟩ ⟨Nat.le_of_ble_eq_true rfl, Nat.le_of_ble_eq_true rfl⟩ (fun r h1 hp9 => ?_) (fun E h9 q => q.elim)
  obtain ⟨rfl, rfl⟩ := hp9
  refine j_aload_n dJ1_charAt_3b067_6 rfl rfl ?_
  refine j_iload_n dJ1_charAt_3b067_7 rfl rfl ?_
  refine j_baload (f := f) dJ1_charAt_3b067_8 ha ⟨hi.1, hi.2.1⟩ (by omega) ?_
  refine j_sipush dJ1_charAt_3b067_9 (by decide +kernel) ?_
  refine j_iand (z := f i) dJ1_charAt_3b067_12 (jz_and255 (by have := hb i; omega)) ?_
  refine j_i2c (v := f i) dJ1_charAt_3b067_13 (jz_i2c (by have := hb i; omega)) ?_
  subst hZ
  exact j_ireturn dJ1_charAt_3b067_14 rfl (jn_char (by have := hb i; omega)) ⟨rfl, rfl⟩ (Nat.le_refl _) (Nat.le_refl _)
theorem ct_charAt {r : Nat} {l : List Int} {i : Nat} (w : jSt r l h) (hi : i < l.length) (hl : l.length ≤ 1000) (hN : h 300 = none) (hne : 300 ≠ r ∧ 300 ≠ r + 1) : jMF mJ0_charAt_5068e Ln xs 3 0 0 [300] [.ref r, iv (i : Int)] h (jRet (iv (l.getD i 0)) h) jno := by
  have w1 : jTx r l h := .inr w
  have hnw : pNw [300] := pNw1 (by omega)
  obtain ⟨f, f1, f2, f3, f4⟩ := w
  refine j_methodF (by decide +kernel) rfl (Nat.le_of_ble_eq_true rfl) ?_
  generalize hZ : jZ [300] 0 0 _ _ = Z
  show J (pMe mJ0_charAt_5068e Ln xs) (jR 3 0 0) [300] Z 0 [(0, .ref r), (1, iv (i : Int))] [] h 0 0
  refine j_aload_n dJ0_charAt_5068e_0 rfl rfl ?_
  refine j_callVF (ct_isLatin1 w1) dJ0_charAt_5068e_1 jc_J0_492 jmV_J0_isLatin1_aae02 rfl hnw rfl (pRc.t w1 hnw) rfl (by simp) jfr_nil (Nat.le_of_ble_eq_true rfl) ⟨Nat.le_of_ble_eq_true rfl, Nat.le_of_ble_eq_true rfl⟩ ⟨Nat.le_of_ble_eq_true rfl, Nat.le_of_ble_eq_true rfl⟩ (fun r' h1 hp9 => ?_) (fun E h9 q => q.elim)
  obtain ⟨rfl, rfl⟩ := hp9
  refine j_if_eq (tgt := 16) dJ0_charAt_5068e_4 (by decide) (by omega) (fun c => absurd c (by decide)) (fun _ => ?_)
  refine j_aload_n dJ0_charAt_5068e_7 rfl rfl ?_
  refine j_getfield (v := .ref (r + 1)) dJ0_charAt_5068e_8 jf_J0_9 f1 rfl ?_
  refine j_iload_n dJ0_charAt_5068e_11 rfl rfl ?_
  refine j_callS (ct_char1 (i := (i : Int)) f2 (by omega) f4 hN hne.2) dJ0_charAt_5068e_12 jc_J0_495 jmS_J1_charAt_3b067 rfl rfl rfl (fun _ z => z) (jfr_1 (by intro q hq e; simp only [List.mem_cons, List.not_mem_nil, or_false] at hq; rcases hq with hq | hq <;> (subst hq; dsimp only at e; cases e; try exact hne.1 rfl)) (by simp)) (Nat.le_of_ble_eq_true rfl) ⟨Nat.le_of_ble_eq_true rfl, Nat.le_of_ble_eq_true rfl⟩ ⟨Nat.le_of_ble_eq_true rfl, Nat.le_of_ble_eq_true rfl⟩ (fun r' h1 hp9 => ?_) (fun E h9 q => q.elim)
  obtain ⟨rfl, rfl⟩ := hp9
  subst hZ
  exact j_ireturn dJ0_charAt_5068e_15 rfl (jn_char (by have := f4 i; omega)) ⟨by rw [f3 i hi], rfl⟩ (Nat.le_refl _) (Nat.le_refl _)
/-- a builder as it begins, and a number behind its text -/
theorem ct_init0 {k : Nat} (hk : h k = some (jO 6 [.null, iv 0, iv 0, iv 0])) (hN1 : h (k + 1) = none) (hN2 : h (k + 2) = none) : jM mJ4_init_da8c8 3 1 16 [k + 1] [.ref k] h (fun r h' => r = none ∧ jBl k [] h' ∧ jEx k 3 h h') jno :=
  (cb4_init hk hN1 hN2).mo fun r h' w => ⟨w.1, w.2.1.cg fun j j0 j1 => absurd j1 (by omega), w.2.2⟩
theorem jBl.n {k : Nat} {l : List Int} {v : Int} {h : jH} {f : Int → Int} (hv : 0 ≤ v ∧ v ≤ 20000000) (w : jSB k ((l.length : Int) + dl v) f h) (e : ∀ j, 0 ≤ j → j < (l.length : Int) → f j = (l[j.toNat]?).getD 0) (e2 : ∀ j : Nat, (j : Int) < dl v → f ((l.length : Int) + dl v - 1 - j) = dgt v j) : jBl k (l ++ dgs 7 v) h := by
  obtain ⟨d1, d2⟩ := dgs_e 7 v hv.1 hv.2 (by have := dl_r v; omega)
  have hlen : (((l ++ dgs 7 v).length : Nat) : Int) = (l.length : Int) + dl v := by rw [List.length_append]; omega
  unfold jBl
  rw [hlen]
  refine jSB.cg w fun j j0 j1 => ?_
  by_cases hj : j < (l.length : Int)
  · rw [e j j0 hj, gD_app1 _ (by omega)]
  · have q := e2 ((l.length : Int) + dl v - 1 - j).toNat (by omega)
    rw [show (l.length : Int) + dl v - 1 - (((l.length : Int) + dl v - 1 - j).toNat : Int) = j by omega] at q
    have q2 := d2 (j - (l.length : Int)).toNat (by omega)
    rw [q, show j.toNat = l.length + (j - (l.length : Int)).toNat by omega, gD_app _ (by omega), List.getD_eq_getElem?_getD, q2]
    exact congrArg (dgt v) (by omega)
theorem ct_appendI {k : Nat} {l : List Int} {v : Int} (hL : jBl k l h) (hv : 0 ≤ v ∧ v ≤ 20000000) (hl : (l.length : Int) + dl v ≤ 34) : jM mJ4_append_bf812 6 1 34 [k + 2] [.ref k, iv v] h (fun r h' => r = some (.ref k) ∧ jBl k (l ++ dgs 7 v) h' ∧ jEx k 3 h h') jno := by
  obtain ⟨p, n, G, hq, hG, hc0, hc3, ht, hb, hc, hcn⟩ := hL
  refine (cb4_appendInt hq hG hc0 hb hv (by omega)).mo fun r h' w => ?_
  obtain ⟨w1, f, w2, w3, w4, w5⟩ := w
  rw [hc3] at w2 w3 w4
  exact ⟨w1, jBl.n hv w4 (fun j j0 j1 => (w2 j j0 j1).trans (ht j j0 j1)) w3, w5⟩
end JT6
