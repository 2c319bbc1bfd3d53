/-! TEXTS: String, and StringBuilder's append of a text and toString -/
theorem wd83_52 : (Jvm.Cond.initialized "java/lang/AbstractStringBuilder") ∈ jWL := jw_mem 52 (by decide +kernel) (by decide +kernel)
theorem wd83_68 : (Jvm.Cond.initialized "java/lang/System") ∈ jWL := jw_mem 68 (by decide +kernel) (by decide +kernel)
theorem wd83_201 : (Jvm.Cond.fieldLink "java/lang/AbstractStringBuilder" (18 : Nat) "java/lang/String" "COMPACT_STRINGS" "Z") ∈ jWL := jw_mem 201 (by decide +kernel) (by decide +kernel)
theorem wd83_906 : (Jvm.Cond.instanceMethod ({ cls := "java/lang/AbstractStringBuilder", name := "append", desc := "(Ljava/lang/String;)Ljava/lang/AbstractStringBuilder;" } : Jvm.MethodName)) ∈ jWL := jw_mem 906 (by decide +kernel) (by decide +kernel)
theorem wd83_907 : (Jvm.Cond.code ({ cls := "java/lang/AbstractStringBuilder", name := "append", desc := "(Ljava/lang/String;)Ljava/lang/AbstractStringBuilder;" } : Jvm.MethodName) prog_9_method_22_code (3 : Nat) (Option.some (Jvm.ClassFile.FieldType.object "java/lang/AbstractStringBuilder"))) ∈ jWL := jw_mem 907 (by decide +kernel) (by decide +kernel)
theorem wd83_943 : (Jvm.Cond.static ({ cls := "java/lang/System", name := "arraycopy", desc := "(Ljava/lang/Object;ILjava/lang/Object;II)V" } : Jvm.MethodName)) ∈ jWL := jw_mem 943 (by decide +kernel) (by decide +kernel)
theorem wd83_944 : (Jvm.Cond.native ({ cls := "java/lang/System", name := "arraycopy", desc := "(Ljava/lang/Object;ILjava/lang/Object;II)V" } : Jvm.MethodName)) ∈ jWL := jw_mem 944 (by decide +kernel) (by decide +kernel)
theorem wd83_984 : (Jvm.Cond.fieldLink "java/lang/String" (38 : Nat) "java/lang/String" "COMPACT_STRINGS" "Z") ∈ jWL := jw_mem 984 (by decide +kernel) (by decide +kernel)
theorem wd83_985 : (Jvm.Cond.methodLink "java/lang/AbstractStringBuilder" (208 : Nat) ({ cls := "java/lang/AbstractStringBuilder", name := "putStringAt", desc := "(ILjava/lang/String;)V" } : Jvm.MethodName)) ∈ jWL := jw_mem 985 (by decide +kernel) (by decide +kernel)
theorem wd83_987 : (Jvm.Cond.instanceMethod ({ cls := "java/lang/AbstractStringBuilder", name := "putStringAt", desc := "(ILjava/lang/String;)V" } : Jvm.MethodName)) ∈ jWL := jw_mem 987 (by decide +kernel) (by decide +kernel)
theorem wd83_988 : (Jvm.Cond.code ({ cls := "java/lang/AbstractStringBuilder", name := "putStringAt", desc := "(ILjava/lang/String;)V" } : Jvm.MethodName) prog_9_method_73_code (3 : Nat) (Option.none : Option Jvm.ClassFile.FieldType)) ∈ jWL := jw_mem 988 (by decide +kernel) (by decide +kernel)
theorem wd83_989 : (Jvm.Cond.methodLink "java/lang/AbstractStringBuilder" (397 : Nat) ({ cls := "java/lang/AbstractStringBuilder", name := "inflateIfNeededFor", desc := "(Ljava/lang/String;)V" } : Jvm.MethodName)) ∈ jWL := jw_mem 989 (by decide +kernel) (by decide +kernel)
theorem wd83_991 : (Jvm.Cond.instanceMethod ({ cls := "java/lang/AbstractStringBuilder", name := "inflateIfNeededFor", desc := "(Ljava/lang/String;)V" } : Jvm.MethodName)) ∈ jWL := jw_mem 991 (by decide +kernel) (by decide +kernel)
theorem wd83_992 : (Jvm.Cond.code ({ cls := "java/lang/AbstractStringBuilder", name := "inflateIfNeededFor", desc := "(Ljava/lang/String;)V" } : Jvm.MethodName) prog_9_method_71_code (2 : Nat) (Option.none : Option Jvm.ClassFile.FieldType)) ∈ jWL := jw_mem 992 (by decide +kernel) (by decide +kernel)
theorem wd83_1017 : (Jvm.Cond.methodLink "java/lang/String" (212 : Nat) ({ cls := "java/lang/System", name := "arraycopy", desc := "(Ljava/lang/Object;ILjava/lang/Object;II)V" } : Jvm.MethodName)) ∈ jWL := jw_mem 1017 (by decide +kernel) (by decide +kernel)
theorem wd83_1058 : (Jvm.Cond.methodLink "java/lang/String" (552 : Nat) ({ cls := "java/lang/AbstractStringBuilder", name := "getValue", desc := "()[B" } : Jvm.MethodName)) ∈ jWL := jw_mem 1058 (by decide +kernel) (by decide +kernel)
theorem wd83_1059 : (Jvm.Cond.instanceMethod ({ cls := "java/lang/AbstractStringBuilder", name := "getValue", desc := "()[B" } : Jvm.MethodName)) ∈ jWL := jw_mem 1059 (by decide +kernel) (by decide +kernel)
theorem wd83_1060 : (Jvm.Cond.sameMethod "java/lang/AbstractStringBuilder" "java/lang/AbstractStringBuilder" "getValue" "()[B") ∈ jWL := jw_mem 1060 (by decide +kernel) (by decide +kernel)
theorem wd83_1062 : (Jvm.Cond.code ({ cls := "java/lang/AbstractStringBuilder", name := "getValue", desc := "()[B" } : Jvm.MethodName) prog_9_method_64_code (1 : Nat) (Option.some (Jvm.ClassFile.FieldType.array Jvm.ClassFile.FieldType.byte))) ∈ jWL := jw_mem 1062 (by decide +kernel) (by decide +kernel)
theorem wd83_1071 : (Jvm.Cond.methodLink "java/lang/String" (1047 : Nat) ({ cls := "java/lang/AbstractStringBuilder", name := "isLatin1", desc := "()Z" } : Jvm.MethodName)) ∈ jWL := jw_mem 1071 (by decide +kernel) (by decide +kernel)
theorem wd83_1102 : (Jvm.Cond.fieldLink "java/lang/String" (9 : Nat) "java/lang/String" "value" "[B") ∈ jWL := jw_mem 1102 (by decide +kernel) (by decide +kernel)
theorem wd83_1103 : (Jvm.Cond.fieldLink "java/lang/String" (15 : Nat) "java/lang/String" "coder" "B") ∈ jWL := jw_mem 1103 (by decide +kernel) (by decide +kernel)
theorem wd83_1407 : (Jvm.Cond.sameMethod "java/lang/AbstractStringBuilder" "java/lang/AbstractStringBuilder" "append" "(Ljava/lang/String;)Ljava/lang/AbstractStringBuilder;") ∈ jWL := jw_mem 1407 (by decide +kernel) (by decide +kernel)
theorem wd83_1411 : (Jvm.Cond.sameMethod "java/lang/AbstractStringBuilder" "java/lang/AbstractStringBuilder" "putStringAt" "(ILjava/lang/String;)V") ∈ jWL := jw_mem 1411 (by decide +kernel) (by decide +kernel)
theorem wd83_1412 : (Jvm.Cond.sameMethod "java/lang/AbstractStringBuilder" "java/lang/AbstractStringBuilder" "inflateIfNeededFor" "(Ljava/lang/String;)V") ∈ jWL := jw_mem 1412 (by decide +kernel) (by decide +kernel)
theorem jmU_J5_putStringAt_47b60 : jmU mJ5_putStringAt_47b60 := ⟨wd83_987, wd83_1411, wd83_52, wd83_988, rfl, by decide, .inr (.inr trivial)⟩
theorem jmU_J5_inflateIfNeededFor_a7421 : jmU mJ5_inflateIfNeededFor_a7421 := ⟨wd83_991, wd83_1412, wd83_52, wd83_992, rfl, by decide, .inr (.inr trivial)⟩
theorem jmU_J5_append_cf1ce : jmU mJ5_append_cf1ce := ⟨wd83_906, wd83_1407, wd83_52, wd83_907, rfl, by decide, .inr (.inr trivial)⟩
theorem jmU_J5_getValue_6d5f1 : jmU mJ5_getValue_6d5f1 := ⟨wd83_1059, wd83_1060, wd83_52, wd83_1062, rfl, by decide, .inr (.inr trivial)⟩
theorem jcu_J5_208 : jCa RJ5 208 mJ5_putStringAt_47b60 2 := ⟨wd83_985, ⟨by decide +kernel, by decide +kernel⟩, by decide +kernel⟩
theorem jcu_J5_397 : jCa RJ5 397 mJ5_inflateIfNeededFor_a7421 1 := ⟨wd83_989, ⟨by decide +kernel, by decide +kernel⟩, by decide +kernel⟩
theorem jcu_J0_552 : jCa RJ0 552 mJ5_getValue_6d5f1 0 := ⟨wd83_1058, ⟨by decide +kernel, by decide +kernel⟩, by decide +kernel⟩
theorem jcu_J0_1047 : jCa RJ0 1047 mJ5_isLatin1_aae02 0 := ⟨wd83_1071, ⟨by decide +kernel, by decide +kernel⟩, by decide +kernel⟩
/-- a text that was made: its object at r, its letters at r + 1 -/
def jSt (r : Nat) (l : List Int) (h : jH) : Prop := ∃ f, h r = some (jO 5 [.ref (r + 1), iv 0, iv 0, iv 0]) ∧ h (r + 1) = some (jA 3 l.length f) ∧ (∀ j : Nat, j < l.length → f j = l.getD j 0) ∧ ∀ j, 0 ≤ f j ∧ f j < 128
/-- a text, made or the law's -/
def jTx (r : Nat) (l : List Int) (h : jH) : Prop := (∃ i, i < 10 ∧ r = 400 + 2 * i ∧ l = tL i) ∨ jSt r l h
theorem jSt.eq {r : Nat} {l : List Int} {h h' : jH} (w : jSt r l h) (e1 : h' r = h r) (e2 : h' (r + 1) = h (r + 1)) : jSt r l h' := by
  obtain ⟨f, a, b, c⟩ := w
  exact ⟨f, e1.trans a, e2.trans b, c⟩
theorem jTx.eq {r : Nat} {l : List Int} {h h' : jH} (w : jTx r l h) (e1 : h' r = h r) (e2 : h' (r + 1) = h (r + 1)) : jTx r l h' := w.elim .inl fun q => .inr (q.eq e1 e2)
section JT3
variable {M0 : jMe} {Ln : Nat} {xs : Nat → Int32} {R : Room} {nw : List Nat} {Z : jFin} {pc pc' : Nat} {L L' : List (Nat × Value)} {st st' : List Value} {h h' : jH} {nc ns nc' ns' mc ms : Nat} {Pn : jPn} {Px : jPx}
theorem pRc.t {r : Nat} {l : List Int} (w : jTx r l h) (hnw : pNw nw) : pRc (pMe M0 Ln xs) nw L h r "java/lang/String" := by
  rcases w with ⟨i, hi, rfl, rfl⟩ | ⟨f, a, -⟩
  · exact pRc.tx hi hnw
  · exact pRc.ob (ci := 5) a rfl
theorem j_getVt {r idx : Nat} {l : List Int} (w : jTx r l h) (hnw : pNw nw) (hown : M0.1.cls = RJ0) (hl : Cond.fieldLink RJ0 idx "java/lang/String" "value" "[B" ∈ jWL) (hf : jF RJ0 idx 5 0) (hd : decode M0.2.1 pc = .ok (.getfield idx, 3)) (kk : J (pMe M0 Ln xs) R nw Z (pc + 3) L (.ref (r + 1) :: st) h nc ns) : J (pMe M0 Ln xs) R nw Z pc L (.ref r :: st) h nc ns := by
  rcases w with ⟨i, hi, rfl, rfl⟩ | ⟨f, a, -⟩
  · refine j_getV hi hnw (by rw [hown]; exact hl) hd ?_
    rw [show 401 + 2 * i = 400 + 2 * i + 1 by omega]
    exact kk
  · exact j_getfield (v := .ref (r + 1)) hd (by show jF M0.1.cls idx 5 0; rw [hown]; exact hf) a rfl kk
theorem j_getCt {r idx : Nat} {l : List Int} (w : jTx r l h) (hnw : pNw nw) (hown : M0.1.cls = RJ0) (hl : Cond.fieldLink RJ0 idx "java/lang/String" "coder" "B" ∈ jWL) (hf : jF RJ0 idx 5 1) (hd : decode M0.2.1 pc = .ok (.getfield idx, 3)) (kk : J (pMe M0 Ln xs) R nw Z (pc + 3) L (iv 0 :: st) h nc ns) : J (pMe M0 Ln xs) R nw Z pc L (.ref r :: st) h nc ns := by
  rcases w with ⟨i, hi, rfl, rfl⟩ | ⟨f, a, -⟩
  · exact j_getC hi hnw (by rw [hown]; exact hl) hd kk
  · exact j_getfield (v := iv 0) hd (by show jF M0.1.cls idx 5 1; rw [hown]; exact hf) a rfl kk
theorem j_alent {r : Nat} {l : List Int} (w : jTx r l h) (hnw : pNw nw) (hd : decode M0.2.1 pc = .ok (.arraylength, 1)) (kk : J (pMe M0 Ln xs) R nw Z (pc + 1) L (iv (l.length : Int) :: st) h nc ns) : J (pMe M0 Ln xs) R nw Z pc L (.ref (r + 1) :: st) h nc ns := by
  rcases w with ⟨i, hi, rfl, rfl⟩ | ⟨f, a, b, -⟩
  · rw [show 400 + 2 * i + 1 = 401 + 2 * i by omega]
    exact j_alenT hi hnw hd kk
  · exact j_arraylength hd b (by decide) kk
end JT3
section JT4
variable {Ln : Nat} {xs : Nat → Int32} {h : jH}
theorem pNw_nil : pNw [] := fun _ q => by cases q
theorem ct_coder {r : Nat} {l : List Int} (w : jTx r l h) : jMF mJ0_coder_7d493 Ln xs 0 0 0 [] [.ref r] h (jRet (iv 0) h) jno := by
  refine j_methodF (by decide +kernel) rfl (Nat.le_of_ble_eq_true rfl) ?_
  generalize hZ : jZ [] 0 0 _ _ = Z
  show J (pMe mJ0_coder_7d493 Ln xs) (jR 0 0 0) [] Z 0 [(0, .ref r)] [] h 0 0
  refine j_compact wd83_984 dJ0_coder_7d493_0 ?_
  refine j_if_eq (tgt := 13) dJ0_coder_7d493_3 (by decide) (by omega) (fun c => absurd c (by decide)) (fun _ => ?_)
  refine j_aload_n dJ0_coder_7d493_6 rfl rfl ?_
  refine j_getCt w pNw_nil rfl wd83_1103 jf_J0_15 dJ0_coder_7d493_7 ?_
  refine j_goto (tgt := 14) dJ0_coder_7d493_10 (by decide) ?_
  subst hZ
  exact j_ireturn dJ0_coder_7d493_14 rfl (jn_byte (by omega)) ⟨rfl, rfl⟩ (Nat.le_refl _) (Nat.le_refl _)
theorem ct_isLatin1 {r : Nat} {l : List Int} (w : jTx r l h) : jMF mJ0_isLatin1_aae02 Ln xs 0 0 0 [] [.ref r] h (jRet (iv 1) h) jno := by
  refine j_methodF (by decide +kernel) rfl (Nat.le_of_ble_eq_true rfl) ?_
  generalize hZ : jZ [] 0 0 _ _ = Z
  show J (pMe mJ0_isLatin1_aae02 Ln xs) (jR 0 0 0) [] Z 0 [(0, .ref r)] [] h 0 0
  refine j_compact wd83_984 dJ0_isLatin1_aae02_0 ?_
  refine j_if_eq (tgt := 17) dJ0_isLatin1_aae02_3 (by decide) (by omega) (fun c => absurd c (by decide)) (fun _ => ?_)
  refine j_aload_n dJ0_isLatin1_aae02_6 rfl rfl ?_
  refine j_getCt w pNw_nil rfl wd83_1103 jf_J0_15 dJ0_isLatin1_aae02_7 ?_
  refine j_if_ne (tgt := 17) dJ0_isLatin1_aae02_10 (by decide) (by omega) (fun c => absurd rfl c) (fun _ => ?_)
  refine j_iconst dJ0_isLatin1_aae02_13 ?_
  refine j_goto (tgt := 18) dJ0_isLatin1_aae02_14 (by decide) ?_
  subst hZ
  exact j_ireturn dJ0_isLatin1_aae02_18 rfl rfl ⟨rfl, rfl⟩ (Nat.le_refl _) (Nat.le_refl _)
theorem ct_length {r : Nat} {l : List Int} (w : jTx r l h) : jMF mJ0_length_8abf5 Ln xs 1 0 0 [] [.ref r] h (jRet (iv (l.length : Int)) h) jno := by
  refine j_methodF (by decide +kernel) rfl (Nat.le_of_ble_eq_true rfl) ?_
  generalize hZ : jZ [] 0 0 _ _ = Z
  show J (pMe mJ0_length_8abf5 Ln xs) (jR 1 0 0) [] Z 0 [(0, .ref r)] [] h 0 0
  refine j_aload_n dJ0_length_8abf5_0 rfl rfl ?_
  refine j_getVt w pNw_nil rfl wd83_1102 jf_J0_9 dJ0_length_8abf5_1 ?_
  refine j_alent w pNw_nil dJ0_length_8abf5_4 ?_
  refine j_aload_n dJ0_length_8abf5_5 rfl rfl ?_
  refine j_callVF (ct_coder w) dJ0_length_8abf5_6 jc_J0_335 jmV_J0_coder_7d493 rfl pNw_nil rfl (pRc.t w pNw_nil) rfl (by simp) jfr_nil (Nat.le_of_ble_eq_true rfl) ⟨Nat.le_of_ble_eq_true rfl, Nat.le_of_ble_eq_true rfl⟩ ⟨Nat.le_of_ble_eq_true rfl, Nat.le_of_ble_eq_true rfl⟩ (fun r h1 hp9 => ?_) (fun E h9 q => q.elim)
  obtain ⟨rfl, rfl⟩ := hp9
  refine j_ishr (z := (l.length : Int)) dJ0_length_8abf5_9 (jz_shr0 _) ?_
  subst hZ
  exact j_ireturn dJ0_length_8abf5_10 rfl rfl ⟨rfl, rfl⟩ (Nat.le_refl _) (Nat.le_refl _)
/-- the letters go into the row a from b on -/
theorem ct_getBytes {r a n1 : Nat} {l : List Int} {g : Int → Int} {b : Int} (w : jTx r l h) (ha : h a = some (jA 3 n1 g)) (hb : 0 ≤ b ∧ b + (l.length : Int) ≤ n1 ∧ (n1 : Int) ≤ 1000) (hl : l.length ≤ 1000) (hg : ∀ j, 0 ≤ g j ∧ g j < 128) : jMF mJ0_getBytes_840e7 Ln xs 2 0 0 [] [.ref r, .ref a, iv b, iv 0] h (fun r' h' => r' = none ∧ ∃ f, h' = jup h a (jA 3 n1 f) ∧ (∀ j, j < b → f j = g j) ∧ (∀ j : Nat, j < l.length → f (b + j) = l.getD j 0) ∧ ∀ j, 0 ≤ f j ∧ f j < 128) jno := by
  refine j_methodF (by decide +kernel) rfl (Nat.le_of_ble_eq_true rfl) ?_
  generalize hZ : jZ [] 0 0 _ _ = Z
  show J (pMe mJ0_getBytes_840e7 Ln xs) (jR 2 0 0) [] Z 0 [(0, .ref r), (1, .ref a), (2, iv b), (3, iv 0)] [] h 0 0
  refine j_aload_n dJ0_getBytes_840e7_0 rfl rfl ?_
  refine j_callVF (ct_coder w) dJ0_getBytes_840e7_1 jc_J0_335 jmV_J0_coder_7d493 rfl pNw_nil rfl (pRc.t w pNw_nil) rfl (by simp) jfr_nil (Nat.le_of_ble_eq_true rfl) ⟨Nat.le_of_ble_eq_true rfl, Nat.le_of_ble_eq_true rfl⟩ ⟨Nat.le_of_ble_eq_true rfl, Nat.le_of_ble_eq_true rfl⟩ (fun r' h1 hp9 => ?_) (fun E h9 q => q.elim)
  obtain ⟨rfl, rfl⟩ := hp9
  refine j_iload_n dJ0_getBytes_840e7_4 rfl rfl ?_
  refine j_icmp_ne (tgt := 28) dJ0_getBytes_840e7_5 (by decide) (by omega) (fun c => absurd rfl c) (fun _ => ?_)
  refine j_aload_n dJ0_getBytes_840e7_8 rfl rfl ?_
  refine j_getVt w pNw_nil rfl wd83_1102 jf_J0_9 dJ0_getBytes_840e7_9 ?_
  refine j_iconst dJ0_getBytes_840e7_12 ?_
  refine j_aload_n dJ0_getBytes_840e7_13 rfl rfl ?_
  refine j_iload_n dJ0_getBytes_840e7_14 rfl rfl ?_
  refine j_iload_n dJ0_getBytes_840e7_15 rfl rfl ?_
  refine j_ishl (z := b) dJ0_getBytes_840e7_16 (jz_shl0 _) ?_
  refine j_aload_n dJ0_getBytes_840e7_17 rfl rfl ?_
  refine j_getVt w pNw_nil rfl wd83_1102 jf_J0_9 dJ0_getBytes_840e7_18 ?_
  refine j_alent w pNw_nil dJ0_getBytes_840e7_21 ?_
  have fin : ∀ F : Int → Int, (∀ j : Nat, j < l.length → F j = l.getD j 0) → (∀ j, 0 ≤ F j ∧ F j < 128) → J (pMe mJ0_getBytes_840e7 Ln xs) (jR 2 0 0) [] Z 25 [(0, .ref r), (1, .ref a), (2, iv b), (3, iv 0)] [] (jup h a (jA 3 n1 (jcpy F g 0 b l.length))) (0 + 0) (0 + 0) := fun F hF hF2 => by
    refine j_goto (tgt := 43) dJ0_getBytes_840e7_25 (by decide) ?_
    subst hZ
    refine j_return dJ0_getBytes_840e7_43 rfl ⟨rfl, _, rfl, fun j hj => if_neg (by omega), fun j hj => ?_, fun j => ?_⟩ (Nat.le_refl _) (Nat.le_refl _)
    · refine (if_pos (by omega)).trans ?_
      rw [show 0 + (b + (j : Int) - b) = (j : Int) by omega]
      exact hF j hj
    · unfold jcpy
      split
      · exact hF2 _
      · exact hg j
  rcases w with ⟨i, hi, rfl, rfl⟩ | ⟨f, q1, q2, q3, q4⟩
  · rw [show 400 + 2 * i + 1 = 401 + 2 * i by omega]
    exact j_copyC hi pNw_nil dJ0_getBytes_840e7_22 wd83_1017 ha ⟨hb.1, hb.2.1, by omega⟩ ⟨Nat.le_of_ble_eq_true rfl, Nat.le_of_ble_eq_true rfl⟩ (Nat.le_of_ble_eq_true rfl) (fin _ (fun j hj => by unfold lfn; rw [show ((j : Int)).toNat = j by omega]) (fun j => tL_r hi _))
  · exact j_copyT (t := 3) (n0 := l.length) (n1 := n1) (by decide) dJ0_getBytes_840e7_22 wd83_1017 wd83_944 wd83_943 wd83_68 q2 ha ⟨by omega, by omega, by omega, by omega, by omega, by omega, by omega⟩ (fun x => jfit_byte (by have := q4 x; omega)) ⟨Nat.le_of_ble_eq_true rfl, Nat.le_of_ble_eq_true rfl⟩ (Nat.le_of_ble_eq_true rfl) (fin f q3 q4)
theorem ct_inflate {r k p n : Nat} {l : List Int} {G : fS} (w : jTx r l h) (hG : jOb (sB p n) k G h) (hc0 : G 1 0 = 0) : jMF mJ5_inflateIfNeededFor_a7421 Ln xs 2 0 0 [] [.ref k, .ref r] h (fun r' h' => r' = none ∧ h = h') jno := by
  refine j_methodF (by decide +kernel) rfl (Nat.le_of_ble_eq_true rfl) ?_
  generalize hZ : jZ [] 0 0 _ _ = Z
  show J (pMe mJ5_inflateIfNeededFor_a7421 Ln xs) (jR 2 0 0) [] Z 0 [(0, .ref k), (1, .ref r)] [] h 0 0
  refine j_compact wd83_201 dJ5_inflateIfNeededFor_a7421_0 ?_
  refine j_if_eq (tgt := 21) dJ5_inflateIfNeededFor_a7421_3 (by decide) (by omega) (fun c => absurd c (by decide)) (fun _ => ?_)
  refine j_aload_n dJ5_inflateIfNeededFor_a7421_6 rfl rfl ?_
  refine j_getfield (v := iv (G 1 0)) dJ5_inflateIfNeededFor_a7421_7 jf_J5_22 hG.1 rfl ?_
  refine j_aload_n dJ5_inflateIfNeededFor_a7421_10 rfl rfl ?_
  refine j_callVF (ct_coder w) dJ5_inflateIfNeededFor_a7421_11 jc_J5_40 jmV_J0_coder_7d493 rfl pNw_nil rfl (pRc.t w pNw_nil) rfl (by simp) jfr_nil (Nat.le_of_ble_eq_true rfl) ⟨Nat.le_of_ble_eq_true rfl, Nat.le_of_ble_eq_true rfl⟩ ⟨Nat.le_of_ble_eq_true rfl, Nat.le_of_ble_eq_true rfl⟩ (fun r' h1 hp9 => ?_) (fun E h9 q => q.elim)
  obtain ⟨rfl, rfl⟩ := hp9
  refine j_icmp_eq (tgt := 21) dJ5_inflateIfNeededFor_a7421_14 (by decide) (by omega) (fun _ => ?_) (fun c => absurd hc0 c)
  subst hZ
  exact j_return dJ5_inflateIfNeededFor_a7421_21 rfl ⟨rfl, rfl⟩ (Nat.le_refl _) (Nat.le_refl _)
theorem ct_putStringAt {r k p n : Nat} {l : List Int} {G : fS} {b : Int} (w : jTx r l h) (hpn : (p = 1 ∧ n = 16) ∨ (p = 2 ∧ n = 34)) (hG : jOb (sB p n) k G h) (hc0 : G 1 0 = 0) (hg : ∀ j, 0 ≤ G 0 j ∧ G 0 j < 128) (hb : 0 ≤ b ∧ b + (l.length : Int) ≤ n) : jMF mJ5_putStringAt_47b60 Ln xs 3 0 0 [] [.ref k, iv b, .ref r] h (fun r' h' => r' = none ∧ ∃ f, h' = jup h (k + p) (jA 3 n f) ∧ (∀ j, j < b → f j = G 0 j) ∧ (∀ j : Nat, j < l.length → f (b + j) = l.getD j 0) ∧ ∀ j, 0 ≤ f j ∧ f j < 128) jno := by
  have hn : n ≤ 34 := by omega
  refine j_methodF (by decide +kernel) rfl (Nat.le_of_ble_eq_true rfl) ?_
  generalize hZ : jZ [] 0 0 _ _ = Z
  show J (pMe mJ5_putStringAt_47b60 Ln xs) (jR 3 0 0) [] Z 0 [(0, .ref k), (1, iv b), (2, .ref r)] [] h 0 0
  refine j_aload_n dJ5_putStringAt_47b60_0 rfl rfl ?_
  refine j_aload_n dJ5_putStringAt_47b60_1 rfl rfl ?_
  refine j_callUF (ct_inflate w hG hc0) dJ5_putStringAt_47b60_2 jcu_J5_397 jmU_J5_inflateIfNeededFor_a7421 (.inl (jw_mem2 3 (by decide +kernel) (by decide +kernel))) rfl pNw_nil rfl hG.1 rfl (by simp) jfr_nil (Nat.le_of_ble_eq_true rfl) ⟨Nat.le_of_ble_eq_true rfl, Nat.le_of_ble_eq_true rfl⟩ ⟨Nat.le_of_ble_eq_true rfl, Nat.le_of_ble_eq_true rfl⟩ (fun r' h1 hp9 => ?_)
  obtain ⟨rfl, rfl⟩ := hp9
  refine j_aload_n dJ5_putStringAt_47b60_5 rfl rfl ?_
  refine j_aload_n dJ5_putStringAt_47b60_6 rfl rfl ?_
  refine j_getfield (v := .ref (k + p)) dJ5_putStringAt_47b60_7 jf_J5_15 hG.1 rfl ?_
  refine j_iload_n dJ5_putStringAt_47b60_10 rfl rfl ?_
  refine j_aload_n dJ5_putStringAt_47b60_11 rfl rfl ?_
  refine j_getfield (v := iv (G 1 0)) dJ5_putStringAt_47b60_12 jf_J5_22 hG.1 rfl ?_
  rw [hc0]
  refine j_callVF (ct_getBytes w (hG.a 0 p 3 n rfl) (by omega) (by omega) hg) dJ5_putStringAt_47b60_15 jc_J5_399 jmV_J0_getBytes_840e7 rfl pNw_nil rfl (pRc.t w pNw_nil) rfl (by simp) jfr_nil (Nat.le_of_ble_eq_true rfl) ⟨Nat.le_of_ble_eq_true rfl, Nat.le_of_ble_eq_true rfl⟩ ⟨Nat.le_of_ble_eq_true rfl, Nat.le_of_ble_eq_true rfl⟩ (fun r' h1 hp9 => ?_) (fun E h9 q => q.elim)
  obtain ⟨rfl, f, rfl, z⟩ := hp9
  subst hZ
  exact j_return dJ5_putStringAt_47b60_18 rfl ⟨rfl, f, rfl, z⟩ (Nat.le_refl _) (Nat.le_refl _)
/-- a builder's text -/
def jBl (k : Nat) (l : List Int) (h : jH) : Prop := jSB k (l.length : Int) (fun j => (l[j.toNat]?).getD 0) h
theorem jBl.eq {k : Nat} {l : List Int} {h h' : jH} (w : jBl k l h) (he : ∀ j, k ≤ j → j < k + 3 → h' j = h j) : jBl k l h' := jSB.eq w he
theorem pNw1 {k : Nat} (hk : k ≠ 150 ∧ (k < 400 ∨ 420 ≤ k)) : pNw [k] := fun j hj => by rw [List.mem_singleton.mp hj]; exact hk
theorem gD_app {l l2 : List Int} (j : Nat) (h : j < l2.length) : ((l ++ l2)[l.length + j]?).getD 0 = l2.getD j 0 := by
  rw [List.getElem?_append_right (by omega), show l.length + j - l.length = j by omega, List.getD_eq_getElem?_getD]
theorem gD_app1 {l l2 : List Int} (j : Nat) (h : j < l.length) : ((l ++ l2)[j]?).getD 0 = (l[j]?).getD 0 := by rw [List.getElem?_append_left h]
theorem ct_append5 {r k : Nat} {l l2 : List Int} (hL : jBl k l h) (w : jTx r l2 h) (hd : r + 2 ≤ k ∨ k + 3 ≤ r) (hk : k + 2 ≠ 150 ∧ (k + 2 < 400 ∨ 420 ≤ k + 2)) (hlen : l.length + l2.length ≤ 34) : jMF mJ5_append_cf1ce Ln xs 6 1 34 [k + 2] [.ref k, .ref r] h (fun r' h' => r' = some (.ref k) ∧ jBl k (l ++ l2) h' ∧ jEx k 3 h h') jno := by
  obtain ⟨p, n, G, hq, hG, hc0, hc3, ht, hb, hc, hcn⟩ := hL
  have hnw := pNw1 hk
  have hE0 : jEx k 3 h h := jEx.rf
  refine j_methodF (by decide +kernel) rfl (Nat.le_of_ble_eq_true rfl) ?_
  generalize hZ : jZ [k + 2] 1 34 _ _ = Z
  show J (pMe mJ5_append_cf1ce Ln xs) (jR 6 1 34) [k + 2] Z 0 [(0, .ref k), (1, .ref r)] [] h 0 0
  refine j_aload_n dJ5_append_cf1ce_0 rfl rfl ?_
  refine j_ifnonnull (tgt := 9) dJ5_append_cf1ce_1 (by decide) ?_
  refine j_aload_n dJ5_append_cf1ce_9 rfl rfl ?_
  refine j_callVF (ct_length w) dJ5_append_cf1ce_10 jc_J5_32 jmV_J0_length_8abf5 rfl hnw rfl (pRc.t w hnw) rfl (by simp) jfr_nil (Nat.le_of_ble_eq_true rfl) ⟨Nat.le_of_ble_eq_true rfl, Nat.le_of_ble_eq_true rfl⟩ ⟨Nat.le_of_ble_eq_true rfl, Nat.le_of_ble_eq_true rfl⟩ (fun r' h1 hp9 => ?_) (fun E h9 q => q.elim)
  obtain ⟨rfl, rfl⟩ := hp9
  refine j_istore_n (L' := [(0, _), (1, _), (2, _)]) dJ5_append_cf1ce_13 rfl (Nat.le_of_ble_eq_true rfl) rfl ?_
  refine j_aload_n dJ5_append_cf1ce_14 rfl rfl ?_
  refine j_aload_n dJ5_append_cf1ce_15 rfl rfl ?_
  refine j_getfield (v := iv (G 3 0)) dJ5_append_cf1ce_16 jf_J5_79 hG.1 rfl ?_
  refine j_iload_n dJ5_append_cf1ce_19 rfl rfl ?_
  refine j_iadd dJ5_append_cf1ce_20 ?_
  have hrk : r ≠ k + 2 := by omega
  refine j_callU (cb_ensure hq hG hc0 hb (m := G 3 0 + (l2.length : Int)) (by omega)) dJ5_append_cf1ce_21 jcu_J5_100 jmU_J5_ensureCapacityInternal_d00df (.inl (jw_mem2 0 (by decide +kernel) (by decide +kernel))) rfl rfl hG.1 rfl (by simp) (jfr_1 (by intro q hq e; simp only [List.mem_cons, List.not_mem_nil, or_false] at hq; rcases hq with hq | hq | hq <;> (subst hq; dsimp only at e; cases e; try omega)) (fun v hv => by cases hv)) (Nat.le_of_ble_eq_true rfl) ⟨Nat.le_of_ble_eq_true rfl, Nat.le_of_ble_eq_true rfl⟩ ⟨Nat.le_of_ble_eq_true rfl, Nat.le_of_ble_eq_true rfl⟩ (fun r' h2 hp9 => ?_)
  obtain ⟨rfl, p2, n2, f2, hq2, hG2, f3, f4, f5, eX2⟩ := hp9
  have hpn2 := hq2.o
  have w2 : jTx r l2 h2 := w.eq (eX2 r (by omega)) (eX2 (r + 1) (by omega))
  refine j_aload_n dJ5_append_cf1ce_24 rfl rfl ?_
  refine j_aload_n dJ5_append_cf1ce_25 rfl rfl ?_
  refine j_getfield (v := iv (G 3 0)) dJ5_append_cf1ce_26 jf_J5_79 hG2.1 rfl ?_
  refine j_aload_n dJ5_append_cf1ce_29 rfl rfl ?_
  refine j_callUF (ct_putStringAt (b := G 3 0) w2 hpn2 hG2 hc0 f4 (by omega)) dJ5_append_cf1ce_30 jcu_J5_208 jmU_J5_putStringAt_47b60 (.inl (jw_mem2 2 (by decide +kernel) (by decide +kernel))) rfl hnw rfl hG2.1 rfl (by simp) jfr_nil (Nat.le_of_ble_eq_true rfl) ⟨Nat.le_of_ble_eq_true rfl, Nat.le_of_ble_eq_true rfl⟩ ⟨Nat.le_of_ble_eq_true rfl, Nat.le_of_ble_eq_true rfl⟩ (fun r' h3 hp9 => ?_)
  obtain ⟨rfl, f6, rfl, g1, g2, g3⟩ := hp9
  have hG6 : jOb (sB p2 n2) k (gs G 0 f6) (jup h2 (k + p2) (jA 3 n2 f6)) := Eq.mp (congrArg (fun z => jOb (sB p2 n2) k z _) gs_gs) (hG2.arr (i := 0) (f := f6) (okB hpn2) rfl)
  have eX6 : jEx k (p2 + 1) h2 (jup h2 (k + p2) (jA 3 n2 f6)) := jEx_up (by omega)
  have hq6 := hq2.mv eX6
  refine j_aload_n dJ5_append_cf1ce_33 rfl rfl ?_
  refine j_dup dJ5_append_cf1ce_34 rfl ?_
  refine j_getfield (v := iv (G 3 0)) dJ5_append_cf1ce_35 jf_J5_79 hG6.1 rfl ?_
  refine j_iload_n dJ5_append_cf1ce_38 rfl rfl ?_
  refine j_iadd dJ5_append_cf1ce_39 ?_
  refine jo_put (S := (sB p2 n2)) dJ5_append_cf1ce_40 jf_J5_79 (fun q hq => by cases hq; exact ⟨rfl, rfl⟩) (jHold_int _) (okB hpn2) hG6 rfl (fun h7 hG7 hX7 => ?_)
  have hE7 : jEx k 3 h h7 := ((hE0.tr eX2).tr (eX6.mo (by omega))).tr (hX7.mo (by show k ≤ k ∧ k + (p2 + 1) ≤ k + 3; omega))
  have hq7 := hq6.mv hX7
  refine j_aload_n dJ5_append_cf1ce_43 rfl rfl ?_
  subst hZ
  refine j_areturn dJ5_append_cf1ce_44 rfl (Or.inl ⟨_, rfl⟩) ⟨rfl, ⟨p2, n2, _, hq7, hG7, hc0, ?_, fun j j0 j1 => ?_, g3, by omega, ?_⟩, hE7⟩ (by omega) (by omega)
  · show G 3 0 + (l2.length : Int) = ((l ++ l2).length : Int)
    rw [List.length_append, hc3]
    omega
  · show f6 j = ((l ++ l2)[j.toNat]?).getD 0
    rw [List.length_append] at j1
    by_cases hj : j < (l.length : Int)
    · rw [gD_app1 _ (by omega), g1 j (by omega)]
      exact (f3 j j0 (by omega)).trans (ht j j0 hj)
    · have e := g2 (j - (l.length : Int)).toNat (by omega)
      rw [show G 3 0 + (((j - (l.length : Int)).toNat : Nat) : Int) = j by omega] at e
      rw [e, show j.toNat = l.length + (j - (l.length : Int)).toNat by omega, gD_app _ (by omega)]
  · rw [List.length_append]
    omega
theorem ct_append {r k : Nat} {l l2 : List Int} (hL : jBl k l h) (w : jTx r l2 h) (hd : r + 2 ≤ k ∨ k + 3 ≤ r) (hk : k + 2 ≠ 150 ∧ (k + 2 < 400 ∨ 420 ≤ k + 2)) (hlen : l.length + l2.length ≤ 34) : jMF mJ4_append_15ec4 Ln xs 7 1 34 [k + 2] [.ref k, .ref r] h (fun r' h' => r' = some (.ref k) ∧ jBl k (l ++ l2) h' ∧ jEx k 3 h h') jno := by
  have h6 : ∃ fs, h k = some (jO 6 fs) := by
    obtain ⟨p, n, G, hq, hG, -⟩ := hL
    exact ⟨_, hG.1⟩
  obtain ⟨fs, h6⟩ := h6
  refine j_methodF (by decide +kernel) rfl (Nat.le_of_ble_eq_true rfl) ?_
  generalize hZ : jZ [k + 2] 1 34 _ _ = Z
  show J (pMe mJ4_append_15ec4 Ln xs) (jR 7 1 34) [k + 2] Z 0 [(0, .ref k), (1, .ref r)] [] h 0 0
  refine j_aload_n dJ4_append_15ec4_0 rfl rfl ?_
  refine j_aload_n dJ4_append_15ec4_1 rfl rfl ?_
  have hrk : r ≠ k + 2 := by omega
  refine j_callSUF (ct_append5 hL w hd hk hlen) dJ4_append_15ec4_2 rfl jc_J4_29 jmU_J5_append_cf1ce rfl (pNw1 hk) rfl h6 rfl (by simp) (jfr_1 (by intro q hq e; simp only [List.mem_cons, List.not_mem_nil, or_false] at hq; rcases hq with hq | hq <;> (subst hq; dsimp only at e; cases e; try omega)) (by simp)) (Nat.le_of_ble_eq_true rfl) ⟨Nat.le_of_ble_eq_true rfl, Nat.le_of_ble_eq_true rfl⟩ ⟨Nat.le_of_ble_eq_true rfl, Nat.le_of_ble_eq_true rfl⟩ (fun r' h1 hp9 => ?_)
  obtain ⟨rfl, a1, a2⟩ := hp9
  refine j_pop dJ4_append_15ec4_5 rfl ?_
  refine j_aload_n dJ4_append_15ec4_6 rfl rfl ?_
  subst hZ
  exact j_areturn dJ4_append_15ec4_7 rfl (Or.inl ⟨_, rfl⟩) ⟨rfl, a1, a2⟩ (Nat.le_refl _) (Nat.le_refl _)
end JT4
