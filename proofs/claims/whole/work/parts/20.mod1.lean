theorem bi_nar (c : Prop) [Decidable c] : narrow .boolean (iv (bi c)) = iv (bi c) := by
  by_cases h : c
  · rw [bi_t h]; rfl
  · rw [bi_f h]; rfl
theorem bi_r32 (c : Prop) [Decidable c] : -2147483648 ≤ bi c ∧ bi c ≤ 2147483647 := by have := bi_rg c; omega
set_option maxHeartbeats 4000000 in
/-- reference: thrown -/
theorem c5_thrown {k : Nat} {G : fS} {h : jH} (hG : jOb sM k G h)  : jM mX5_thrown 0 0 0 [] [.ref k] h (jRet (iv (G 6 0)) h) jno := by
  refine j_method (by decide +kernel) rfl (fun _ _ _ => trivial) (Nat.le_of_ble_eq_true rfl) ?_
  generalize hZ : jZ [] 0 0 _ _ = Z
  show J mX5_thrown (jR 0 0 0) [] Z 0 [(0, .ref k)] [] h 0 0
  refine j_aload_n dX5_thrown_0 rfl rfl ?_
  refine j_getfield (v := iv (G 6 0)) dX5_thrown_1 jf_X5_42 hG.1 rfl ?_
  subst hZ
  exact j_ireturn dX5_thrown_4 rfl rfl (jRet.i rfl) (Nat.le_refl _) (Nat.le_refl _)
set_option maxHeartbeats 4000000 in
/-- reference: in -/
theorem c5_in {h : jH} {v lo hi : Int} (hv : (-2147483648 ≤ v ∧ v ≤ 2147483647) ∧ (-2147483648 ≤ lo ∧ lo ≤ 2147483647) ∧ (-2147483648 ≤ hi ∧ hi ≤ 2147483647)) : jM mX5_in 0 0 0 [] [iv v, iv lo, iv hi] h (jRet (iv (bi (lo ≤ v ∧ v ≤ hi))) h) jno := by
  refine j_method (by decide +kernel) rfl (fun _ _ _ => trivial) (Nat.le_of_ble_eq_true rfl) ?_
  generalize hZ : jZ [] 0 0 _ _ = Z
  show J mX5_in (jR 0 0 0) [] Z 0 [(0, iv v), (1, iv lo), (2, iv hi)] [] h 0 0
  refine j_iload_n dX5_in_0 rfl rfl ?_
  refine j_iload_n dX5_in_1 rfl rfl ?_
  refine j_icmp_lt (tgt := 14) dX5_in_2 (by decide) (by omega) (fun c1 => ?_) (fun c1 => ?_)
  · refine j_iconst dX5_in_14 ?_
    subst hZ
    exact j_ireturn dX5_in_15 rfl rfl (jRet.i (by first | exact bi_t (by omega) | exact bi_f (by omega))) (Nat.le_refl _) (Nat.le_refl _)
  · refine j_iload_n dX5_in_5 rfl rfl ?_
    refine j_iload_n dX5_in_6 rfl rfl ?_
    refine j_icmp_gt (tgt := 14) dX5_in_7 (by decide) (by omega) (fun c2 => ?_) (fun c2 => ?_)
    · refine j_iconst dX5_in_14 ?_
      subst hZ
      exact j_ireturn dX5_in_15 rfl rfl (jRet.i (by first | exact bi_t (by omega) | exact bi_f (by omega))) (Nat.le_refl _) (Nat.le_refl _)
    · refine j_iconst dX5_in_10 ?_
      refine j_goto (tgt := 15) dX5_in_11 (by decide) ?_
      subst hZ
      exact j_ireturn dX5_in_15 rfl rfl (jRet.i (by first | exact bi_t (by omega) | exact bi_f (by omega))) (Nat.le_refl _) (Nat.le_refl _)
def m_keep (G : fS) : fS := gs (gn G 6 0) 1 (jcpy (G 0) (G 1) 0 0 141)
set_option maxHeartbeats 4000000 in
/-- reference: keep -/
theorem c5_keep {k : Nat} {G : fS} {h : jH} (hG : jOb sM k G h)  : jM mX5_keep 1 0 0 [] [.ref k] h (jWv sM k (m_keep G) h) jno := by
  refine j_method (by decide +kernel) rfl (fun _ _ _ => trivial) (Nat.le_of_ble_eq_true rfl) ?_
  generalize hZ : jZ [] 0 0 _ _ = Z
  show J mX5_keep (jR 1 0 0) [] Z 0 [(0, .ref k)] [] h 0 0
  have hE0 : jEx k 10 h h := jEx.rf
  refine j_aload_n dX5_keep_0 rfl rfl ?_
  refine j_iconst dX5_keep_1 ?_
  refine jo_put (S := sM) dX5_keep_2 jf_X5_42 (fun q hq => by cases hq; exact ⟨rfl, rfl⟩) (jHold_int _) okM hG rfl (fun h1 hG1 hX1 => ?_)
  have hE2 := hE0.tr hX1
  refine j_aload_n dX5_keep_5 rfl rfl ?_
  refine j_getfield (v := .ref (k + 1)) dX5_keep_6 jf_X5_9 hG1.1 rfl ?_
  refine j_iconst dX5_keep_9 ?_
  refine j_aload_n dX5_keep_10 rfl rfl ?_
  refine j_getfield (v := .ref (k + 2)) dX5_keep_11 jf_X5_13 hG1.1 rfl ?_
  refine j_iconst dX5_keep_14 ?_
  refine j_sipush dX5_keep_15 (by decide +kernel) ?_
  refine jo_cpy (S := sM) (k := k) (f := G 0) (by decide) dX5_keep_18 (jw_mem 1513 (by decide +kernel) (by decide +kernel)) (jw_mem 1025 (by decide +kernel) (by decide +kernel)) (jw_mem 1024 (by decide +kernel) (by decide +kernel)) (jw_mem 109 (by decide +kernel) (by decide +kernel)) okM hG1 (i := 1) (p := 2) rfl (hG1.a 0 1 0 141 rfl) (by omega) (fun _ => rfl) (by decide) (by decide) (fun h3 hG3 hX3 => ?_)
  have hE4 := hE2.tr hX3
  subst hZ
  exact j_return dX5_keep_21 rfl (jWv.i rfl hG3 hE4) (Nat.le_refl _) (Nat.le_refl _)
def m_ends (G : fS) (a : Int) : Int × fS := if (G 6 0) ≤ 0 then if (G 5 0) = 8 then (a, gn (gs (gn (gs G 4 (jcpy (G 4) (G 4) 141 0 987)) 5 ((G 5 0) - 1)) 4 (jcpy (G 1) (jcpy (G 4) (G 4) 141 0 987) 0 (141 * ((G 5 0) - 1)) 141)) 5 (((G 5 0) - 1) + 1)) else (a, gn (gs G 4 (jcpy (G 1) (G 4) 0 (141 * (G 5 0)) 141)) 5 ((G 5 0) + 1)) else (0, gs G 0 (jcpy (G 1) (G 0) 0 0 141))
set_option maxHeartbeats 4000000 in
/-- reference: ends -/
theorem c5_ends {k : Nat} {G : fS} {h : jH} (hG : jOb sM k G h) {a : Int} (hp : 0 ≤ G 5 0 ∧ G 5 0 ≤ 8) (ht : 0 ≤ G 6 0 ∧ G 6 0 ≤ 3) : jM mX5_ends 1 0 0 [] [.ref k, iv a] h (jWi sM k (m_ends G a) h) jno := by
  refine j_method (by decide +kernel) rfl (fun _ _ _ => trivial) (Nat.le_of_ble_eq_true rfl) ?_
  generalize hZ : jZ [] 0 0 _ _ = Z
  show J mX5_ends (jR 1 0 0) [] Z 0 [(0, .ref k), (1, iv a)] [] h 0 0
  have hE0 : jEx k 10 h h := jEx.rf
  refine j_aload_n dX5_ends_0 rfl rfl ?_
  refine j_getfield (v := iv (G 6 0)) dX5_ends_1 jf_X5_42 hG.1 rfl ?_
  refine j_if_le (tgt := 25) dX5_ends_4 (by decide) (by omega) (fun c1 => ?_) (fun c1 => ?_)
  · refine j_aload_n dX5_ends_25 rfl rfl ?_
    refine j_getfield (v := iv (G 5 0)) dX5_ends_26 jf_X5_51 hG.1 rfl ?_
    refine j_bipush dX5_ends_29 (by decide +kernel) ?_
    refine j_icmp_ne (tgt := 62) dX5_ends_31 (by decide) (by omega) (fun c2 => ?_) (fun c2 => ?_)
    · refine j_aload_n dX5_ends_62 rfl rfl ?_
      refine j_getfield (v := .ref (k + 2)) dX5_ends_63 jf_X5_13 hG.1 rfl ?_
      refine j_iconst dX5_ends_66 ?_
      refine j_aload_n dX5_ends_67 rfl rfl ?_
      refine j_getfield (v := .ref (k + 4)) dX5_ends_68 jf_X5_19 hG.1 rfl ?_
      refine j_sipush dX5_ends_71 (by decide +kernel) ?_
      refine j_aload_n dX5_ends_74 rfl rfl ?_
      refine j_getfield (v := iv (G 5 0)) dX5_ends_75 jf_X5_51 hG.1 rfl ?_
      refine j_imul dX5_ends_78 ?_
      refine j_sipush dX5_ends_79 (by decide +kernel) ?_
      refine jo_cpy (S := sM) (k := k) (f := G 1) (by decide) dX5_ends_82 (jw_mem 1513 (by decide +kernel) (by decide +kernel)) (jw_mem 1025 (by decide +kernel) (by decide +kernel)) (jw_mem 1024 (by decide +kernel) (by decide +kernel)) (jw_mem 109 (by decide +kernel) (by decide +kernel)) okM hG (i := 4) (p := 4) rfl (hG.a 1 2 0 141 rfl) (by omega) (fun _ => rfl) (by decide) (by decide) (fun h3 hG3 hX3 => ?_)
      have hE4 := hE0.tr hX3
      refine j_aload_n dX5_ends_85 rfl rfl ?_
      refine j_dup dX5_ends_86 rfl ?_
      refine j_getfield (v := iv (G 5 0)) dX5_ends_87 jf_X5_51 hG3.1 rfl ?_
      refine j_iconst dX5_ends_90 ?_
      refine j_iadd dX5_ends_91 ?_
      refine jo_put (S := sM) dX5_ends_92 jf_X5_51 (fun q hq => by cases hq; exact ⟨rfl, rfl⟩) (jHold_int _) okM hG3 rfl (fun h5 hG5 hX5 => ?_)
      have hE6 := hE4.tr hX5
      refine j_iload_n dX5_ends_95 rfl rfl ?_
      subst hZ
      exact j_ireturn dX5_ends_96 rfl rfl (jWi.i ((if_pos c1).trans (if_neg c2)) hG5 hE6) (Nat.le_refl _) (Nat.le_refl _)
    · refine j_aload_n dX5_ends_34 rfl rfl ?_
      refine j_getfield (v := .ref (k + 4)) dX5_ends_35 jf_X5_19 hG.1 rfl ?_
      refine j_sipush dX5_ends_38 (by decide +kernel) ?_
      refine j_aload_n dX5_ends_41 rfl rfl ?_
      refine j_getfield (v := .ref (k + 4)) dX5_ends_42 jf_X5_19 hG.1 rfl ?_
      refine j_iconst dX5_ends_45 ?_
      refine j_sipush dX5_ends_46 (by decide +kernel) ?_
      refine jo_cpy (S := sM) (k := k) (f := G 4) (by decide) dX5_ends_49 (jw_mem 1513 (by decide +kernel) (by decide +kernel)) (jw_mem 1025 (by decide +kernel) (by decide +kernel)) (jw_mem 1024 (by decide +kernel) (by decide +kernel)) (jw_mem 109 (by decide +kernel) (by decide +kernel)) okM hG (i := 4) (p := 4) rfl (hG.a 4 4 0 1128 rfl) (by omega) (fun _ => rfl) (by decide) (by decide) (fun h7 hG7 hX7 => ?_)
      have hE8 := hE0.tr hX7
      refine j_aload_n dX5_ends_52 rfl rfl ?_
      refine j_dup dX5_ends_53 rfl ?_
      refine j_getfield (v := iv (G 5 0)) dX5_ends_54 jf_X5_51 hG7.1 rfl ?_
      refine j_iconst dX5_ends_57 ?_
      refine j_isub dX5_ends_58 ?_
      refine jo_put (S := sM) dX5_ends_59 jf_X5_51 (fun q hq => by cases hq; exact ⟨rfl, rfl⟩) (jHold_int _) okM hG7 rfl (fun h9 hG9 hX9 => ?_)
      have hE10 := hE8.tr hX9
      refine j_aload_n dX5_ends_62 rfl rfl ?_
      refine j_getfield (v := .ref (k + 2)) dX5_ends_63 jf_X5_13 hG9.1 rfl ?_
      refine j_iconst dX5_ends_66 ?_
      refine j_aload_n dX5_ends_67 rfl rfl ?_
      refine j_getfield (v := .ref (k + 4)) dX5_ends_68 jf_X5_19 hG9.1 rfl ?_
      refine j_sipush dX5_ends_71 (by decide +kernel) ?_
      refine j_aload_n dX5_ends_74 rfl rfl ?_
      refine j_getfield (v := iv ((G 5 0) - 1)) dX5_ends_75 jf_X5_51 hG9.1 rfl ?_
      refine j_imul dX5_ends_78 ?_
      refine j_sipush dX5_ends_79 (by decide +kernel) ?_
      refine jo_cpy (S := sM) (k := k) (f := G 1) (by decide) dX5_ends_82 (jw_mem 1513 (by decide +kernel) (by decide +kernel)) (jw_mem 1025 (by decide +kernel) (by decide +kernel)) (jw_mem 1024 (by decide +kernel) (by decide +kernel)) (jw_mem 109 (by decide +kernel) (by decide +kernel)) okM hG9 (i := 4) (p := 4) rfl (hG9.a 1 2 0 141 rfl) (by omega) (fun _ => rfl) (by decide) (by decide) (fun h11 hG11 hX11 => ?_)
      have hE12 := hE10.tr hX11
      refine j_aload_n dX5_ends_85 rfl rfl ?_
      refine j_dup dX5_ends_86 rfl ?_
      refine j_getfield (v := iv ((G 5 0) - 1)) dX5_ends_87 jf_X5_51 hG11.1 rfl ?_
      refine j_iconst dX5_ends_90 ?_
      refine j_iadd dX5_ends_91 ?_
      refine jo_put (S := sM) dX5_ends_92 jf_X5_51 (fun q hq => by cases hq; exact ⟨rfl, rfl⟩) (jHold_int _) okM hG11 rfl (fun h13 hG13 hX13 => ?_)
      have hE14 := hE12.tr hX13
      refine j_iload_n dX5_ends_95 rfl rfl ?_
      subst hZ
      exact j_ireturn dX5_ends_96 rfl rfl (jWi.i ((if_pos c1).trans (if_pos c2)) hG13 hE14) (Nat.le_refl _) (Nat.le_refl _)
  · refine j_aload_n dX5_ends_7 rfl rfl ?_
    refine j_getfield (v := .ref (k + 2)) dX5_ends_8 jf_X5_13 hG.1 rfl ?_
    refine j_iconst dX5_ends_11 ?_
    refine j_aload_n dX5_ends_12 rfl rfl ?_
    refine j_getfield (v := .ref (k + 1)) dX5_ends_13 jf_X5_9 hG.1 rfl ?_
    refine j_iconst dX5_ends_16 ?_
    refine j_sipush dX5_ends_17 (by decide +kernel) ?_
    refine jo_cpy (S := sM) (k := k) (f := G 1) (by decide) dX5_ends_20 (jw_mem 1513 (by decide +kernel) (by decide +kernel)) (jw_mem 1025 (by decide +kernel) (by decide +kernel)) (jw_mem 1024 (by decide +kernel) (by decide +kernel)) (jw_mem 109 (by decide +kernel) (by decide +kernel)) okM hG (i := 0) (p := 1) rfl (hG.a 1 2 0 141 rfl) (by omega) (fun _ => rfl) (by decide) (by decide) (fun h15 hG15 hX15 => ?_)
    have hE16 := hE0.tr hX15
    refine j_iconst dX5_ends_23 ?_
    subst hZ
    exact j_ireturn dX5_ends_24 rfl rfl (jWi.i (if_neg c1) hG15 hE16) (Nat.le_refl _) (Nat.le_refl _)
def m_fails (G : fS) (a : Int) : Int × fS := (0, gn G 6 a)
set_option maxHeartbeats 4000000 in
/-- reference: fails -/
theorem c5_fails {k : Nat} {G : fS} {h : jH} (hG : jOb sM k G h) {a : Int} : jM mX5_fails 0 0 0 [] [.ref k, iv a] h (jWi sM k (m_fails G a) h) jno := by
  refine j_method (by decide +kernel) rfl (fun _ _ _ => trivial) (Nat.le_of_ble_eq_true rfl) ?_
  generalize hZ : jZ [] 0 0 _ _ = Z
  show J mX5_fails (jR 0 0 0) [] Z 0 [(0, .ref k), (1, iv a)] [] h 0 0
  have hE0 : jEx k 10 h h := jEx.rf
  refine j_aload_n dX5_fails_0 rfl rfl ?_
  refine j_iload_n dX5_fails_1 rfl rfl ?_
  refine jo_put (S := sM) dX5_fails_2 jf_X5_42 (fun q hq => by cases hq; exact ⟨rfl, rfl⟩) (jHold_int _) okM hG rfl (fun h1 hG1 hX1 => ?_)
  have hE2 := hE0.tr hX1
  refine j_iconst dX5_fails_5 ?_
  subst hZ
  exact j_ireturn dX5_fails_6 rfl rfl (jWi.i rfl hG1 hE2) (Nat.le_refl _) (Nat.le_refl _)
def m_refuse (G : fS) (a w d : Int) : Int × fS := (0, gn (gn (gn (gn G 6 a) 9 1) 7 w) 8 d)
set_option maxHeartbeats 4000000 in
/-- reference: refuse -/
theorem c5_refuse {k : Nat} {G : fS} {h : jH} (hG : jOb sM k G h) {a w d : Int} : jM mX5_refuse 0 0 0 [] [.ref k, iv a, iv w, iv d] h (jWi sM k (m_refuse G a w d) h) jno := by
  refine j_method (by decide +kernel) rfl (fun _ _ _ => trivial) (Nat.le_of_ble_eq_true rfl) ?_
  generalize hZ : jZ [] 0 0 _ _ = Z
  show J mX5_refuse (jR 0 0 0) [] Z 0 [(0, .ref k), (1, iv a), (2, iv w), (3, iv d)] [] h 0 0
  have hE0 : jEx k 10 h h := jEx.rf
  refine j_aload_n dX5_refuse_0 rfl rfl ?_
  refine j_iload_n dX5_refuse_1 rfl rfl ?_
  refine jo_put (S := sM) dX5_refuse_2 jf_X5_42 (fun q hq => by cases hq; exact ⟨rfl, rfl⟩) (jHold_int _) okM hG rfl (fun h1 hG1 hX1 => ?_)
  have hE2 := hE0.tr hX1
  refine j_aload_n dX5_refuse_5 rfl rfl ?_
  refine j_iconst dX5_refuse_6 ?_
  refine jo_put (S := sM) dX5_refuse_7 jf_X5_54 (fun q hq => by cases hq; exact ⟨rfl, rfl⟩) (jHold_bool (by omega)) okM hG1 rfl (fun h3 hG3 hX3 => ?_)
  have hE4 := hE2.tr hX3
  refine j_aload_n dX5_refuse_10 rfl rfl ?_
  refine j_iload_n dX5_refuse_11 rfl rfl ?_
  refine jo_put (S := sM) dX5_refuse_12 jf_X5_58 (fun q hq => by cases hq; exact ⟨rfl, rfl⟩) (jHold_int _) okM hG3 rfl (fun h5 hG5 hX5 => ?_)
  have hE6 := hE4.tr hX5
  refine j_aload_n dX5_refuse_15 rfl rfl ?_
  refine j_iload_n dX5_refuse_16 rfl rfl ?_
  refine jo_put (S := sM) dX5_refuse_17 jf_X5_61 (fun q hq => by cases hq; exact ⟨rfl, rfl⟩) (jHold_int _) okM hG5 rfl (fun h7 hG7 hX7 => ?_)
  have hE8 := hE6.tr hX7
  refine j_iconst dX5_refuse_20 ?_
  subst hZ
  exact j_ireturn dX5_refuse_21 rfl rfl (jWi.i rfl hG7 hE8) (Nat.le_refl _) (Nat.le_refl _)
def m_refusal (G : fS) (d : Int) : Int × fS := if (G 7 0) = 0 then (0, gn G 6 1) else if d = 0 then (G 7 0, gn G 6 0) else (G 8 0, gn G 6 0)
set_option maxHeartbeats 4000000 in
/-- reference: refusal -/
theorem c5_refusal {k : Nat} {G : fS} {h : jH} (hG : jOb sM k G h) {d : Int} (hd : d = 0 ∨ d = 1) (hr : 0 ≤ G 7 0 ∧ G 7 0 ≤ 10) : jM mX5_refusal 0 0 0 [] [.ref k, iv d] h (jWi sM k (m_refusal G d) h) jno := by
  refine j_method (by decide +kernel) rfl (fun _ _ _ => trivial) (Nat.le_of_ble_eq_true rfl) ?_
  generalize hZ : jZ [] 0 0 _ _ = Z
  show J mX5_refusal (jR 0 0 0) [] Z 0 [(0, .ref k), (1, iv d)] [] h 0 0
  have hE0 : jEx k 10 h h := jEx.rf
  refine j_aload_n dX5_refusal_0 rfl rfl ?_
  refine j_aload_n dX5_refusal_1 rfl rfl ?_
  refine j_getfield (v := iv (G 7 0)) dX5_refusal_2 jf_X5_58 hG.1 rfl ?_
  refine j_if_ne (tgt := 12) dX5_refusal_5 (by decide) (by omega) (fun c1 => ?_) (fun c1 => ?_)
  · refine j_iconst dX5_refusal_12 ?_
    refine jo_put (S := sM) dX5_refusal_13 jf_X5_42 (fun q hq => by cases hq; exact ⟨rfl, rfl⟩) (jHold_int _) okM hG rfl (fun h2 hG2 hX2 => ?_)
    have hE3 := hE0.tr hX2
    refine j_aload_n dX5_refusal_16 rfl rfl ?_
    refine j_getfield (v := iv 0) dX5_refusal_17 jf_X5_42 hG2.1 rfl ?_
    refine j_if_le (tgt := 27) dX5_refusal_20 (by decide) (by omega) (fun c4 => ?_) (fun c4 => absurd (by decide) c4)
    refine j_iload_n dX5_refusal_27 rfl rfl ?_
    refine j_if_eq (tgt := 38) dX5_refusal_28 (by decide) (by omega) (fun c5 => ?_) (fun c5 => ?_)
    · refine j_aload_n dX5_refusal_38 rfl rfl ?_
      refine j_getfield (v := iv (G 7 0)) dX5_refusal_39 jf_X5_58 hG2.1 rfl ?_
      subst hZ
      exact j_ireturn dX5_refusal_42 rfl rfl (jWi.i ((if_neg c1).trans (if_pos c5)) hG2 hE3) (Nat.le_refl _) (Nat.le_refl _)
    · refine j_aload_n dX5_refusal_31 rfl rfl ?_
      refine j_getfield (v := iv (G 8 0)) dX5_refusal_32 jf_X5_61 hG2.1 rfl ?_
      refine j_goto (tgt := 42) dX5_refusal_35 (by decide) ?_
      subst hZ
      exact j_ireturn dX5_refusal_42 rfl rfl (jWi.i ((if_neg c1).trans (if_neg c5)) hG2 hE3) (Nat.le_refl _) (Nat.le_refl _)
  · refine j_iconst dX5_refusal_8 ?_
    refine j_goto (tgt := 13) dX5_refusal_9 (by decide) ?_
    refine jo_put (S := sM) dX5_refusal_13 jf_X5_42 (fun q hq => by cases hq; exact ⟨rfl, rfl⟩) (jHold_int _) okM hG rfl (fun h6 hG6 hX6 => ?_)
    have hE7 := hE0.tr hX6
    refine j_aload_n dX5_refusal_16 rfl rfl ?_
    refine j_getfield (v := iv 1) dX5_refusal_17 jf_X5_42 hG6.1 rfl ?_
    refine j_if_le (tgt := 27) dX5_refusal_20 (by decide) (by omega) (fun c8 => absurd c8 (by decide)) (fun c8 => ?_)
    refine j_iconst dX5_refusal_23 ?_
    refine j_goto (tgt := 42) dX5_refusal_24 (by decide) ?_
    subst hZ
    exact j_ireturn dX5_refusal_42 rfl rfl (jWi.i (if_pos c1) hG6 hE7) (Nat.le_refl _) (Nat.le_refl _)
