set_option maxHeartbeats 4000000 in
/-- Families.has -/
theorem c1_has {k : Nat} {F : fS} {h : jH} (hF : jOb sF k F h) (hn : 0 ≤ F 6 0 ∧ F 6 0 ≤ 24) {p : Int} (hp : -2147483648 ≤ p ∧ p ≤ 2147483647) : jM mX1_has 0 0 0 [] [.ref k, iv p] h (jRet (iv (bi (0 ≤ p ∧ p < F 6 0))) h) jno := by
  refine j_method (by decide +kernel) rfl (fun _ _ _ => trivial) (Nat.le_of_ble_eq_true rfl) ?_
  generalize hZ : jZ [] 0 0 _ _ = Z
  show J mX1_has (jR 0 0 0) [] Z 0 [(0, .ref k), (1, iv p)] [] h 0 0
  refine j_iload_n dX1_has_0 rfl rfl ?_
  refine j_if_lt (tgt := 22) dX1_has_1 (by decide) (by omega) (fun c1 => ?_) (fun c1 => ?_)
  · refine j_iconst dX1_has_22 ?_
    subst hZ
    exact j_ireturn dX1_has_23 rfl rfl (jRet.i (by first | exact bi_t (by omega) | exact bi_f (by omega))) (Nat.le_refl _) (Nat.le_refl _)
  · refine j_iload_n dX1_has_4 rfl rfl ?_
    refine j_aload_n dX1_has_5 rfl rfl ?_
    refine j_getfield (v := iv (F 6 0)) dX1_has_6 jf_X1_31 hF.1 rfl ?_
    refine j_icmp_ge (tgt := 22) dX1_has_9 (by decide) (by omega) (fun c2 => ?_) (fun c2 => ?_)
    · refine j_iconst dX1_has_22 ?_
      subst hZ
      exact j_ireturn dX1_has_23 rfl rfl (jRet.i (by first | exact bi_t (by omega) | exact bi_f (by omega))) (Nat.le_refl _) (Nat.le_refl _)
    · refine j_iload_n dX1_has_12 rfl rfl ?_
      refine j_bipush dX1_has_13 (by decide +kernel) ?_
      refine j_icmp_ge (tgt := 22) dX1_has_15 (by decide) (by omega) (fun c3 => ?_) (fun c3 => ?_)
      · refine j_iconst dX1_has_22 ?_
        subst hZ
        exact j_ireturn dX1_has_23 rfl rfl (jRet.i (by first | exact bi_t (by omega) | exact bi_f (by omega))) (Nat.le_refl _) (Nat.le_refl _)
      · refine j_iconst dX1_has_18 ?_
        refine j_goto (tgt := 23) dX1_has_19 (by decide) ?_
        subst hZ
        exact j_ireturn dX1_has_23 rfl rfl (jRet.i (by first | exact bi_t (by omega) | exact bi_f (by omega))) (Nat.le_refl _) (Nat.le_refl _)
def f_add (F : fS) (v : Int) : fS := if (F 6 0) < 0 then F else if 24 ≤ (F 6 0) then F else gn (gs (gs F 0 (jfu (F 0) (F 6 0) v)) 3 (jfu (F 3) (F 6 0) 1)) 6 ((F 6 0) + 1)
set_option maxHeartbeats 4000000 in
/-- Families.add -/
theorem c1_add {k : Nat} {F : fS} {h : jH} (hF : jOb sF k F h) (hn : 0 ≤ F 6 0 ∧ F 6 0 ≤ 24) {v : Int} : jM mX1_add 1 0 0 [] [.ref k, iv v] h (jWv sF k (f_add F v) h) jno := by
  refine j_method (by decide +kernel) rfl (fun _ _ _ => trivial) (Nat.le_of_ble_eq_true rfl) ?_
  generalize hZ : jZ [] 0 0 _ _ = Z
  show J mX1_add (jR 1 0 0) [] Z 0 [(0, .ref k), (1, iv v)] [] h 0 0
  have hE0 : jEx k 7 h h := jEx.rf
  refine j_aload_n dX1_add_0 rfl rfl ?_
  refine j_getfield (v := iv (F 6 0)) dX1_add_1 jf_X1_31 hF.1 rfl ?_
  refine j_if_lt (tgt := 46) dX1_add_4 (by decide) (by omega) (fun c1 => ?_) (fun c1 => ?_)
  · subst hZ
    exact j_return dX1_add_46 rfl (jWv.i (if_pos c1) hF hE0) (Nat.le_refl _) (Nat.le_refl _)
  · refine j_aload_n dX1_add_7 rfl rfl ?_
    refine j_getfield (v := iv (F 6 0)) dX1_add_8 jf_X1_31 hF.1 rfl ?_
    refine j_bipush dX1_add_11 (by decide +kernel) ?_
    refine j_icmp_ge (tgt := 46) dX1_add_13 (by decide) (by omega) (fun c2 => ?_) (fun c2 => ?_)
    · subst hZ
      exact j_return dX1_add_46 rfl (jWv.i ((if_neg c1).trans (if_pos c2)) hF hE0) (Nat.le_refl _) (Nat.le_refl _)
    · refine j_aload_n dX1_add_16 rfl rfl ?_
      refine j_getfield (v := .ref (k + 1)) dX1_add_17 jf_X1_9 hF.1 rfl ?_
      refine j_aload_n dX1_add_20 rfl rfl ?_
      refine j_getfield (v := iv (F 6 0)) dX1_add_21 jf_X1_31 hF.1 rfl ?_
      refine j_iload_n dX1_add_24 rfl rfl ?_
      refine jo_ias (S := sF) (k := k) dX1_add_25 okF hF (i := 0) (p := 1) rfl (by omega) (by decide) (fun h3 hG3 hX3 => ?_)
      have hE4 := hE0.tr hX3
      refine j_aload_n dX1_add_26 rfl rfl ?_
      refine j_getfield (v := .ref (k + 4)) dX1_add_27 jf_X1_21 hG3.1 rfl ?_
      refine j_aload_n dX1_add_30 rfl rfl ?_
      refine j_getfield (v := iv (F 6 0)) dX1_add_31 jf_X1_31 hG3.1 rfl ?_
      refine j_iconst dX1_add_34 ?_
      refine jo_zas (S := sF) (k := k) dX1_add_35 okF hG3 (i := 3) (p := 4) rfl (by omega) (by omega) (by decide) (fun h5 hG5 hX5 => ?_)
      have hE6 := hE4.tr hX5
      refine j_aload_n dX1_add_36 rfl rfl ?_
      refine j_dup dX1_add_37 rfl ?_
      refine j_getfield (v := iv (F 6 0)) dX1_add_38 jf_X1_31 hG5.1 rfl ?_
      refine j_iconst dX1_add_41 ?_
      refine j_iadd dX1_add_42 ?_
      refine jo_put (S := sF) dX1_add_43 jf_X1_31 (fun q hq => by cases hq; exact ⟨rfl, rfl⟩) (jHold_int _) okF hG5 rfl (fun h7 hG7 hX7 => ?_)
      have hE8 := hE6.tr hX7
      subst hZ
      exact j_return dX1_add_46 rfl (jWv.i ((if_neg c1).trans (if_neg c2)) hG7 hE8) (Nat.le_refl _) (Nat.le_refl _)
def f_setParent (F : fS) (p v : Int) : fS := if (bi (0 ≤ p ∧ p < F 6 0)) = 0 then F else gs F 0 (jfu (F 0) p v)
set_option maxHeartbeats 4000000 in
/-- Families.setParent -/
theorem c1_setParent {k : Nat} {F : fS} {h : jH} (hF : jOb sF k F h) (hn : 0 ≤ F 6 0 ∧ F 6 0 ≤ 24) {p v : Int} (hp : -2147483648 ≤ p ∧ p ≤ 2147483647) : jM mX1_setParent 1 0 0 [] [.ref k, iv p, iv v] h (jWv sF k (f_setParent F p v) h) jno := by
  refine j_method (by decide +kernel) rfl (fun _ _ _ => trivial) (Nat.le_of_ble_eq_true rfl) ?_
  generalize hZ : jZ [] 0 0 _ _ = Z
  show J mX1_setParent (jR 1 0 0) [] Z 0 [(0, .ref k), (1, iv p), (2, iv v)] [] h 0 0
  have hE0 : jEx k 7 h h := jEx.rf
  refine j_aload_n dX1_setParent_0 rfl rfl ?_
  refine j_iload_n dX1_setParent_1 rfl rfl ?_
  refine j_callV (c1_has hF (by show 0 ≤ F 6 0 ∧ F 6 0 ≤ 24; omega) (by omega)) dX1_setParent_2 jc_X1_47 jmV_X1_has rfl rfl hF.1 rfl rfl (by simp) jfr_nil (Nat.le_of_ble_eq_true rfl) ⟨Nat.le_of_ble_eq_true rfl, Nat.le_of_ble_eq_true rfl⟩ ⟨Nat.le_of_ble_eq_true rfl, Nat.le_of_ble_eq_true rfl⟩ (fun r h1 hp9 => ?_) (fun E h9 q => q.elim)
  obtain ⟨rfl, rfl⟩ := hp9
  refine j_if_eq (tgt := 15) dX1_setParent_5 (by decide) (bi_r32 _) (fun c2 => ?_) (fun c2 => ?_)
  · have qc2 := bi_z c2
    subst hZ
    exact j_return dX1_setParent_15 rfl (jWv.i (if_pos c2) hF hE0) (Nat.le_refl _) (Nat.le_refl _)
  · have qc2 := bi_nz c2
    refine j_aload_n dX1_setParent_8 rfl rfl ?_
    refine j_getfield (v := .ref (k + 1)) dX1_setParent_9 jf_X1_9 hF.1 rfl ?_
    refine j_iload_n dX1_setParent_12 rfl rfl ?_
    refine j_iload_n dX1_setParent_13 rfl rfl ?_
    refine jo_ias (S := sF) (k := k) dX1_setParent_14 okF hF (i := 0) (p := 1) rfl (by omega) (by decide) (fun h3 hG3 hX3 => ?_)
    have hE4 := hE0.tr hX3
    subst hZ
    exact j_return dX1_setParent_15 rfl (jWv.i (if_neg c2) hG3 hE4) (Nat.le_refl _) (Nat.le_refl _)
def f_setSpouse (F : fS) (p v : Int) : fS := if (bi (0 ≤ p ∧ p < F 6 0)) = 0 then F else gs F 1 (jfu (F 1) p v)
set_option maxHeartbeats 4000000 in
/-- Families.setSpouse -/
theorem c1_setSpouse {k : Nat} {F : fS} {h : jH} (hF : jOb sF k F h) (hn : 0 ≤ F 6 0 ∧ F 6 0 ≤ 24) {p v : Int} (hp : -2147483648 ≤ p ∧ p ≤ 2147483647) : jM mX1_setSpouse 1 0 0 [] [.ref k, iv p, iv v] h (jWv sF k (f_setSpouse F p v) h) jno := by
  refine j_method (by decide +kernel) rfl (fun _ _ _ => trivial) (Nat.le_of_ble_eq_true rfl) ?_
  generalize hZ : jZ [] 0 0 _ _ = Z
  show J mX1_setSpouse (jR 1 0 0) [] Z 0 [(0, .ref k), (1, iv p), (2, iv v)] [] h 0 0
  have hE0 : jEx k 7 h h := jEx.rf
  refine j_aload_n dX1_setSpouse_0 rfl rfl ?_
  refine j_iload_n dX1_setSpouse_1 rfl rfl ?_
  refine j_callV (c1_has hF (by show 0 ≤ F 6 0 ∧ F 6 0 ≤ 24; omega) (by omega)) dX1_setSpouse_2 jc_X1_47 jmV_X1_has rfl rfl hF.1 rfl rfl (by simp) jfr_nil (Nat.le_of_ble_eq_true rfl) ⟨Nat.le_of_ble_eq_true rfl, Nat.le_of_ble_eq_true rfl⟩ ⟨Nat.le_of_ble_eq_true rfl, Nat.le_of_ble_eq_true rfl⟩ (fun r h1 hp9 => ?_) (fun E h9 q => q.elim)
  obtain ⟨rfl, rfl⟩ := hp9
  refine j_if_eq (tgt := 15) dX1_setSpouse_5 (by decide) (bi_r32 _) (fun c2 => ?_) (fun c2 => ?_)
  · have qc2 := bi_z c2
    subst hZ
    exact j_return dX1_setSpouse_15 rfl (jWv.i (if_pos c2) hF hE0) (Nat.le_refl _) (Nat.le_refl _)
  · have qc2 := bi_nz c2
    refine j_aload_n dX1_setSpouse_8 rfl rfl ?_
    refine j_getfield (v := .ref (k + 2)) dX1_setSpouse_9 jf_X1_15 hF.1 rfl ?_
    refine j_iload_n dX1_setSpouse_12 rfl rfl ?_
    refine j_iload_n dX1_setSpouse_13 rfl rfl ?_
    refine jo_ias (S := sF) (k := k) dX1_setSpouse_14 okF hF (i := 1) (p := 2) rfl (by omega) (by decide) (fun h3 hG3 hX3 => ?_)
    have hE4 := hE0.tr hX3
    subst hZ
    exact j_return dX1_setSpouse_15 rfl (jWv.i (if_neg c2) hG3 hE4) (Nat.le_refl _) (Nat.le_refl _)
def f_setDead (F : fS) (p : Int) : fS := if (bi (0 ≤ p ∧ p < F 6 0)) = 0 then F else gs F 3 (jfu (F 3) p 0)
set_option maxHeartbeats 4000000 in
/-- Families.setDead -/
theorem c1_setDead {k : Nat} {F : fS} {h : jH} (hF : jOb sF k F h) (hn : 0 ≤ F 6 0 ∧ F 6 0 ≤ 24) {p : Int} (hp : -2147483648 ≤ p ∧ p ≤ 2147483647) : jM mX1_setDead 1 0 0 [] [.ref k, iv p] h (jWv sF k (f_setDead F p) h) jno := by
  refine j_method (by decide +kernel) rfl (fun _ _ _ => trivial) (Nat.le_of_ble_eq_true rfl) ?_
  generalize hZ : jZ [] 0 0 _ _ = Z
  show J mX1_setDead (jR 1 0 0) [] Z 0 [(0, .ref k), (1, iv p)] [] h 0 0
  have hE0 : jEx k 7 h h := jEx.rf
  refine j_aload_n dX1_setDead_0 rfl rfl ?_
  refine j_iload_n dX1_setDead_1 rfl rfl ?_
  refine j_callV (c1_has hF (by show 0 ≤ F 6 0 ∧ F 6 0 ≤ 24; omega) (by omega)) dX1_setDead_2 jc_X1_47 jmV_X1_has rfl rfl hF.1 rfl rfl (by simp) jfr_nil (Nat.le_of_ble_eq_true rfl) ⟨Nat.le_of_ble_eq_true rfl, Nat.le_of_ble_eq_true rfl⟩ ⟨Nat.le_of_ble_eq_true rfl, Nat.le_of_ble_eq_true rfl⟩ (fun r h1 hp9 => ?_) (fun E h9 q => q.elim)
  obtain ⟨rfl, rfl⟩ := hp9
  refine j_if_eq (tgt := 15) dX1_setDead_5 (by decide) (bi_r32 _) (fun c2 => ?_) (fun c2 => ?_)
  · have qc2 := bi_z c2
    subst hZ
    exact j_return dX1_setDead_15 rfl (jWv.i (if_pos c2) hF hE0) (Nat.le_refl _) (Nat.le_refl _)
  · have qc2 := bi_nz c2
    refine j_aload_n dX1_setDead_8 rfl rfl ?_
    refine j_getfield (v := .ref (k + 4)) dX1_setDead_9 jf_X1_21 hF.1 rfl ?_
    refine j_iload_n dX1_setDead_12 rfl rfl ?_
    refine j_iconst dX1_setDead_13 ?_
    refine jo_zas (S := sF) (k := k) dX1_setDead_14 okF hF (i := 3) (p := 4) rfl (by omega) (by omega) (by decide) (fun h3 hG3 hX3 => ?_)
    have hE4 := hE0.tr hX3
    subst hZ
    exact j_return dX1_setDead_15 rfl (jWv.i (if_neg c2) hG3 hE4) (Nat.le_refl _) (Nat.le_refl _)
def f_addCoins (F : fS) (p v : Int) : fS := if (bi (0 ≤ p ∧ p < F 6 0)) = 0 then F else gs F 2 (jfu (F 2) p (((F 2) p) + v))
set_option maxHeartbeats 4000000 in
/-- Families.addCoins -/
theorem c1_addCoins {k : Nat} {F : fS} {h : jH} (hF : jOb sF k F h) (hn : 0 ≤ F 6 0 ∧ F 6 0 ≤ 24) {p v : Int} (hp : -2147483648 ≤ p ∧ p ≤ 2147483647) : jM mX1_addCoins 1 0 0 [] [.ref k, iv p, iv v] h (jWv sF k (f_addCoins F p v) h) jno := by
  refine j_method (by decide +kernel) rfl (fun _ _ _ => trivial) (Nat.le_of_ble_eq_true rfl) ?_
  generalize hZ : jZ [] 0 0 _ _ = Z
  show J mX1_addCoins (jR 1 0 0) [] Z 0 [(0, .ref k), (1, iv p), (2, iv v)] [] h 0 0
  have hE0 : jEx k 7 h h := jEx.rf
  refine j_aload_n dX1_addCoins_0 rfl rfl ?_
  refine j_iload_n dX1_addCoins_1 rfl rfl ?_
  refine j_callV (c1_has hF (by show 0 ≤ F 6 0 ∧ F 6 0 ≤ 24; omega) (by omega)) dX1_addCoins_2 jc_X1_47 jmV_X1_has rfl rfl hF.1 rfl rfl (by simp) jfr_nil (Nat.le_of_ble_eq_true rfl) ⟨Nat.le_of_ble_eq_true rfl, Nat.le_of_ble_eq_true rfl⟩ ⟨Nat.le_of_ble_eq_true rfl, Nat.le_of_ble_eq_true rfl⟩ (fun r h1 hp9 => ?_) (fun E h9 q => q.elim)
  obtain ⟨rfl, rfl⟩ := hp9
  refine j_if_eq (tgt := 18) dX1_addCoins_5 (by decide) (bi_r32 _) (fun c2 => ?_) (fun c2 => ?_)
  · have qc2 := bi_z c2
    subst hZ
    exact j_return dX1_addCoins_18 rfl (jWv.i (if_pos c2) hF hE0) (Nat.le_refl _) (Nat.le_refl _)
  · have qc2 := bi_nz c2
    refine j_aload_n dX1_addCoins_8 rfl rfl ?_
    refine j_getfield (v := .ref (k + 3)) dX1_addCoins_9 jf_X1_18 hF.1 rfl ?_
    refine j_iload_n dX1_addCoins_12 rfl rfl ?_
    refine j_dup2 dX1_addCoins_13 rfl rfl ?_
    refine j_iaload (f := F 2) dX1_addCoins_14 (hF.a 2 3 0 24 rfl) (by omega) (by decide) ?_
    refine j_iload_n dX1_addCoins_15 rfl rfl ?_
    refine j_iadd dX1_addCoins_16 ?_
    refine jo_ias (S := sF) (k := k) dX1_addCoins_17 okF hF (i := 2) (p := 3) rfl (by omega) (by decide) (fun h3 hG3 hX3 => ?_)
    have hE4 := hE0.tr hX3
    subst hZ
    exact j_return dX1_addCoins_18 rfl (jWv.i (if_neg c2) hG3 hE4) (Nat.le_refl _) (Nat.le_refl _)
def f_addQuarrel (F : fS) (p o : Int) : fS := if (F 7 0) < 0 then F else if 20 ≤ (F 7 0) then F else gn (gs (gs F 4 (jfu (F 4) (F 7 0) p)) 5 (jfu (F 5) (F 7 0) o)) 7 ((F 7 0) + 1)
set_option maxHeartbeats 4000000 in
/-- Families.addQuarrel -/
theorem c1_addQuarrel {k : Nat} {F : fS} {h : jH} (hF : jOb sF k F h) (hn : 0 ≤ F 6 0 ∧ F 6 0 ≤ 24) {p o : Int} (hq : 0 ≤ F 7 0 ∧ F 7 0 ≤ 20) : jM mX1_addQuarrel 1 0 0 [] [.ref k, iv p, iv o] h (jWv sF k (f_addQuarrel F p o) h) jno := by
  refine j_method (by decide +kernel) rfl (fun _ _ _ => trivial) (Nat.le_of_ble_eq_true rfl) ?_
  generalize hZ : jZ [] 0 0 _ _ = Z
  show J mX1_addQuarrel (jR 1 0 0) [] Z 0 [(0, .ref k), (1, iv p), (2, iv o)] [] h 0 0
  have hE0 : jEx k 7 h h := jEx.rf
  refine j_aload_n dX1_addQuarrel_0 rfl rfl ?_
  refine j_getfield (v := iv (F 7 0)) dX1_addQuarrel_1 jf_X1_35 hF.1 rfl ?_
  refine j_if_lt (tgt := 46) dX1_addQuarrel_4 (by decide) (by omega) (fun c1 => ?_) (fun c1 => ?_)
  · subst hZ
    exact j_return dX1_addQuarrel_46 rfl (jWv.i (if_pos c1) hF hE0) (Nat.le_refl _) (Nat.le_refl _)
  · refine j_aload_n dX1_addQuarrel_7 rfl rfl ?_
    refine j_getfield (v := iv (F 7 0)) dX1_addQuarrel_8 jf_X1_35 hF.1 rfl ?_
    refine j_bipush dX1_addQuarrel_11 (by decide +kernel) ?_
    refine j_icmp_ge (tgt := 46) dX1_addQuarrel_13 (by decide) (by omega) (fun c2 => ?_) (fun c2 => ?_)
    · subst hZ
      exact j_return dX1_addQuarrel_46 rfl (jWv.i ((if_neg c1).trans (if_pos c2)) hF hE0) (Nat.le_refl _) (Nat.le_refl _)
    · refine j_aload_n dX1_addQuarrel_16 rfl rfl ?_
      refine j_getfield (v := .ref (k + 5)) dX1_addQuarrel_17 jf_X1_25 hF.1 rfl ?_
      refine j_aload_n dX1_addQuarrel_20 rfl rfl ?_
      refine j_getfield (v := iv (F 7 0)) dX1_addQuarrel_21 jf_X1_35 hF.1 rfl ?_
      refine j_iload_n dX1_addQuarrel_24 rfl rfl ?_
      refine jo_ias (S := sF) (k := k) dX1_addQuarrel_25 okF hF (i := 4) (p := 5) rfl (by omega) (by decide) (fun h3 hG3 hX3 => ?_)
      have hE4 := hE0.tr hX3
      refine j_aload_n dX1_addQuarrel_26 rfl rfl ?_
      refine j_getfield (v := .ref (k + 6)) dX1_addQuarrel_27 jf_X1_28 hG3.1 rfl ?_
      refine j_aload_n dX1_addQuarrel_30 rfl rfl ?_
      refine j_getfield (v := iv (F 7 0)) dX1_addQuarrel_31 jf_X1_35 hG3.1 rfl ?_
      refine j_iload_n dX1_addQuarrel_34 rfl rfl ?_
      refine jo_ias (S := sF) (k := k) dX1_addQuarrel_35 okF hG3 (i := 5) (p := 6) rfl (by omega) (by decide) (fun h5 hG5 hX5 => ?_)
      have hE6 := hE4.tr hX5
      refine j_aload_n dX1_addQuarrel_36 rfl rfl ?_
      refine j_dup dX1_addQuarrel_37 rfl ?_
      refine j_getfield (v := iv (F 7 0)) dX1_addQuarrel_38 jf_X1_35 hG5.1 rfl ?_
      refine j_iconst dX1_addQuarrel_41 ?_
      refine j_iadd dX1_addQuarrel_42 ?_
      refine jo_put (S := sF) dX1_addQuarrel_43 jf_X1_35 (fun q hq => by cases hq; exact ⟨rfl, rfl⟩) (jHold_int _) okF hG5 rfl (fun h7 hG7 hX7 => ?_)
      have hE8 := hE6.tr hX7
      subst hZ
      exact j_return dX1_addQuarrel_46 rfl (jWv.i ((if_neg c1).trans (if_neg c2)) hG7 hE8) (Nat.le_refl _) (Nat.le_refl _)
theorem f_setSpouse_6 (F : fS) (p v : Int) : f_setSpouse F p v 6 = F 6 := by
  unfold f_setSpouse
  repeat' split
  all_goals rfl
theorem f_addCoins_6 (F : fS) (p v : Int) : f_addCoins F p v 6 = F 6 := by
  unfold f_addCoins
  repeat' split
  all_goals rfl
def f_endMarriage (F : fS) (p : Int) : fS := (f_setSpouse ((f_setSpouse F (F 1 p) (-1))) p (-1))
set_option maxHeartbeats 4000000 in
/-- Families.endMarriage -/
theorem c1_endMarriage {k : Nat} {F : fS} {B : Int} {h : jH} (hF : jOb sF k F h) (hO : jOk B F) {p : Int} (hp : -2147483648 ≤ p ∧ p ≤ 2147483647) : jM mX1_endMarriage 2 0 0 [] [.ref k, iv p] h (jWv sF k (f_endMarriage F p) h) jno := by
  refine j_method (by decide +kernel) rfl (fun _ _ _ => trivial) (Nat.le_of_ble_eq_true rfl) ?_
  generalize hZ : jZ [] 0 0 _ _ = Z
  show J mX1_endMarriage (jR 2 0 0) [] Z 0 [(0, .ref k), (1, iv p)] [] h 0 0
  have hn := hO.n
  have hs := hO.s p
  have hE0 : jEx k 7 h h := jEx.rf
  refine j_aload_n dX1_endMarriage_0 rfl rfl ?_
  refine j_aload_n dX1_endMarriage_1 rfl rfl ?_
  refine j_iload_n dX1_endMarriage_2 rfl rfl ?_
  refine j_callV (c_spouseOf hF.fam hO (by omega)) dX1_endMarriage_3 jc_X1_51 jmV_X1_spouseOf rfl rfl hF.1 rfl rfl (by simp) jfr_nil (Nat.le_of_ble_eq_true rfl) ⟨Nat.le_of_ble_eq_true rfl, Nat.le_of_ble_eq_true rfl⟩ ⟨Nat.le_of_ble_eq_true rfl, Nat.le_of_ble_eq_true rfl⟩ (fun r h1 hp9 => ?_) (fun E h9 q => q.elim)
  obtain ⟨rfl, rfl⟩ := hp9
  refine j_iconst dX1_endMarriage_6 ?_
  refine j_callV (c1_setSpouse hF hn (by omega)) dX1_endMarriage_7 jc_X1_55 jmV_X1_setSpouse rfl rfl hF.1 rfl rfl (by simp) jfr_nil (Nat.le_of_ble_eq_true rfl) ⟨Nat.le_of_ble_eq_true rfl, Nat.le_of_ble_eq_true rfl⟩ ⟨Nat.le_of_ble_eq_true rfl, Nat.le_of_ble_eq_true rfl⟩ (fun r h2 hp9 => ?_) (fun E h9 q => q.elim)
  obtain ⟨rfl, hG3, hX4⟩ := hp9
  have hE5 := hE0.tr hX4
  refine j_aload_n dX1_endMarriage_10 rfl rfl ?_
  refine j_iload_n dX1_endMarriage_11 rfl rfl ?_
  refine j_iconst dX1_endMarriage_12 ?_
  refine j_callV (c1_setSpouse hG3 (by rw [f_setSpouse_6]; exact hO.n) (by omega)) dX1_endMarriage_13 jc_X1_55 jmV_X1_setSpouse rfl rfl hG3.1 rfl rfl (by simp) jfr_nil (Nat.le_of_ble_eq_true rfl) ⟨Nat.le_of_ble_eq_true rfl, Nat.le_of_ble_eq_true rfl⟩ ⟨Nat.le_of_ble_eq_true rfl, Nat.le_of_ble_eq_true rfl⟩ (fun r h6 hp9 => ?_) (fun E h9 q => q.elim)
  obtain ⟨rfl, hG7, hX8⟩ := hp9
  have hE9 := hE5.tr hX8
  subst hZ
  exact j_return dX1_endMarriage_16 rfl (jWv.i rfl hG7 hE9) (Nat.le_refl _) (Nat.le_refl _)
def f_passCoins (F : fS) (p e : Int) : fS := if e = (-1) then gn ((f_addCoins ((f_addCoins F p (-(F 2 p)))) e (F 2 p))) 10 ((((f_addCoins ((f_addCoins F p (-(F 2 p)))) e (F 2 p))) 10 0) + (F 2 p)) else (f_addCoins ((f_addCoins F p (-(F 2 p)))) e (F 2 p))
set_option maxHeartbeats 4000000 in
/-- Families.passCoins -/
theorem c1_passCoins {k : Nat} {F : fS} {B : Int} {h : jH} (hF : jOb sF k F h) (hO : jOk B F) {p e : Int} (hp : -2147483648 ≤ p ∧ p ≤ 2147483647) (he : -2147483648 ≤ e ∧ e ≤ 2147483647) : jM mX1_passCoins 2 0 0 [] [.ref k, iv p, iv e] h (jWv sF k (f_passCoins F p e) h) jno := by
  refine j_method (by decide +kernel) rfl (fun _ _ _ => trivial) (Nat.le_of_ble_eq_true rfl) ?_
  generalize hZ : jZ [] 0 0 _ _ = Z
  show J mX1_passCoins (jR 2 0 0) [] Z 0 [(0, .ref k), (1, iv p), (2, iv e)] [] h 0 0
  have hn := hO.n
  have hs := hO.c p
  have hE0 : jEx k 7 h h := jEx.rf
  refine j_aload_n dX1_passCoins_0 rfl rfl ?_
  refine j_iload_n dX1_passCoins_1 rfl rfl ?_
  refine j_callV (c_coinsOf hF.fam hO (by omega)) dX1_passCoins_2 jc_X1_59 jmV_X1_coinsOf rfl rfl hF.1 rfl rfl (by simp) jfr_nil (Nat.le_of_ble_eq_true rfl) ⟨Nat.le_of_ble_eq_true rfl, Nat.le_of_ble_eq_true rfl⟩ ⟨Nat.le_of_ble_eq_true rfl, Nat.le_of_ble_eq_true rfl⟩ (fun r h1 hp9 => ?_) (fun E h9 q => q.elim)
  obtain ⟨rfl, rfl⟩ := hp9
  refine j_istore_n (L' := [(0, _), (1, _), (2, _), (3, _)]) dX1_passCoins_5 rfl (by decide) rfl ?_
  refine j_aload_n dX1_passCoins_6 rfl rfl ?_
  refine j_iload_n dX1_passCoins_7 rfl rfl ?_
  refine j_iload_n dX1_passCoins_8 rfl rfl ?_
  refine j_ineg dX1_passCoins_9 ?_
  refine j_callV (c1_addCoins hF hn (by omega)) dX1_passCoins_10 jc_X1_62 jmV_X1_addCoins rfl rfl hF.1 rfl rfl (by simp) jfr_nil (Nat.le_of_ble_eq_true rfl) ⟨Nat.le_of_ble_eq_true rfl, Nat.le_of_ble_eq_true rfl⟩ ⟨Nat.le_of_ble_eq_true rfl, Nat.le_of_ble_eq_true rfl⟩ (fun r h2 hp9 => ?_) (fun E h9 q => q.elim)
  obtain ⟨rfl, hG3, hX4⟩ := hp9
  have hE5 := hE0.tr hX4
  refine j_aload_n dX1_passCoins_13 rfl rfl ?_
  refine j_iload_n dX1_passCoins_14 rfl rfl ?_
  refine j_iload_n dX1_passCoins_15 rfl rfl ?_
  refine j_callV (c1_addCoins hG3 (by rw [f_addCoins_6]; exact hO.n) (by omega)) dX1_passCoins_16 jc_X1_62 jmV_X1_addCoins rfl rfl hG3.1 rfl rfl (by simp) jfr_nil (Nat.le_of_ble_eq_true rfl) ⟨Nat.le_of_ble_eq_true rfl, Nat.le_of_ble_eq_true rfl⟩ ⟨Nat.le_of_ble_eq_true rfl, Nat.le_of_ble_eq_true rfl⟩ (fun r h6 hp9 => ?_) (fun E h9 q => q.elim)
  obtain ⟨rfl, hG7, hX8⟩ := hp9
  have hE9 := hE5.tr hX8
  refine j_iload_n dX1_passCoins_19 rfl rfl ?_
  refine j_iconst dX1_passCoins_20 ?_
  refine j_icmp_ne (tgt := 34) dX1_passCoins_21 (by decide) (by omega) (fun c10 => ?_) (fun c10 => ?_)
  · subst hZ
    exact j_return dX1_passCoins_34 rfl (jWv.i (if_neg c10) hG7 hE9) (Nat.le_refl _) (Nat.le_refl _)
  · refine j_aload_n dX1_passCoins_24 rfl rfl ?_
    refine j_dup dX1_passCoins_25 rfl ?_
    refine j_getfield (v := iv (((f_addCoins ((f_addCoins F p (-(F 2 p)))) e (F 2 p))) 10 0)) dX1_passCoins_26 jf_X1_44 hG7.1 rfl ?_
    refine j_iload_n dX1_passCoins_29 rfl rfl ?_
    refine j_iadd dX1_passCoins_30 ?_
    refine jo_put (S := sF) dX1_passCoins_31 jf_X1_44 (fun q hq => by cases hq; exact ⟨rfl, rfl⟩) (jHold_int _) okF hG7 rfl (fun h11 hG11 hX11 => ?_)
    have hE12 := hE9.tr hX11
    subst hZ
    exact j_return dX1_passCoins_34 rfl (jWv.i (if_pos c10) hG11 hE12) (Nat.le_refl _) (Nat.le_refl _)
