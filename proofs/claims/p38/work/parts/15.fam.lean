theorem jRet_i {x y : Int} {h : jH} (e : x = y) : jRet (iv y) h (some (iv x)) h := ⟨by rw [e], rfl⟩
set_option maxHeartbeats 4000000 in
/-- Families.parentOf -/
theorem c_parentOf {k : Nat} {F : fS} {B : Int} {h : jH} (hF : jFam k F h) (hO : jOk B F) {p : Int} (hp : -2147483648 ≤ p ∧ p ≤ 2147483647) : jM mX1_parentOf 0 0 0 [] [.ref (k), iv p] h (jRet (iv (F 0 p)) h) jno := by
  refine j_method (by decide +kernel) rfl (fun _ _ _ => trivial) (Nat.le_of_ble_eq_true rfl) ?_
  generalize hZ : jZ [] 0 0 _ _ = Z
  show J mX1_parentOf (jR 0 0 0) [] Z 0 [(0, .ref (k)), (1, iv p)] [] h 0 0
  have hn := hO.n
  have hq := hO.q
  have hb := hO.b
  refine j_iload_n dX1_parentOf_0 rfl rfl ?_
  refine j_if_lt (tgt := 19) dX1_parentOf_1 (by decide) (by omega) (fun c1 => ?_) (fun c1 => ?_)
  · refine j_iconst dX1_parentOf_19 ?_
    subst hZ
    exact j_ireturn dX1_parentOf_20 rfl rfl (jRet_i (by first | rfl | rw [(hO.df24 p (by omega)).1])) (Nat.le_refl _) (Nat.le_refl _)
  · refine j_iload_n dX1_parentOf_4 rfl rfl ?_
    refine j_bipush dX1_parentOf_5 (by decide +kernel) ?_
    refine j_icmp_ge (tgt := 19) dX1_parentOf_7 (by decide) (by omega) (fun c7 => ?_) (fun c7 => ?_)
    · refine j_iconst dX1_parentOf_19 ?_
      subst hZ
      exact j_ireturn dX1_parentOf_20 rfl rfl (jRet_i (by first | rfl | rw [(hO.df24 p (by omega)).1])) (Nat.le_refl _) (Nat.le_refl _)
    · refine j_aload_n dX1_parentOf_10 rfl rfl ?_
      refine j_getfield dX1_parentOf_11 jf_X1_9 hF.1 rfl ?_
      refine j_iload_n dX1_parentOf_14 rfl rfl ?_
      refine j_iaload dX1_parentOf_15 hF.2.1 (by omega) (by decide) ?_
      refine j_goto (tgt := 20) dX1_parentOf_16 (by decide) ?_
      subst hZ
      exact j_ireturn dX1_parentOf_20 rfl rfl (jRet_i (by first | rfl | rw [(hO.df24 p (by omega)).1])) (Nat.le_refl _) (Nat.le_refl _)
set_option maxHeartbeats 4000000 in
/-- Families.spouseOf -/
theorem c_spouseOf {k : Nat} {F : fS} {B : Int} {h : jH} (hF : jFam k F h) (hO : jOk B F) {p : Int} (hp : -2147483648 ≤ p ∧ p ≤ 2147483647) : jM mX1_spouseOf 0 0 0 [] [.ref (k), iv p] h (jRet (iv (F 1 p)) h) jno := by
  refine j_method (by decide +kernel) rfl (fun _ _ _ => trivial) (Nat.le_of_ble_eq_true rfl) ?_
  generalize hZ : jZ [] 0 0 _ _ = Z
  show J mX1_spouseOf (jR 0 0 0) [] Z 0 [(0, .ref (k)), (1, iv p)] [] h 0 0
  have hn := hO.n
  have hq := hO.q
  have hb := hO.b
  refine j_iload_n dX1_spouseOf_0 rfl rfl ?_
  refine j_if_lt (tgt := 19) dX1_spouseOf_1 (by decide) (by omega) (fun c1 => ?_) (fun c1 => ?_)
  · refine j_iconst dX1_spouseOf_19 ?_
    subst hZ
    exact j_ireturn dX1_spouseOf_20 rfl rfl (jRet_i (by first | rfl | rw [(hO.df24 p (by omega)).2.1])) (Nat.le_refl _) (Nat.le_refl _)
  · refine j_iload_n dX1_spouseOf_4 rfl rfl ?_
    refine j_bipush dX1_spouseOf_5 (by decide +kernel) ?_
    refine j_icmp_ge (tgt := 19) dX1_spouseOf_7 (by decide) (by omega) (fun c7 => ?_) (fun c7 => ?_)
    · refine j_iconst dX1_spouseOf_19 ?_
      subst hZ
      exact j_ireturn dX1_spouseOf_20 rfl rfl (jRet_i (by first | rfl | rw [(hO.df24 p (by omega)).2.1])) (Nat.le_refl _) (Nat.le_refl _)
    · refine j_aload_n dX1_spouseOf_10 rfl rfl ?_
      refine j_getfield dX1_spouseOf_11 jf_X1_15 hF.1 rfl ?_
      refine j_iload_n dX1_spouseOf_14 rfl rfl ?_
      refine j_iaload dX1_spouseOf_15 hF.2.2.1 (by omega) (by decide) ?_
      refine j_goto (tgt := 20) dX1_spouseOf_16 (by decide) ?_
      subst hZ
      exact j_ireturn dX1_spouseOf_20 rfl rfl (jRet_i (by first | rfl | rw [(hO.df24 p (by omega)).2.1])) (Nat.le_refl _) (Nat.le_refl _)
set_option maxHeartbeats 4000000 in
/-- Families.coinsOf -/
theorem c_coinsOf {k : Nat} {F : fS} {B : Int} {h : jH} (hF : jFam k F h) (hO : jOk B F) {p : Int} (hp : -2147483648 ≤ p ∧ p ≤ 2147483647) : jM mX1_coinsOf 0 0 0 [] [.ref (k), iv p] h (jRet (iv (F 2 p)) h) jno := by
  refine j_method (by decide +kernel) rfl (fun _ _ _ => trivial) (Nat.le_of_ble_eq_true rfl) ?_
  generalize hZ : jZ [] 0 0 _ _ = Z
  show J mX1_coinsOf (jR 0 0 0) [] Z 0 [(0, .ref (k)), (1, iv p)] [] h 0 0
  have hn := hO.n
  have hq := hO.q
  have hb := hO.b
  refine j_iload_n dX1_coinsOf_0 rfl rfl ?_
  refine j_if_lt (tgt := 19) dX1_coinsOf_1 (by decide) (by omega) (fun c1 => ?_) (fun c1 => ?_)
  · refine j_iconst dX1_coinsOf_19 ?_
    subst hZ
    exact j_ireturn dX1_coinsOf_20 rfl rfl (jRet_i (by first | rfl | rw [(hO.df24 p (by omega)).2.2.1])) (Nat.le_refl _) (Nat.le_refl _)
  · refine j_iload_n dX1_coinsOf_4 rfl rfl ?_
    refine j_bipush dX1_coinsOf_5 (by decide +kernel) ?_
    refine j_icmp_ge (tgt := 19) dX1_coinsOf_7 (by decide) (by omega) (fun c7 => ?_) (fun c7 => ?_)
    · refine j_iconst dX1_coinsOf_19 ?_
      subst hZ
      exact j_ireturn dX1_coinsOf_20 rfl rfl (jRet_i (by first | rfl | rw [(hO.df24 p (by omega)).2.2.1])) (Nat.le_refl _) (Nat.le_refl _)
    · refine j_aload_n dX1_coinsOf_10 rfl rfl ?_
      refine j_getfield dX1_coinsOf_11 jf_X1_18 hF.1 rfl ?_
      refine j_iload_n dX1_coinsOf_14 rfl rfl ?_
      refine j_iaload dX1_coinsOf_15 hF.2.2.2.1 (by omega) (by decide) ?_
      refine j_goto (tgt := 20) dX1_coinsOf_16 (by decide) ?_
      subst hZ
      exact j_ireturn dX1_coinsOf_20 rfl rfl (jRet_i (by first | rfl | rw [(hO.df24 p (by omega)).2.2.1])) (Nat.le_refl _) (Nat.le_refl _)
set_option maxHeartbeats 4000000 in
/-- Families.lives -/
theorem c_lives {k : Nat} {F : fS} {B : Int} {h : jH} (hF : jFam k F h) (hO : jOk B F) {p : Int} (hp : -2147483648 ≤ p ∧ p ≤ 2147483647) : jM mX1_lives 0 0 0 [] [.ref (k), iv p] h (jRet (iv (F 3 p)) h) jno := by
  refine j_method (by decide +kernel) rfl (fun _ _ _ => trivial) (Nat.le_of_ble_eq_true rfl) ?_
  generalize hZ : jZ [] 0 0 _ _ = Z
  show J mX1_lives (jR 0 0 0) [] Z 0 [(0, .ref (k)), (1, iv p)] [] h 0 0
  have hn := hO.n
  have hq := hO.q
  have hb := hO.b
  refine j_iload_n dX1_lives_0 rfl rfl ?_
  refine j_if_lt (tgt := 23) dX1_lives_1 (by decide) (by omega) (fun c1 => ?_) (fun c1 => ?_)
  · refine j_iconst dX1_lives_23 ?_
    subst hZ
    exact j_ireturn dX1_lives_24 rfl rfl (jRet_i (by first | rw [(hO.df24 p (by omega)).2.2.2] | (have := hO.l p; omega))) (Nat.le_refl _) (Nat.le_refl _)
  · refine j_iload_n dX1_lives_4 rfl rfl ?_
    refine j_bipush dX1_lives_5 (by decide +kernel) ?_
    refine j_icmp_ge (tgt := 23) dX1_lives_7 (by decide) (by omega) (fun c7 => ?_) (fun c7 => ?_)
    · refine j_iconst dX1_lives_23 ?_
      subst hZ
      exact j_ireturn dX1_lives_24 rfl rfl (jRet_i (by first | rw [(hO.df24 p (by omega)).2.2.2] | (have := hO.l p; omega))) (Nat.le_refl _) (Nat.le_refl _)
    · refine j_aload_n dX1_lives_10 rfl rfl ?_
      refine j_getfield dX1_lives_11 jf_X1_21 hF.1 rfl ?_
      refine j_iload_n dX1_lives_14 rfl rfl ?_
      refine j_zaload dX1_lives_15 hF.2.2.2.2.1 (by omega) (by decide) ?_
      refine j_if_eq (tgt := 23) dX1_lives_16 (by decide) (by have := hO.l p; omega) (fun c16 => ?_) (fun c16 => ?_)
      · refine j_iconst dX1_lives_23 ?_
        subst hZ
        exact j_ireturn dX1_lives_24 rfl rfl (jRet_i (by first | rw [(hO.df24 p (by omega)).2.2.2] | (have := hO.l p; omega))) (Nat.le_refl _) (Nat.le_refl _)
      · refine j_iconst dX1_lives_19 ?_
        refine j_goto (tgt := 24) dX1_lives_20 (by decide) ?_
        subst hZ
        exact j_ireturn dX1_lives_24 rfl rfl (jRet_i (by first | rw [(hO.df24 p (by omega)).2.2.2] | (have := hO.l p; omega))) (Nat.le_refl _) (Nat.le_refl _)
set_option maxHeartbeats 4000000 in
/-- Families.has -/
theorem c_has {k : Nat} {F : fS} {B : Int} {h : jH} (hF : jFam k F h) (hO : jOk B F) {p : Int} (hp : -2147483648 ≤ p ∧ p ≤ 2147483647) : jM mX1_has 0 0 0 [] [.ref (k), iv p] h (jRet (iv (bi (0 ≤ p ∧ p < F 6 0))) h) jno := by
  refine j_method (by decide +kernel) rfl (fun _ _ _ => trivial) (Nat.le_of_ble_eq_true rfl) ?_
  generalize hZ : jZ [] 0 0 _ _ = Z
  show J mX1_has (jR 0 0 0) [] Z 0 [(0, .ref (k)), (1, iv p)] [] h 0 0
  have hn := hO.n
  have hq := hO.q
  have hb := hO.b
  refine j_iload_n dX1_has_0 rfl rfl ?_
  refine j_if_lt (tgt := 22) dX1_has_1 (by decide) (by omega) (fun c1 => ?_) (fun c1 => ?_)
  · refine j_iconst dX1_has_22 ?_
    subst hZ
    exact j_ireturn dX1_has_23 rfl rfl (jRet_i (by first | exact (bi_t (by omega)).symm | exact (bi_f (by omega)).symm)) (Nat.le_refl _) (Nat.le_refl _)
  · refine j_iload_n dX1_has_4 rfl rfl ?_
    refine j_aload_n dX1_has_5 rfl rfl ?_
    refine j_getfield dX1_has_6 jf_X1_31 hF.1 rfl ?_
    refine j_icmp_ge (tgt := 22) dX1_has_9 (by decide) (by omega) (fun c9 => ?_) (fun c9 => ?_)
    · refine j_iconst dX1_has_22 ?_
      subst hZ
      exact j_ireturn dX1_has_23 rfl rfl (jRet_i (by first | exact (bi_t (by omega)).symm | exact (bi_f (by omega)).symm)) (Nat.le_refl _) (Nat.le_refl _)
    · refine j_iload_n dX1_has_12 rfl rfl ?_
      refine j_bipush dX1_has_13 (by decide +kernel) ?_
      refine j_icmp_ge (tgt := 22) dX1_has_15 (by decide) (by omega) (fun c15 => ?_) (fun c15 => ?_)
      · refine j_iconst dX1_has_22 ?_
        subst hZ
        exact j_ireturn dX1_has_23 rfl rfl (jRet_i (by first | exact (bi_t (by omega)).symm | exact (bi_f (by omega)).symm)) (Nat.le_refl _) (Nat.le_refl _)
      · refine j_iconst dX1_has_18 ?_
        refine j_goto (tgt := 23) dX1_has_19 (by decide) ?_
        subst hZ
        exact j_ireturn dX1_has_23 rfl rfl (jRet_i (by first | exact (bi_t (by omega)).symm | exact (bi_f (by omega)).symm)) (Nat.le_refl _) (Nat.le_refl _)
theorem ucnt_e (par : Int → Int) : ∀ k, ucnt par k (-1) = 0
  | 0 => rfl
  | _ + 1 => if_pos rfl
theorem ucnt_st {par : Int → Int} {k : Nat} {x : Int} (hx : x ≠ -1) : ucnt par (k + 1) x = 1 + ucnt par k (par x) := if_neg hx
theorem fsuc {b i : Int} (h : i < b) : (b - i).toNat = (b - (i + 1)).toNat + 1 := by omega
set_option maxHeartbeats 4000000 in
/-- Families.depthOf -/
theorem c_depthOf {k : Nat} {F : fS} {B : Int} {h : jH} (hF : jFam k F h) (hO : jOk B F) {p : Int} (hp : -2147483648 ≤ p ∧ p ≤ 2147483647) : jM mX1_depthOf 1 0 0 [] [.ref (k), iv p] h (jRet (iv (fdep F p)) h) jno := by
  refine j_method (by decide +kernel) rfl (fun _ _ _ => trivial) (Nat.le_of_ble_eq_true rfl) ?_
  generalize hZ : jZ [] 0 0 _ _ = Z
  show J mX1_depthOf (jR 1 0 0) [] Z 0 [(0, .ref (k)), (1, iv p)] [] h 0 0
  have hn := hO.n
  have hq := hO.q
  have hb := hO.b
  refine j_iconst dX1_depthOf_0 ?_
  refine j_istore_n (L' := [(0, _), (1, _), (2, _)]) dX1_depthOf_1 rfl (by decide) rfl ?_
  refine j_aload_n dX1_depthOf_2 rfl rfl ?_
  refine j_iload_n dX1_depthOf_3 rfl rfl ?_
  refine j_callV (c_parentOf hF hO (by omega)) dX1_depthOf_4 jc_X1_65 jmV_X1_parentOf rfl rfl hF.1 rfl rfl (by simp) jfr_nil (Nat.le_of_ble_eq_true rfl) ⟨Nat.le_of_ble_eq_true rfl, Nat.le_of_ble_eq_true rfl⟩ ⟨Nat.le_of_ble_eq_true rfl, Nat.le_of_ble_eq_true rfl⟩ (fun r h' hp9 => ?_) (fun E h9 q => q.elim)
  obtain ⟨rfl, rfl⟩ := hp9
  refine j_istore_n (L' := [(0, _), (1, _), (2, _), (3, _)]) dX1_depthOf_7 rfl (by decide) rfl ?_
  refine jloop (P := fun a : Int × Int => J mX1_depthOf (jR 1 0 0) [] Z 8 [(0, .ref k), (1, iv p), (2, iv a.1), (3, iv a.2)] [] h 0 0) (fun a => 0 ≤ a.1 ∧ a.1 ≤ 24 ∧ -1 ≤ a.2 ∧ a.2 < 24 ∧ fdep F p = a.1 + ucnt (F 0) (24 - a.1).toNat a.2) (fun a => (24 - a.1).toNat) ?_ (0, F 0 p) ?_
  · rintro ⟨d, x⟩ hinv ih
    dsimp only at hinv ih ⊢
    obtain ⟨i1, i2, i3, i4, i5⟩ := hinv
    refine j_iload_n dX1_depthOf_8 rfl rfl ?_
    refine j_iconst dX1_depthOf_9 ?_
    refine j_icmp_eq (tgt := 31) dX1_depthOf_10 (by decide) (by omega) (fun c10 => ?_) (fun c10 => ?_)
    · refine j_iload_n dX1_depthOf_31 rfl rfl ?_
      subst hZ
      exact j_ireturn dX1_depthOf_32 rfl rfl (jRet_i (by first | (rw [c10, ucnt_e] at i5; omega) | (rw [show (24 - d).toNat = 0 by omega] at i5; exact (i5.trans (Int.add_zero d)).symm))) (Nat.le_refl _) (Nat.le_refl _)
    · refine j_iload_n dX1_depthOf_13 rfl rfl ?_
      refine j_bipush dX1_depthOf_14 (by decide +kernel) ?_
      refine j_icmp_ge (tgt := 31) dX1_depthOf_16 (by decide) (by omega) (fun c16 => ?_) (fun c16 => ?_)
      · refine j_iload_n dX1_depthOf_31 rfl rfl ?_
        subst hZ
        exact j_ireturn dX1_depthOf_32 rfl rfl (jRet_i (by first | (rw [c10, ucnt_e] at i5; omega) | (rw [show (24 - d).toNat = 0 by omega] at i5; exact (i5.trans (Int.add_zero d)).symm))) (Nat.le_refl _) (Nat.le_refl _)
      · refine j_iinc (L' := [(0, _), (1, _), (2, _), (3, _)]) dX1_depthOf_19 rfl (by decide) rfl ?_
        refine j_aload_n dX1_depthOf_22 rfl rfl ?_
        refine j_iload_n dX1_depthOf_23 rfl rfl ?_
        refine j_callV (c_parentOf hF hO (by omega)) dX1_depthOf_24 jc_X1_65 jmV_X1_parentOf rfl rfl hF.1 rfl rfl (by simp) jfr_nil (Nat.le_of_ble_eq_true rfl) ⟨Nat.le_of_ble_eq_true rfl, Nat.le_of_ble_eq_true rfl⟩ ⟨Nat.le_of_ble_eq_true rfl, Nat.le_of_ble_eq_true rfl⟩ (fun r h' hp9 => ?_) (fun E h9 q => q.elim)
        obtain ⟨rfl, rfl⟩ := hp9
        refine j_istore_n (L' := [(0, _), (1, _), (2, _), (3, _)]) dX1_depthOf_27 rfl (by decide) rfl ?_
        refine j_goto (tgt := 8) dX1_depthOf_28 (by decide) ?_
        refine ih (d + 1, F 0 x) ?_ (by show (24 - (d + 1)).toNat < (24 - d).toNat; omega)
        have := hO.p x
        rw [fsuc (by omega : d < 24), ucnt_st c10] at i5
        exact ⟨by show 0 ≤ d + 1; omega, by show d + 1 ≤ 24; omega, by show -1 ≤ F 0 x; omega, by show F 0 x < 24; omega, by show fdep F p = d + 1 + ucnt (F 0) (24 - (d + 1)).toNat (F 0 x); omega⟩
  · dsimp only
    have := hO.p p; exact ⟨by omega, by omega, by omega, by omega, (Int.zero_add _).symm⟩
theorem urt_e {par : Int → Int} {x : Int} (hx : par x = -1) : ∀ k, urt par k x = x
  | 0 => rfl
  | _ + 1 => if_pos hx
theorem urt_st {par : Int → Int} {k : Nat} {x : Int} (hx : par x ≠ -1) : urt par (k + 1) x = urt par k (par x) := if_neg hx
set_option maxHeartbeats 4000000 in
/-- Families.rootOf -/
theorem c_rootOf {k : Nat} {F : fS} {B : Int} {h : jH} (hF : jFam k F h) (hO : jOk B F) {p : Int} (hp : -2147483648 ≤ p ∧ p ≤ 2147483647) : jM mX1_rootOf 1 0 0 [] [.ref (k), iv p] h (jRet (iv (frt F p)) h) jno := by
  refine j_method (by decide +kernel) rfl (fun _ _ _ => trivial) (Nat.le_of_ble_eq_true rfl) ?_
  generalize hZ : jZ [] 0 0 _ _ = Z
  show J mX1_rootOf (jR 1 0 0) [] Z 0 [(0, .ref (k)), (1, iv p)] [] h 0 0
  have hn := hO.n
  have hq := hO.q
  have hb := hO.b
  refine j_iload_n dX1_rootOf_0 rfl rfl ?_
  refine j_istore_n (L' := [(0, _), (1, _), (2, _)]) dX1_rootOf_1 rfl (by decide) rfl ?_
  refine j_iconst dX1_rootOf_2 ?_
  refine j_istore_n (L' := [(0, _), (1, _), (2, _), (3, _)]) dX1_rootOf_3 rfl (by decide) rfl ?_
  refine jloop (P := fun a : Int × Int => J mX1_rootOf (jR 1 0 0) [] Z 4 [(0, .ref k), (1, iv p), (2, iv a.1), (3, iv a.2)] [] h 0 0) (fun a => 0 ≤ a.2 ∧ a.2 ≤ 24 ∧ (-2147483648 ≤ a.1 ∧ a.1 ≤ 2147483647) ∧ frt F p = urt (F 0) (24 - a.2).toNat a.1) (fun a => (24 - a.2).toNat) ?_ (p, 0) ?_
  · rintro ⟨x, i⟩ hinv ih
    dsimp only at hinv ih ⊢
    obtain ⟨i1, i2, i3, i4⟩ := hinv
    have hx9 := hO.p x
    refine j_iload_n dX1_rootOf_4 rfl rfl ?_
    refine j_bipush dX1_rootOf_5 (by decide +kernel) ?_
    refine j_icmp_ge (tgt := 31) dX1_rootOf_7 (by decide) (by omega) (fun c7 => ?_) (fun c7 => ?_)
    · refine j_iload_n dX1_rootOf_31 rfl rfl ?_
      subst hZ
      exact j_ireturn dX1_rootOf_32 rfl rfl (jRet_i (by first | (rw [urt_e c16] at i4; exact i4.symm) | (rw [show (24 - i).toNat = 0 by omega] at i4; exact i4.symm))) (Nat.le_refl _) (Nat.le_refl _)
    · refine j_aload_n dX1_rootOf_10 rfl rfl ?_
      refine j_iload_n dX1_rootOf_11 rfl rfl ?_
      refine j_callV (c_parentOf hF hO (by omega)) dX1_rootOf_12 jc_X1_65 jmV_X1_parentOf rfl rfl hF.1 rfl rfl (by simp) jfr_nil (Nat.le_of_ble_eq_true rfl) ⟨Nat.le_of_ble_eq_true rfl, Nat.le_of_ble_eq_true rfl⟩ ⟨Nat.le_of_ble_eq_true rfl, Nat.le_of_ble_eq_true rfl⟩ (fun r h' hp9 => ?_) (fun E h9 q => q.elim)
      obtain ⟨rfl, rfl⟩ := hp9
      refine j_iconst dX1_rootOf_15 ?_
      refine j_icmp_eq (tgt := 31) dX1_rootOf_16 (by decide) (by omega) (fun c16 => ?_) (fun c16 => ?_)
      · refine j_iload_n dX1_rootOf_31 rfl rfl ?_
        subst hZ
        exact j_ireturn dX1_rootOf_32 rfl rfl (jRet_i (by first | (rw [urt_e c16] at i4; exact i4.symm) | (rw [show (24 - i).toNat = 0 by omega] at i4; exact i4.symm))) (Nat.le_refl _) (Nat.le_refl _)
      · refine j_aload_n dX1_rootOf_19 rfl rfl ?_
        refine j_iload_n dX1_rootOf_20 rfl rfl ?_
        refine j_callV (c_parentOf hF hO (by omega)) dX1_rootOf_21 jc_X1_65 jmV_X1_parentOf rfl rfl hF.1 rfl rfl (by simp) jfr_nil (Nat.le_of_ble_eq_true rfl) ⟨Nat.le_of_ble_eq_true rfl, Nat.le_of_ble_eq_true rfl⟩ ⟨Nat.le_of_ble_eq_true rfl, Nat.le_of_ble_eq_true rfl⟩ (fun r h' hp9 => ?_) (fun E h9 q => q.elim)
        obtain ⟨rfl, rfl⟩ := hp9
        refine j_istore_n (L' := [(0, _), (1, _), (2, _), (3, _)]) dX1_rootOf_24 rfl (by decide) rfl ?_
        refine j_iinc (L' := [(0, _), (1, _), (2, _), (3, _)]) dX1_rootOf_25 rfl (by decide) rfl ?_
        refine j_goto (tgt := 4) dX1_rootOf_28 (by decide) ?_
        refine ih (F 0 x, i + 1) ?_ (by show (24 - (i + 1)).toNat < (24 - i).toNat; omega)
        rw [fsuc (by omega : i < 24), urt_st c16] at i4
        exact ⟨by show 0 ≤ i + 1; omega, by show i + 1 ≤ 24; omega, by show -2147483648 ≤ F 0 x ∧ F 0 x ≤ 2147483647; omega, i4⟩
  · dsimp only
    exact ⟨by omega, by omega, by omega, rfl⟩
def fup (F : fS) (p e : Int) : Int := upk (F 0) (min e 24).toNat p
set_option maxHeartbeats 4000000 in
/-- Families.stepUp -/
theorem c_stepUp {k : Nat} {F : fS} {B : Int} {h : jH} (hF : jFam k F h) (hO : jOk B F) {p : Int} (hp : -2147483648 ≤ p ∧ p ≤ 2147483647) {e : Int} (he : -2147483648 ≤ e ∧ e ≤ 2147483647) : jM mX1_stepUp 1 0 0 [] [.ref (k), iv p, iv e] h (jRet (iv (fup F p e)) h) jno := by
  refine j_method (by decide +kernel) rfl (fun _ _ _ => trivial) (Nat.le_of_ble_eq_true rfl) ?_
  generalize hZ : jZ [] 0 0 _ _ = Z
  show J mX1_stepUp (jR 1 0 0) [] Z 0 [(0, .ref (k)), (1, iv p), (2, iv e)] [] h 0 0
  have hn := hO.n
  have hq := hO.q
  have hb := hO.b
  refine j_iload_n dX1_stepUp_0 rfl rfl ?_
  refine j_istore_n (L' := [(0, _), (1, _), (2, _), (3, _)]) dX1_stepUp_1 rfl (by decide) rfl ?_
  refine j_iconst dX1_stepUp_2 ?_
  refine j_istore (L' := [(0, _), (1, _), (2, _), (3, _), (4, _)]) dX1_stepUp_3 (by decide) rfl ?_
  refine jloop (P := fun a : Int × Int => J mX1_stepUp (jR 1 0 0) [] Z 5 [(0, .ref k), (1, iv p), (2, iv e), (3, iv a.1), (4, iv a.2)] [] h 0 0) (fun a => 0 ≤ a.2 ∧ a.2 ≤ 24 ∧ (-2147483648 ≤ a.1 ∧ a.1 ≤ 2147483647) ∧ fup F p e = upk (F 0) (min e 24 - a.2).toNat a.1) (fun a => (24 - a.2).toNat) ?_ (p, 0) ?_
  · rintro ⟨x, i⟩ hinv ih
    dsimp only at hinv ih ⊢
    obtain ⟨i1, i2, i3, i4⟩ := hinv
    have hx9 := hO.p x
    refine j_iload dX1_stepUp_5 rfl ?_
    refine j_iload_n dX1_stepUp_7 rfl rfl ?_
    refine j_icmp_ge (tgt := 30) dX1_stepUp_8 (by decide) (by omega) (fun c8 => ?_) (fun c8 => ?_)
    · refine j_iload_n dX1_stepUp_30 rfl rfl ?_
      subst hZ
      exact j_ireturn dX1_stepUp_31 rfl rfl (jRet_i (by rw [show (min e 24 - i).toNat = 0 by omega] at i4; exact i4.symm)) (Nat.le_refl _) (Nat.le_refl _)
    · refine j_iload dX1_stepUp_11 rfl ?_
      refine j_bipush dX1_stepUp_13 (by decide +kernel) ?_
      refine j_icmp_ge (tgt := 30) dX1_stepUp_15 (by decide) (by omega) (fun c15 => ?_) (fun c15 => ?_)
      · refine j_iload_n dX1_stepUp_30 rfl rfl ?_
        subst hZ
        exact j_ireturn dX1_stepUp_31 rfl rfl (jRet_i (by rw [show (min e 24 - i).toNat = 0 by omega] at i4; exact i4.symm)) (Nat.le_refl _) (Nat.le_refl _)
      · refine j_aload_n dX1_stepUp_18 rfl rfl ?_
        refine j_iload_n dX1_stepUp_19 rfl rfl ?_
        refine j_callV (c_parentOf hF hO (by omega)) dX1_stepUp_20 jc_X1_65 jmV_X1_parentOf rfl rfl hF.1 rfl rfl (by simp) jfr_nil (Nat.le_of_ble_eq_true rfl) ⟨Nat.le_of_ble_eq_true rfl, Nat.le_of_ble_eq_true rfl⟩ ⟨Nat.le_of_ble_eq_true rfl, Nat.le_of_ble_eq_true rfl⟩ (fun r h' hp9 => ?_) (fun E h9 q => q.elim)
        obtain ⟨rfl, rfl⟩ := hp9
        refine j_istore_n (L' := [(0, _), (1, _), (2, _), (3, _), (4, _)]) dX1_stepUp_23 rfl (by decide) rfl ?_
        refine j_iinc (L' := [(0, _), (1, _), (2, _), (3, _), (4, _)]) dX1_stepUp_24 rfl (by decide) rfl ?_
        refine j_goto (tgt := 5) dX1_stepUp_27 (by decide) ?_
        refine ih (F 0 x, i + 1) ?_ (by show (24 - (i + 1)).toNat < (24 - i).toNat; omega)
        rw [fsuc (by omega : i < min e 24)] at i4
        exact ⟨by show 0 ≤ i + 1; omega, by show i + 1 ≤ 24; omega, by show -2147483648 ≤ F 0 x ∧ F 0 x ≤ 2147483647; omega, i4⟩
  · dsimp only
    exact ⟨by omega, by omega, by omega, by show upk _ _ _ = upk _ _ _; rw [Int.sub_zero]⟩
theorem nfst_t {q : Int → Bool} {k : Nat} {c : Int} (h : q c = true) : nfst q (k + 1) c = c := if_pos h
theorem nfst_f {q : Int → Bool} {k : Nat} {c : Int} (h : q c = false) : nfst q (k + 1) c = nfst q k (c + 1) := if_neg (by rw [h]; decide)
def fch (F : fS) (t c : Int) : Int := nfst (fun x => decide (F 0 x = t)) (F 6 0 - (c + 1)).toNat (c + 1)
theorem fch_rg {F : fS} {B : Int} (hO : jOk B F) {t c : Int} (hc : -1 ≤ c) : -1 ≤ fch F t c ∧ fch F t c < 24 := by
  have hn := hO.n
  have := nfst_rg (fun x => decide (F 0 x = t)) (F 6 0 - (c + 1)).toNat (c + 1)
  unfold fch
  omega
set_option maxHeartbeats 4000000 in
/-- Families.childAfter -/
theorem c_childAfter {k : Nat} {F : fS} {B : Int} {h : jH} (hF : jFam k F h) (hO : jOk B F) {t c : Int} (ht : -2147483648 ≤ t ∧ t ≤ 2147483647) (hc : -1 ≤ c ∧ c ≤ 1000) : jM mX1_childAfter 1 0 0 [] [.ref (k), iv t, iv c] h (jRet (iv (fch F t c)) h) jno := by
  refine j_method (by decide +kernel) rfl (fun _ _ _ => trivial) (Nat.le_of_ble_eq_true rfl) ?_
  generalize hZ : jZ [] 0 0 _ _ = Z
  show J mX1_childAfter (jR 1 0 0) [] Z 0 [(0, .ref (k)), (1, iv t), (2, iv c)] [] h 0 0
  have hn := hO.n
  have hq := hO.q
  have hb := hO.b
  refine j_iload_n dX1_childAfter_0 rfl rfl ?_
  refine j_iconst dX1_childAfter_1 ?_
  refine j_iadd dX1_childAfter_2 ?_
  refine j_istore_n (L' := [(0, _), (1, _), (2, _), (3, _)]) dX1_childAfter_3 rfl (by decide) rfl ?_
  refine jloop (P := fun a : Int => J mX1_childAfter (jR 1 0 0) [] Z 4 [(0, .ref k), (1, iv t), (2, iv c), (3, iv a)] [] h 0 0) (fun a => 0 ≤ a ∧ a ≤ 2000 ∧ fch F t c = nfst (fun x => decide (F 0 x = t)) (F 6 0 - a).toNat a) (fun a => (24 - a).toNat) ?_ (c + 1) ?_
  · rintro i hinv ih
    obtain ⟨i1, i2, i3⟩ := hinv
    have hx9 := hO.p i
    refine j_iload_n dX1_childAfter_4 rfl rfl ?_
    refine j_aload_n dX1_childAfter_5 rfl rfl ?_
    refine j_getfield dX1_childAfter_6 jf_X1_31 hF.1 rfl ?_
    refine j_icmp_ge (tgt := 29) dX1_childAfter_9 (by decide) (by omega) (fun c9 => ?_) (fun c9 => ?_)
    · refine j_iconst dX1_childAfter_29 ?_
      subst hZ
      exact j_ireturn dX1_childAfter_30 rfl rfl (jRet_i (by rw [show (F 6 0 - i).toNat = 0 by omega] at i3; exact i3.symm)) (Nat.le_refl _) (Nat.le_refl _)
    · refine j_aload_n dX1_childAfter_12 rfl rfl ?_
      refine j_iload_n dX1_childAfter_13 rfl rfl ?_
      refine j_callV (c_parentOf hF hO (by omega)) dX1_childAfter_14 jc_X1_65 jmV_X1_parentOf rfl rfl hF.1 rfl rfl (by simp) jfr_nil (Nat.le_of_ble_eq_true rfl) ⟨Nat.le_of_ble_eq_true rfl, Nat.le_of_ble_eq_true rfl⟩ ⟨Nat.le_of_ble_eq_true rfl, Nat.le_of_ble_eq_true rfl⟩ (fun r h' hp9 => ?_) (fun E h9 q => q.elim)
      obtain ⟨rfl, rfl⟩ := hp9
      refine j_iload_n dX1_childAfter_17 rfl rfl ?_
      refine j_icmp_ne (tgt := 23) dX1_childAfter_18 (by decide) (by omega) (fun c18 => ?_) (fun c18 => ?_)
      · refine j_iinc (L' := [(0, _), (1, _), (2, _), (3, _)]) dX1_childAfter_23 rfl (by decide) rfl ?_
        refine j_goto (tgt := 4) dX1_childAfter_26 (by decide) ?_
        refine ih (i + 1) ?_ (by show (24 - (i + 1)).toNat < (24 - i).toNat; omega)
        rw [fsuc (by omega : i < F 6 0), nfst_f (decide_eq_false c18)] at i3
        exact ⟨by show 0 ≤ i + 1; omega, by show i + 1 ≤ 2000; omega, i3⟩
      · refine j_iload_n dX1_childAfter_21 rfl rfl ?_
        subst hZ
        exact j_ireturn dX1_childAfter_22 rfl rfl (jRet_i (by rw [fsuc (by omega : i < F 6 0), nfst_t (decide_eq_true c18)] at i3; exact i3.symm)) (Nat.le_refl _) (Nat.le_refl _)
  · exact ⟨by omega, by omega, rfl⟩
/-- who stands behind p below the top t, found upward within k -/
def fnx (F : fS) (t : Int) : Nat → Int → Int → Int
  | 0, nx, _ => nx
  | k + 1, nx, x => if nx ≠ -1 ∨ x = t then nx else fnx F t k (fch F (F 0 x) x) (F 0 x)
def fnb (F : fS) (t p : Int) : Int := fnx F t 24 (fch F p (-1)) p
theorem fnx_e {F : fS} {t nx x : Int} (hx : nx ≠ -1 ∨ x = t) : ∀ k, fnx F t k nx x = nx
  | 0 => rfl
  | _ + 1 => if_pos hx
theorem fnx_st {F : fS} {t nx x : Int} {k : Nat} (hx : ¬ (nx ≠ -1 ∨ x = t)) : fnx F t (k + 1) nx x = fnx F t k (fch F (F 0 x) x) (F 0 x) := if_neg hx
theorem fnx_rg {F : fS} {B : Int} (hO : jOk B F) {t : Int} : ∀ (k : Nat) (nx x : Int), -1 ≤ x → -1 ≤ nx ∧ nx < 24 → -1 ≤ fnx F t k nx x ∧ fnx F t k nx x < 24
  | 0, _, _, _, h => h
  | k + 1, nx, x, hx, h => by
    unfold fnx
    split
    · exact h
    · exact fnx_rg hO k _ _ (hO.p x).1 (fch_rg hO hx)
theorem fnb_rg {F : fS} {B : Int} (hO : jOk B F) {t p : Int} (hp : -1 ≤ p) : -1 ≤ fnb F t p ∧ fnb F t p < 24 := fnx_rg hO 24 _ _ hp (fch_rg hO (by omega))
set_option maxHeartbeats 4000000 in
/-- Families.nextBelow -/
theorem c_nextBelow {k : Nat} {F : fS} {B : Int} {h : jH} (hF : jFam k F h) (hO : jOk B F) {t p : Int} (ht : -2147483648 ≤ t ∧ t ≤ 2147483647) (hp : -1 ≤ p ∧ p < 24) : jM mX1_nextBelow 2 0 0 [] [.ref (k), iv t, iv p] h (jRet (iv (fnb F t p)) h) jno := by
  refine j_method (by decide +kernel) rfl (fun _ _ _ => trivial) (Nat.le_of_ble_eq_true rfl) ?_
  generalize hZ : jZ [] 0 0 _ _ = Z
  show J mX1_nextBelow (jR 2 0 0) [] Z 0 [(0, .ref (k)), (1, iv t), (2, iv p)] [] h 0 0
  have hn := hO.n
  have hq := hO.q
  have hb := hO.b
  have hc0 := fch_rg hO (t := p) (c := -1) (by omega)
  refine j_aload_n dX1_nextBelow_0 rfl rfl ?_
  refine j_iload_n dX1_nextBelow_1 rfl rfl ?_
  refine j_iconst dX1_nextBelow_2 ?_
  refine j_callV (c_childAfter hF hO (by omega) (by omega)) dX1_nextBelow_3 jc_X1_68 jmV_X1_childAfter rfl rfl hF.1 rfl rfl (by simp) jfr_nil (Nat.le_of_ble_eq_true rfl) ⟨Nat.le_of_ble_eq_true rfl, Nat.le_of_ble_eq_true rfl⟩ ⟨Nat.le_of_ble_eq_true rfl, Nat.le_of_ble_eq_true rfl⟩ (fun r h' hp9 => ?_) (fun E h9 q => q.elim)
  obtain ⟨rfl, rfl⟩ := hp9
  refine j_istore_n (L' := [(0, _), (1, _), (2, _), (3, _)]) dX1_nextBelow_6 rfl (by decide) rfl ?_
  refine j_iload_n dX1_nextBelow_7 rfl rfl ?_
  refine j_istore (L' := [(0, _), (1, _), (2, _), (3, _), (4, _)]) dX1_nextBelow_8 (by decide) rfl ?_
  refine j_iconst dX1_nextBelow_10 ?_
  refine j_istore (L' := [(0, _), (1, _), (2, _), (3, _), (4, _), (5, _)]) dX1_nextBelow_11 (by decide) rfl ?_
  refine jloop (P := fun a : Int × Int × Int => J mX1_nextBelow (jR 2 0 0) [] Z 13 [(0, .ref k), (1, iv t), (2, iv p), (3, iv a.1), (4, iv a.2.1), (5, iv a.2.2)] [] h 0 0) (fun a => 0 ≤ a.2.2 ∧ a.2.2 ≤ 24 ∧ (-1 ≤ a.1 ∧ a.1 < 24) ∧ (-1 ≤ a.2.1 ∧ a.2.1 < 24) ∧ fnb F t p = fnx F t (24 - a.2.2).toNat a.1 a.2.1) (fun a => (24 - a.2.2).toNat) ?_ (fch F p (-1), p, 0) ?_
  · rintro ⟨nx, x, i⟩ hinv ih
    dsimp only at hinv ih ⊢
    obtain ⟨i1, i2, i3, i4, i5⟩ := hinv
    have hx9 := hO.p x
    have hc9 := fch_rg hO (t := F 0 x) (c := x) (by omega)
    refine j_iload dX1_nextBelow_13 rfl ?_
    refine j_bipush dX1_nextBelow_15 (by decide +kernel) ?_
    refine j_icmp_ge (tgt := 58) dX1_nextBelow_17 (by decide) (by omega) (fun c17 => ?_) (fun c17 => ?_)
    · refine j_iload_n dX1_nextBelow_58 rfl rfl ?_
      subst hZ
      exact j_ireturn dX1_nextBelow_59 rfl rfl (jRet_i (by first | (rw [show (24 - i).toNat = 0 by omega] at i5; exact i5.symm) | (rw [fnx_e (by omega)] at i5; exact i5.symm))) (Nat.le_refl _) (Nat.le_refl _)
    · refine j_iload_n dX1_nextBelow_20 rfl rfl ?_
      refine j_iconst dX1_nextBelow_21 ?_
      refine j_icmp_ne (tgt := 58) dX1_nextBelow_22 (by decide) (by omega) (fun c22 => ?_) (fun c22 => ?_)
      · refine j_iload_n dX1_nextBelow_58 rfl rfl ?_
        subst hZ
        exact j_ireturn dX1_nextBelow_59 rfl rfl (jRet_i (by first | (rw [show (24 - i).toNat = 0 by omega] at i5; exact i5.symm) | (rw [fnx_e (by omega)] at i5; exact i5.symm))) (Nat.le_refl _) (Nat.le_refl _)
      · refine j_iload dX1_nextBelow_25 rfl ?_
        refine j_iload_n dX1_nextBelow_27 rfl rfl ?_
        refine j_icmp_eq (tgt := 58) dX1_nextBelow_28 (by decide) (by omega) (fun c28 => ?_) (fun c28 => ?_)
        · refine j_iload_n dX1_nextBelow_58 rfl rfl ?_
          subst hZ
          exact j_ireturn dX1_nextBelow_59 rfl rfl (jRet_i (by first | (rw [show (24 - i).toNat = 0 by omega] at i5; exact i5.symm) | (rw [fnx_e (by omega)] at i5; exact i5.symm))) (Nat.le_refl _) (Nat.le_refl _)
        · refine j_aload_n dX1_nextBelow_31 rfl rfl ?_
          refine j_aload_n dX1_nextBelow_32 rfl rfl ?_
          refine j_iload dX1_nextBelow_33 rfl ?_
          refine j_callV (c_parentOf hF hO (by omega)) dX1_nextBelow_35 jc_X1_65 jmV_X1_parentOf rfl rfl hF.1 rfl rfl (by simp) jfr_nil (Nat.le_of_ble_eq_true rfl) ⟨Nat.le_of_ble_eq_true rfl, Nat.le_of_ble_eq_true rfl⟩ ⟨Nat.le_of_ble_eq_true rfl, Nat.le_of_ble_eq_true rfl⟩ (fun r h' hp9 => ?_) (fun E h9 q => q.elim)
          obtain ⟨rfl, rfl⟩ := hp9
          refine j_iload dX1_nextBelow_38 rfl ?_
          refine j_callV (c_childAfter hF hO (by omega) (by omega)) dX1_nextBelow_40 jc_X1_68 jmV_X1_childAfter rfl rfl hF.1 rfl rfl (by simp) jfr_nil (Nat.le_of_ble_eq_true rfl) ⟨Nat.le_of_ble_eq_true rfl, Nat.le_of_ble_eq_true rfl⟩ ⟨Nat.le_of_ble_eq_true rfl, Nat.le_of_ble_eq_true rfl⟩ (fun r h' hp9 => ?_) (fun E h9 q => q.elim)
          obtain ⟨rfl, rfl⟩ := hp9
          refine j_istore_n (L' := [(0, _), (1, _), (2, _), (3, _), (4, _), (5, _)]) dX1_nextBelow_43 rfl (by decide) rfl ?_
          refine j_aload_n dX1_nextBelow_44 rfl rfl ?_
          refine j_iload dX1_nextBelow_45 rfl ?_
          refine j_callV (c_parentOf hF hO (by omega)) dX1_nextBelow_47 jc_X1_65 jmV_X1_parentOf rfl rfl hF.1 rfl rfl (by simp) jfr_nil (Nat.le_of_ble_eq_true rfl) ⟨Nat.le_of_ble_eq_true rfl, Nat.le_of_ble_eq_true rfl⟩ ⟨Nat.le_of_ble_eq_true rfl, Nat.le_of_ble_eq_true rfl⟩ (fun r h' hp9 => ?_) (fun E h9 q => q.elim)
          obtain ⟨rfl, rfl⟩ := hp9
          refine j_istore (L' := [(0, _), (1, _), (2, _), (3, _), (4, _), (5, _)]) dX1_nextBelow_50 (by decide) rfl ?_
          refine j_iinc (L' := [(0, _), (1, _), (2, _), (3, _), (4, _), (5, _)]) dX1_nextBelow_52 rfl (by decide) rfl ?_
          refine j_goto (tgt := 13) dX1_nextBelow_55 (by decide) ?_
          refine ih (fch F (F 0 x) x, F 0 x, i + 1) ?_ (by show (24 - (i + 1)).toNat < (24 - i).toNat; omega)
          rw [fsuc (by omega : i < 24), fnx_st (by omega)] at i5
          exact ⟨by show 0 ≤ i + 1; omega, by show i + 1 ≤ 24; omega, hc9, by show -1 ≤ F 0 x ∧ F 0 x < 24; omega, i5⟩
  · dsimp only
    exact ⟨by omega, by omega, by omega, by omega, rfl⟩
theorem bi_le (c : Prop) [Decidable c] : 0 ≤ bi c ∧ bi c ≤ 1 := bi_rg c
set_option maxHeartbeats 4000000 in
/-- Families.childrenOf -/
theorem c_childrenOf {k : Nat} {F : fS} {B : Int} {h : jH} (hF : jFam k F h) (hO : jOk B F) {p : Int} (hp : -2147483648 ≤ p ∧ p ≤ 2147483647) : jM mX1_childrenOf 1 0 0 [] [.ref (k), iv p] h (jRet (iv (csum (fun c => bi (F 0 c = p)) (F 6 0).toNat)) h) jno := by
  refine j_method (by decide +kernel) rfl (fun _ _ _ => trivial) (Nat.le_of_ble_eq_true rfl) ?_
  generalize hZ : jZ [] 0 0 _ _ = Z
  show J mX1_childrenOf (jR 1 0 0) [] Z 0 [(0, .ref (k)), (1, iv p)] [] h 0 0
  have hn := hO.n
  have hq := hO.q
  have hb := hO.b
  refine j_iconst dX1_childrenOf_0 ?_
  refine j_istore_n (L' := [(0, _), (1, _), (2, _)]) dX1_childrenOf_1 rfl (by decide) rfl ?_
  refine j_iconst dX1_childrenOf_2 ?_
  refine j_istore_n (L' := [(0, _), (1, _), (2, _), (3, _)]) dX1_childrenOf_3 rfl (by decide) rfl ?_
  refine jloop (P := fun a : Int × Int => J mX1_childrenOf (jR 1 0 0) [] Z 4 [(0, .ref k), (1, iv p), (2, iv a.1), (3, iv a.2)] [] h 0 0) (fun a => 0 ≤ a.2 ∧ a.2 ≤ F 6 0 ∧ (0 ≤ a.1 ∧ a.1 ≤ a.2) ∧ a.1 = csum (fun c => bi (F 0 c = p)) a.2.toNat) (fun a => (F 6 0 - a.2).toNat) ?_ (0, 0) ?_
  · rintro ⟨a, i⟩ hinv ih
    dsimp only at hinv ih ⊢
    obtain ⟨i1, i2, i3, i4⟩ := hinv
    have hx9 := hO.p i
    refine j_iload_n dX1_childrenOf_4 rfl rfl ?_
    refine j_aload_n dX1_childrenOf_5 rfl rfl ?_
    refine j_getfield dX1_childrenOf_6 jf_X1_31 hF.1 rfl ?_
    refine j_icmp_ge (tgt := 30) dX1_childrenOf_9 (by decide) (by omega) (fun c9 => ?_) (fun c9 => ?_)
    · refine j_iload_n dX1_childrenOf_30 rfl rfl ?_
      subst hZ
      exact j_ireturn dX1_childrenOf_31 rfl rfl (jRet_i (by rw [i4, show i = F 6 0 by omega])) (Nat.le_refl _) (Nat.le_refl _)
    · refine j_aload_n dX1_childrenOf_12 rfl rfl ?_
      refine j_iload_n dX1_childrenOf_13 rfl rfl ?_
      refine j_callV (c_parentOf hF hO (by omega)) dX1_childrenOf_14 jc_X1_65 jmV_X1_parentOf rfl rfl hF.1 rfl rfl (by simp) jfr_nil (Nat.le_of_ble_eq_true rfl) ⟨Nat.le_of_ble_eq_true rfl, Nat.le_of_ble_eq_true rfl⟩ ⟨Nat.le_of_ble_eq_true rfl, Nat.le_of_ble_eq_true rfl⟩ (fun r h' hp9 => ?_) (fun E h9 q => q.elim)
      obtain ⟨rfl, rfl⟩ := hp9
      refine j_iload_n dX1_childrenOf_17 rfl rfl ?_
      refine j_icmp_ne (tgt := 24) dX1_childrenOf_18 (by decide) (by omega) (fun c18 => ?_) (fun c18 => ?_)
      · refine j_iinc (L' := [(0, _), (1, _), (2, _), (3, _)]) dX1_childrenOf_24 rfl (by decide) rfl ?_
        refine j_goto (tgt := 4) dX1_childrenOf_27 (by decide) ?_
        first
          | exact ih (a + 1, i + 1) ⟨by show 0 ≤ i + 1; omega, by show i + 1 ≤ F 6 0; omega, by show 0 ≤ a + 1 ∧ a + 1 ≤ i + 1; omega, by show a + 1 = csum (fun c => bi (F 0 c = p)) (i + 1).toNat; rw [csum_s _ i1, ← i4]; show a + 1 = a + bi (F 0 i = p); rw [show bi (F 0 i = p) = 1 from bi_t (by omega)]⟩ (by show (F 6 0 - (i + 1)).toNat < (F 6 0 - i).toNat; omega)
          | exact ih (a, i + 1) ⟨by show 0 ≤ i + 1; omega, by show i + 1 ≤ F 6 0; omega, by show 0 ≤ a ∧ a ≤ i + 1; omega, by show a = csum (fun c => bi (F 0 c = p)) (i + 1).toNat; rw [csum_s _ i1, ← i4]; show a = a + bi (F 0 i = p); rw [show bi (F 0 i = p) = 0 from bi_f (by omega), Int.add_zero]⟩ (by show (F 6 0 - (i + 1)).toNat < (F 6 0 - i).toNat; omega)
      · refine j_iinc (L' := [(0, _), (1, _), (2, _), (3, _)]) dX1_childrenOf_21 rfl (by decide) rfl ?_
        refine j_iinc (L' := [(0, _), (1, _), (2, _), (3, _)]) dX1_childrenOf_24 rfl (by decide) rfl ?_
        refine j_goto (tgt := 4) dX1_childrenOf_27 (by decide) ?_
        first
          | exact ih (a + 1, i + 1) ⟨by show 0 ≤ i + 1; omega, by show i + 1 ≤ F 6 0; omega, by show 0 ≤ a + 1 ∧ a + 1 ≤ i + 1; omega, by show a + 1 = csum (fun c => bi (F 0 c = p)) (i + 1).toNat; rw [csum_s _ i1, ← i4]; show a + 1 = a + bi (F 0 i = p); rw [show bi (F 0 i = p) = 1 from bi_t (by omega)]⟩ (by show (F 6 0 - (i + 1)).toNat < (F 6 0 - i).toNat; omega)
          | exact ih (a, i + 1) ⟨by show 0 ≤ i + 1; omega, by show i + 1 ≤ F 6 0; omega, by show 0 ≤ a ∧ a ≤ i + 1; omega, by show a = csum (fun c => bi (F 0 c = p)) (i + 1).toNat; rw [csum_s _ i1, ← i4]; show a = a + bi (F 0 i = p); rw [show bi (F 0 i = p) = 0 from bi_f (by omega), Int.add_zero]⟩ (by show (F 6 0 - (i + 1)).toNat < (F 6 0 - i).toNat; omega)
  · dsimp only
    exact ⟨by omega, by omega, by omega, rfl⟩
set_option maxHeartbeats 4000000 in
/-- Families.richerThan -/
theorem c_richerThan {k : Nat} {F : fS} {B : Int} {h : jH} (hF : jFam k F h) (hO : jOk B F) {p : Int} (hp : -2147483648 ≤ p ∧ p ≤ 2147483647) : jM mX1_richerThan 1 0 0 [] [.ref (k), iv p] h (jRet (iv (csum (fun o => bi (F 2 o - F 2 p > 0 ∨ (F 2 o - F 2 p = 0 ∧ o < p))) (F 6 0).toNat)) h) jno := by
  refine j_method (by decide +kernel) rfl (fun _ _ _ => trivial) (Nat.le_of_ble_eq_true rfl) ?_
  generalize hZ : jZ [] 0 0 _ _ = Z
  show J mX1_richerThan (jR 1 0 0) [] Z 0 [(0, .ref (k)), (1, iv p)] [] h 0 0
  have hn := hO.n
  have hq := hO.q
  have hb := hO.b
  refine j_iconst dX1_richerThan_0 ?_
  refine j_istore_n (L' := [(0, _), (1, _), (2, _)]) dX1_richerThan_1 rfl (by decide) rfl ?_
  refine j_iconst dX1_richerThan_2 ?_
  refine j_istore_n (L' := [(0, _), (1, _), (2, _), (3, _)]) dX1_richerThan_3 rfl (by decide) rfl ?_
  refine jloop (P := fun a : Int × Int => J mX1_richerThan (jR 1 0 0) [] Z 4 [(0, .ref k), (1, iv p), (2, iv a.1), (3, iv a.2)] [] h 0 0) (fun a => 0 ≤ a.2 ∧ a.2 ≤ F 6 0 ∧ (0 ≤ a.1 ∧ a.1 ≤ a.2) ∧ a.1 = csum (fun o => bi (F 2 o - F 2 p > 0 ∨ (F 2 o - F 2 p = 0 ∧ o < p))) a.2.toNat) (fun a => (F 6 0 - a.2).toNat) ?_ (0, 0) ?_
  · rintro ⟨a, i⟩ hinv ih
    dsimp only at hinv ih ⊢
    obtain ⟨i1, i2, i3, i4⟩ := hinv
    have hx9 := hO.c i
    have hx8 := hO.c p
    refine j_iload_n dX1_richerThan_4 rfl rfl ?_
    refine j_aload_n dX1_richerThan_5 rfl rfl ?_
    refine j_getfield dX1_richerThan_6 jf_X1_31 hF.1 rfl ?_
    refine j_icmp_ge (tgt := 49) dX1_richerThan_9 (by decide) (by omega) (fun c9 => ?_) (fun c9 => ?_)
    · refine j_iload_n dX1_richerThan_49 rfl rfl ?_
      subst hZ
      exact j_ireturn dX1_richerThan_50 rfl rfl (jRet_i (by rw [i4, show i = F 6 0 by omega])) (Nat.le_refl _) (Nat.le_refl _)
    · refine j_aload_n dX1_richerThan_12 rfl rfl ?_
      refine j_iload_n dX1_richerThan_13 rfl rfl ?_
      refine j_callV (c_coinsOf hF hO (by omega)) dX1_richerThan_14 jc_X1_59 jmV_X1_coinsOf rfl rfl hF.1 rfl rfl (by simp) jfr_nil (Nat.le_of_ble_eq_true rfl) ⟨Nat.le_of_ble_eq_true rfl, Nat.le_of_ble_eq_true rfl⟩ ⟨Nat.le_of_ble_eq_true rfl, Nat.le_of_ble_eq_true rfl⟩ (fun r h' hp9 => ?_) (fun E h9 q => q.elim)
      obtain ⟨rfl, rfl⟩ := hp9
      refine j_aload_n dX1_richerThan_17 rfl rfl ?_
      refine j_iload_n dX1_richerThan_18 rfl rfl ?_
      refine j_callV (c_coinsOf hF hO (by omega)) dX1_richerThan_19 jc_X1_59 jmV_X1_coinsOf rfl rfl hF.1 rfl rfl (by simp) jfr_nil (Nat.le_of_ble_eq_true rfl) ⟨Nat.le_of_ble_eq_true rfl, Nat.le_of_ble_eq_true rfl⟩ ⟨Nat.le_of_ble_eq_true rfl, Nat.le_of_ble_eq_true rfl⟩ (fun r h' hp9 => ?_) (fun E h9 q => q.elim)
      obtain ⟨rfl, rfl⟩ := hp9
      refine j_isub dX1_richerThan_22 ?_
      refine j_istore (L' := [(0, _), (1, _), (2, _), (3, _), (4, _)]) dX1_richerThan_23 (by decide) rfl ?_
      refine j_iload dX1_richerThan_25 rfl ?_
      refine j_if_gt (tgt := 40) dX1_richerThan_27 (by decide) (by omega) (fun c27 => ?_) (fun c27 => ?_)
      · refine j_iinc (L' := [(0, _), (1, _), (2, _), (3, _), (4, _)]) dX1_richerThan_40 rfl (by decide) rfl ?_
        refine j_iinc (L' := [(0, _), (1, _), (2, _), (3, _), (4, _)]) dX1_richerThan_43 rfl (by decide) rfl ?_
        refine j_goto (tgt := 4) dX1_richerThan_46 (by decide) ?_
        refine J.keep [0, 1, 2, 3] (L' := [(0, _), (1, _), (2, _), (3, _)]) rfl ?_
        first
          | exact ih (a + 1, i + 1) ⟨by show 0 ≤ i + 1; omega, by show i + 1 ≤ F 6 0; omega, by show 0 ≤ a + 1 ∧ a + 1 ≤ i + 1; omega, by show a + 1 = csum (fun o => bi (F 2 o - F 2 p > 0 ∨ (F 2 o - F 2 p = 0 ∧ o < p))) (i + 1).toNat; rw [csum_s _ i1, ← i4]; show a + 1 = a + bi (F 2 i - F 2 p > 0 ∨ (F 2 i - F 2 p = 0 ∧ i < p)); rw [show bi (F 2 i - F 2 p > 0 ∨ (F 2 i - F 2 p = 0 ∧ i < p)) = 1 from bi_t (by omega)]⟩ (by show (F 6 0 - (i + 1)).toNat < (F 6 0 - i).toNat; omega)
          | exact ih (a, i + 1) ⟨by show 0 ≤ i + 1; omega, by show i + 1 ≤ F 6 0; omega, by show 0 ≤ a ∧ a ≤ i + 1; omega, by show a = csum (fun o => bi (F 2 o - F 2 p > 0 ∨ (F 2 o - F 2 p = 0 ∧ o < p))) (i + 1).toNat; rw [csum_s _ i1, ← i4]; show a = a + bi (F 2 i - F 2 p > 0 ∨ (F 2 i - F 2 p = 0 ∧ i < p)); rw [show bi (F 2 i - F 2 p > 0 ∨ (F 2 i - F 2 p = 0 ∧ i < p)) = 0 from bi_f (by omega), Int.add_zero]⟩ (by show (F 6 0 - (i + 1)).toNat < (F 6 0 - i).toNat; omega)
      · refine j_iload dX1_richerThan_30 rfl ?_
        refine j_if_ne (tgt := 43) dX1_richerThan_32 (by decide) (by omega) (fun c32 => ?_) (fun c32 => ?_)
        · refine j_iinc (L' := [(0, _), (1, _), (2, _), (3, _), (4, _)]) dX1_richerThan_43 rfl (by decide) rfl ?_
          refine j_goto (tgt := 4) dX1_richerThan_46 (by decide) ?_
          refine J.keep [0, 1, 2, 3] (L' := [(0, _), (1, _), (2, _), (3, _)]) rfl ?_
          first
            | exact ih (a + 1, i + 1) ⟨by show 0 ≤ i + 1; omega, by show i + 1 ≤ F 6 0; omega, by show 0 ≤ a + 1 ∧ a + 1 ≤ i + 1; omega, by show a + 1 = csum (fun o => bi (F 2 o - F 2 p > 0 ∨ (F 2 o - F 2 p = 0 ∧ o < p))) (i + 1).toNat; rw [csum_s _ i1, ← i4]; show a + 1 = a + bi (F 2 i - F 2 p > 0 ∨ (F 2 i - F 2 p = 0 ∧ i < p)); rw [show bi (F 2 i - F 2 p > 0 ∨ (F 2 i - F 2 p = 0 ∧ i < p)) = 1 from bi_t (by omega)]⟩ (by show (F 6 0 - (i + 1)).toNat < (F 6 0 - i).toNat; omega)
            | exact ih (a, i + 1) ⟨by show 0 ≤ i + 1; omega, by show i + 1 ≤ F 6 0; omega, by show 0 ≤ a ∧ a ≤ i + 1; omega, by show a = csum (fun o => bi (F 2 o - F 2 p > 0 ∨ (F 2 o - F 2 p = 0 ∧ o < p))) (i + 1).toNat; rw [csum_s _ i1, ← i4]; show a = a + bi (F 2 i - F 2 p > 0 ∨ (F 2 i - F 2 p = 0 ∧ i < p)); rw [show bi (F 2 i - F 2 p > 0 ∨ (F 2 i - F 2 p = 0 ∧ i < p)) = 0 from bi_f (by omega), Int.add_zero]⟩ (by show (F 6 0 - (i + 1)).toNat < (F 6 0 - i).toNat; omega)
        · refine j_iload_n dX1_richerThan_35 rfl rfl ?_
          refine j_iload_n dX1_richerThan_36 rfl rfl ?_
          refine j_icmp_ge (tgt := 43) dX1_richerThan_37 (by decide) (by omega) (fun c37 => ?_) (fun c37 => ?_)
          · refine j_iinc (L' := [(0, _), (1, _), (2, _), (3, _), (4, _)]) dX1_richerThan_43 rfl (by decide) rfl ?_
            refine j_goto (tgt := 4) dX1_richerThan_46 (by decide) ?_
            refine J.keep [0, 1, 2, 3] (L' := [(0, _), (1, _), (2, _), (3, _)]) rfl ?_
            first
              | exact ih (a + 1, i + 1) ⟨by show 0 ≤ i + 1; omega, by show i + 1 ≤ F 6 0; omega, by show 0 ≤ a + 1 ∧ a + 1 ≤ i + 1; omega, by show a + 1 = csum (fun o => bi (F 2 o - F 2 p > 0 ∨ (F 2 o - F 2 p = 0 ∧ o < p))) (i + 1).toNat; rw [csum_s _ i1, ← i4]; show a + 1 = a + bi (F 2 i - F 2 p > 0 ∨ (F 2 i - F 2 p = 0 ∧ i < p)); rw [show bi (F 2 i - F 2 p > 0 ∨ (F 2 i - F 2 p = 0 ∧ i < p)) = 1 from bi_t (by omega)]⟩ (by show (F 6 0 - (i + 1)).toNat < (F 6 0 - i).toNat; omega)
              | exact ih (a, i + 1) ⟨by show 0 ≤ i + 1; omega, by show i + 1 ≤ F 6 0; omega, by show 0 ≤ a ∧ a ≤ i + 1; omega, by show a = csum (fun o => bi (F 2 o - F 2 p > 0 ∨ (F 2 o - F 2 p = 0 ∧ o < p))) (i + 1).toNat; rw [csum_s _ i1, ← i4]; show a = a + bi (F 2 i - F 2 p > 0 ∨ (F 2 i - F 2 p = 0 ∧ i < p)); rw [show bi (F 2 i - F 2 p > 0 ∨ (F 2 i - F 2 p = 0 ∧ i < p)) = 0 from bi_f (by omega), Int.add_zero]⟩ (by show (F 6 0 - (i + 1)).toNat < (F 6 0 - i).toNat; omega)
          · refine j_iinc (L' := [(0, _), (1, _), (2, _), (3, _), (4, _)]) dX1_richerThan_40 rfl (by decide) rfl ?_
            refine j_iinc (L' := [(0, _), (1, _), (2, _), (3, _), (4, _)]) dX1_richerThan_43 rfl (by decide) rfl ?_
            refine j_goto (tgt := 4) dX1_richerThan_46 (by decide) ?_
            refine J.keep [0, 1, 2, 3] (L' := [(0, _), (1, _), (2, _), (3, _)]) rfl ?_
            first
              | exact ih (a + 1, i + 1) ⟨by show 0 ≤ i + 1; omega, by show i + 1 ≤ F 6 0; omega, by show 0 ≤ a + 1 ∧ a + 1 ≤ i + 1; omega, by show a + 1 = csum (fun o => bi (F 2 o - F 2 p > 0 ∨ (F 2 o - F 2 p = 0 ∧ o < p))) (i + 1).toNat; rw [csum_s _ i1, ← i4]; show a + 1 = a + bi (F 2 i - F 2 p > 0 ∨ (F 2 i - F 2 p = 0 ∧ i < p)); rw [show bi (F 2 i - F 2 p > 0 ∨ (F 2 i - F 2 p = 0 ∧ i < p)) = 1 from bi_t (by omega)]⟩ (by show (F 6 0 - (i + 1)).toNat < (F 6 0 - i).toNat; omega)
              | exact ih (a, i + 1) ⟨by show 0 ≤ i + 1; omega, by show i + 1 ≤ F 6 0; omega, by show 0 ≤ a ∧ a ≤ i + 1; omega, by show a = csum (fun o => bi (F 2 o - F 2 p > 0 ∨ (F 2 o - F 2 p = 0 ∧ o < p))) (i + 1).toNat; rw [csum_s _ i1, ← i4]; show a = a + bi (F 2 i - F 2 p > 0 ∨ (F 2 i - F 2 p = 0 ∧ i < p)); rw [show bi (F 2 i - F 2 p > 0 ∨ (F 2 i - F 2 p = 0 ∧ i < p)) = 0 from bi_f (by omega), Int.add_zero]⟩ (by show (F 6 0 - (i + 1)).toNat < (F 6 0 - i).toNat; omega)
  · dsimp only
    exact ⟨by omega, by omega, by omega, rfl⟩
