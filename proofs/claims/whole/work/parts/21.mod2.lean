set_option maxHeartbeats 4000000 in
/-- reference: has -/
theorem c5_has {k : Nat} {G : fS} {f : Int → Int} {h : jH} (hG : jOb sM k G h) (hf : G 0 = f) {p : Int} (hp : -2147483648 ≤ p ∧ p ≤ 2147483647) (hn : 0 ≤ f 0 ∧ f 0 ≤ 24) : jM mX5_has 1 0 0 [] [.ref k, iv p] h (jRet (iv (bi (0 ≤ p ∧ p < f 0))) h) jno := by
  refine j_method (by decide +kernel) rfl (fun _ _ _ => trivial) (Nat.le_of_ble_eq_true rfl) ?_
  generalize hZ : jZ [] 0 0 _ _ = Z
  show J mX5_has (jR 1 0 0) [] Z 0 [(0, .ref k), (1, iv p)] [] h 0 0
  subst hf
  refine j_iload_n dX5_has_0 rfl rfl ?_
  refine j_iconst dX5_has_1 ?_
  refine j_aload_n dX5_has_2 rfl rfl ?_
  refine j_getfield (v := .ref (k + 1)) dX5_has_3 jf_X5_9 hG.1 rfl ?_
  refine j_iconst dX5_has_6 ?_
  refine j_iaload (f := G 0) dX5_has_7 (hG.a 0 1 0 141 rfl) (by omega) (by decide) ?_
  refine j_iconst dX5_has_8 ?_
  refine j_isub dX5_has_9 ?_
  refine j_callS (c5_in (by omega)) dX5_has_10 jc_X5_64 jmS_X5_in rfl rfl rfl (by simp) jfr_nil (Nat.le_of_ble_eq_true rfl) ⟨Nat.le_of_ble_eq_true rfl, Nat.le_of_ble_eq_true rfl⟩ ⟨Nat.le_of_ble_eq_true rfl, Nat.le_of_ble_eq_true rfl⟩ (fun r h1 hp9 => ?_) (fun E h9 q => q.elim)
  obtain ⟨rfl, rfl⟩ := hp9
  subst hZ
  exact j_ireturn dX5_has_13 rfl (bi_nar _) (jRet.i (bi_c (by omega))) (Nat.le_refl _) (Nat.le_refl _)
set_option maxHeartbeats 4000000 in
/-- reference: parent -/
theorem c5_parent {k : Nat} {G : fS} {f : Int → Int} {B : Int} {h : jH} (hG : jOb sM k G h) (hf : G 0 = f) (hO : jOk B (mK f)) {p : Int} (hp : 0 ≤ p ∧ p < f 0) : jM mX5_parent 0 0 0 [] [.ref k, iv p] h (jRet (iv (mK f 0 p)) h) jno := by
  refine j_method (by decide +kernel) rfl (fun _ _ _ => trivial) (Nat.le_of_ble_eq_true rfl) ?_
  generalize hZ : jZ [] 0 0 _ _ = Z
  show J mX5_parent (jR 0 0 0) [] Z 0 [(0, .ref k), (1, iv p)] [] h 0 0
  subst hf
  have hn := mK_n hO
  have hb := hO.b
  refine j_aload_n dX5_parent_0 rfl rfl ?_
  refine j_getfield (v := .ref (k + 1)) dX5_parent_1 jf_X5_9 hG.1 rfl ?_
  refine j_iconst dX5_parent_4 ?_
  refine j_iload_n dX5_parent_5 rfl rfl ?_
  refine j_iadd dX5_parent_6 ?_
  refine j_iaload (f := G 0) dX5_parent_7 (hG.a 0 1 0 141 rfl) (by omega) (by decide) ?_
  subst hZ
  exact j_ireturn dX5_parent_8 rfl rfl (jRet.i (mK_0 hp)) (Nat.le_refl _) (Nat.le_refl _)
set_option maxHeartbeats 4000000 in
/-- reference: lives -/
theorem c5_lives {k : Nat} {G : fS} {f : Int → Int} {B : Int} {h : jH} (hG : jOb sM k G h) (hf : G 0 = f) (hO : jOk B (mK f)) {p : Int} (hp : 0 ≤ p ∧ p < f 0) : jM mX5_lives 0 0 0 [] [.ref k, iv p] h (jRet (iv (mK f 3 p)) h) jno := by
  refine j_method (by decide +kernel) rfl (fun _ _ _ => trivial) (Nat.le_of_ble_eq_true rfl) ?_
  generalize hZ : jZ [] 0 0 _ _ = Z
  show J mX5_lives (jR 0 0 0) [] Z 0 [(0, .ref k), (1, iv p)] [] h 0 0
  subst hf
  have hn := mK_n hO
  have hb := hO.b
  have hl := hO.l p
  have hl2 := mK_3 hp
  refine j_aload_n dX5_lives_0 rfl rfl ?_
  refine j_getfield (v := .ref (k + 1)) dX5_lives_1 jf_X5_9 hG.1 rfl ?_
  refine j_bipush dX5_lives_4 (by decide +kernel) ?_
  refine j_iload_n dX5_lives_6 rfl rfl ?_
  refine j_iadd dX5_lives_7 ?_
  refine j_iaload (f := G 0) dX5_lives_8 (hG.a 0 1 0 141 rfl) (by omega) (by decide) ?_
  refine j_iconst dX5_lives_9 ?_
  refine j_icmp_ne (tgt := 17) dX5_lives_10 (by decide) (by omega) (fun c1 => ?_) (fun c1 => ?_)
  · refine j_iconst dX5_lives_17 ?_
    subst hZ
    exact j_ireturn dX5_lives_18 rfl rfl (jRet.i (by omega)) (Nat.le_refl _) (Nat.le_refl _)
  · refine j_iconst dX5_lives_13 ?_
    refine j_goto (tgt := 18) dX5_lives_14 (by decide) ?_
    subst hZ
    exact j_ireturn dX5_lives_18 rfl rfl (jRet.i (by omega)) (Nat.le_refl _) (Nat.le_refl _)
set_option maxHeartbeats 4000000 in
/-- reference: depth -/
theorem c5_depth {k : Nat} {G : fS} {f : Int → Int} {B : Int} {h : jH} (hG : jOb sM k G h) (hf : G 0 = f) (hO : jOk B (mK f)) (hA : fAc (mK f)) {p : Int} (hp : 0 ≤ p ∧ p < f 0) : jM mX5_depth 1 0 0 [] [.ref k, iv p] h (jRet (iv (fdep (mK f) p)) h) jno := by
  refine j_method (by decide +kernel) rfl (fun _ _ _ => trivial) (Nat.le_of_ble_eq_true rfl) ?_
  generalize hZ : jZ [] 0 0 _ _ = Z
  show J mX5_depth (jR 1 0 0) [] Z 0 [(0, .ref k), (1, iv p)] [] h 0 0
  subst hf
  have hn := mK_n hO
  have hb := hO.b
  refine j_iconst dX5_depth_0 ?_
  refine j_istore_n (L' := [(0, _), (1, _), (2, _)]) dX5_depth_1 rfl (by decide) rfl ?_
  refine j_iload_n dX5_depth_2 rfl rfl ?_
  refine j_istore_n (L' := [(0, _), (1, _), (2, _), (3, _)]) dX5_depth_3 rfl (by decide) rfl ?_
  refine jloop (P := fun z9 : Int × Int => J mX5_depth (jR 1 0 0) [] Z 4 [(0, .ref k), (1, iv p), (2, iv z9.1), (3, iv z9.2)] [] h 0 0) (fun z9 => 0 ≤ z9.1 ∧ z9.1 ≤ 24 ∧ 0 ≤ z9.2 ∧ z9.2 < G 0 0 ∧ fdep (mK (G 0)) p = z9.1 + fdep (mK (G 0)) z9.2) (fun z9 => (fdep (mK (G 0)) z9.2).toNat) ?_ (0, p) ?_
  · rintro ⟨d, x⟩ hinv ih
    dsimp only at hinv ih ⊢
    obtain ⟨i1, i2, i3, i4, i5⟩ := hinv
    have hx9 : _ ∧ _ < G 0 0 := hO.p x
    have hx8 := fdep_rg (mK (G 0)) x
    have hx7 := fdep_rg (mK (G 0)) p
    have hx6 := fdep_rg (mK (G 0)) (mK (G 0) 0 x)
    refine j_aload_n dX5_depth_4 rfl rfl ?_
    refine j_iload_n dX5_depth_5 rfl rfl ?_
    refine j_callV (c5_parent hG (f := (G 0)) rfl hO (by omega)) dX5_depth_6 jc_X5_68 jmV_X5_parent rfl rfl hG.1 rfl rfl (by simp) jfr_nil (Nat.le_of_ble_eq_true rfl) ⟨Nat.le_of_ble_eq_true rfl, Nat.le_of_ble_eq_true rfl⟩ ⟨Nat.le_of_ble_eq_true rfl, Nat.le_of_ble_eq_true rfl⟩ (fun r h1 hp9 => ?_) (fun E h9 q => q.elim)
    obtain ⟨rfl, rfl⟩ := hp9
    have hpp9 : -1 ≤ mK (G 0) 0 x ∧ mK (G 0) 0 x < (G 0) 0 := hO.p x
    refine j_if_lt (tgt := 24) dX5_depth_9 (by decide) (by omega) (fun c2 => ?_) (fun c2 => ?_)
    · refine j_iload_n dX5_depth_24 rfl rfl ?_
      subst hZ
      exact j_ireturn dX5_depth_25 rfl rfl (jRet.i (by rw [i5, fdep_z hO (by omega), Int.add_zero])) (Nat.le_refl _) (Nat.le_refl _)
    · refine j_iinc (L' := [(0, _), (1, _), (2, _), (3, _)]) dX5_depth_12 rfl (by decide) rfl ?_
      refine j_aload_n dX5_depth_15 rfl rfl ?_
      refine j_iload_n dX5_depth_16 rfl rfl ?_
      refine j_callV (c5_parent hG (f := (G 0)) rfl hO (by omega)) dX5_depth_17 jc_X5_68 jmV_X5_parent rfl rfl hG.1 rfl rfl (by simp) jfr_nil (Nat.le_of_ble_eq_true rfl) ⟨Nat.le_of_ble_eq_true rfl, Nat.le_of_ble_eq_true rfl⟩ ⟨Nat.le_of_ble_eq_true rfl, Nat.le_of_ble_eq_true rfl⟩ (fun r h3 hp9 => ?_) (fun E h9 q => q.elim)
      obtain ⟨rfl, rfl⟩ := hp9
      have hpp9 : -1 ≤ mK (G 0) 0 x ∧ mK (G 0) 0 x < (G 0) 0 := hO.p x
      refine j_istore_n (L' := [(0, _), (1, _), (2, _), (3, _)]) dX5_depth_20 rfl (by decide) rfl ?_
      refine j_goto (tgt := 4) dX5_depth_21 (by decide) ?_
      have hs := fdep_st hO hA (x := x) (by omega)
      have ih9 := ih (d + 1, mK (G 0) 0 x)
      try dsimp only at ih9
      exact ih9 ⟨by omega, by omega, by omega, by omega, by omega⟩ (by omega)
  · dsimp only
    exact ⟨by omega, by omega, by omega, by omega, by omega⟩
set_option maxHeartbeats 4000000 in
/-- reference: rootOf -/
theorem c5_rootOf {k : Nat} {G : fS} {f : Int → Int} {B : Int} {h : jH} (hG : jOb sM k G h) (hf : G 0 = f) (hO : jOk B (mK f)) (hA : fAc (mK f)) {p : Int} (hp : 0 ≤ p ∧ p < f 0) : jM mX5_rootOf 1 0 0 [] [.ref k, iv p] h (jRet (iv (frt (mK f) p)) h) jno := by
  refine j_method (by decide +kernel) rfl (fun _ _ _ => trivial) (Nat.le_of_ble_eq_true rfl) ?_
  generalize hZ : jZ [] 0 0 _ _ = Z
  show J mX5_rootOf (jR 1 0 0) [] Z 0 [(0, .ref k), (1, iv p)] [] h 0 0
  subst hf
  have hn := mK_n hO
  have hb := hO.b
  refine j_iload_n dX5_rootOf_0 rfl rfl ?_
  refine j_istore_n (L' := [(0, _), (1, _), (2, _)]) dX5_rootOf_1 rfl (by decide) rfl ?_
  refine jloop (P := fun z9 : Int => J mX5_rootOf (jR 1 0 0) [] Z 2 [(0, .ref k), (1, iv p), (2, iv z9)] [] h 0 0) (fun z9 => 0 ≤ z9 ∧ z9 < G 0 0 ∧ frt (mK (G 0)) p = frt (mK (G 0)) z9) (fun z9 => (fdep (mK (G 0)) z9).toNat) ?_ p ?_
  · rintro x hinv ih
    obtain ⟨i1, i2, i3⟩ := hinv
    have hx9 : _ ∧ _ < G 0 0 := hO.p x
    have hx8 := fdep_rg (mK (G 0)) x
    have hx6 := fdep_rg (mK (G 0)) (mK (G 0) 0 x)
    refine j_aload_n dX5_rootOf_2 rfl rfl ?_
    refine j_iload_n dX5_rootOf_3 rfl rfl ?_
    refine j_callV (c5_parent hG (f := (G 0)) rfl hO (by omega)) dX5_rootOf_4 jc_X5_68 jmV_X5_parent rfl rfl hG.1 rfl rfl (by simp) jfr_nil (Nat.le_of_ble_eq_true rfl) ⟨Nat.le_of_ble_eq_true rfl, Nat.le_of_ble_eq_true rfl⟩ ⟨Nat.le_of_ble_eq_true rfl, Nat.le_of_ble_eq_true rfl⟩ (fun r h1 hp9 => ?_) (fun E h9 q => q.elim)
    obtain ⟨rfl, rfl⟩ := hp9
    have hpp9 : -1 ≤ mK (G 0) 0 x ∧ mK (G 0) 0 x < (G 0) 0 := hO.p x
    refine j_if_lt (tgt := 19) dX5_rootOf_7 (by decide) (by omega) (fun c2 => ?_) (fun c2 => ?_)
    · refine j_iload_n dX5_rootOf_19 rfl rfl ?_
      subst hZ
      exact j_ireturn dX5_rootOf_20 rfl rfl (jRet.i (by rw [i3, frt_z (by omega)])) (Nat.le_refl _) (Nat.le_refl _)
    · refine j_aload_n dX5_rootOf_10 rfl rfl ?_
      refine j_iload_n dX5_rootOf_11 rfl rfl ?_
      refine j_callV (c5_parent hG (f := (G 0)) rfl hO (by omega)) dX5_rootOf_12 jc_X5_68 jmV_X5_parent rfl rfl hG.1 rfl rfl (by simp) jfr_nil (Nat.le_of_ble_eq_true rfl) ⟨Nat.le_of_ble_eq_true rfl, Nat.le_of_ble_eq_true rfl⟩ ⟨Nat.le_of_ble_eq_true rfl, Nat.le_of_ble_eq_true rfl⟩ (fun r h3 hp9 => ?_) (fun E h9 q => q.elim)
      obtain ⟨rfl, rfl⟩ := hp9
      have hpp9 : -1 ≤ mK (G 0) 0 x ∧ mK (G 0) 0 x < (G 0) 0 := hO.p x
      refine j_istore_n (L' := [(0, _), (1, _), (2, _)]) dX5_rootOf_15 rfl (by decide) rfl ?_
      refine j_goto (tgt := 2) dX5_rootOf_16 (by decide) ?_
      have hs := fdep_st hO hA (x := x) (by omega)
      have ih9 := ih (mK (G 0) 0 x)
      try dsimp only at ih9
      exact ih9 ⟨by omega, by omega, by rw [i3]; exact frt_st hO hA (by omega)⟩ (by omega)
  · exact ⟨by omega, by omega, rfl⟩
theorem frt_rg {B : Int} {F : fS} (h : jOk B F) (hA : fAc F) : ∀ (m : Nat) (x : Int), (fdep F x).toNat < m → 0 ≤ x → x < F 6 0 → 0 ≤ frt F x ∧ frt F x < F 6 0
  | 0, _, hm, _, _ => absurd hm (Nat.not_lt_zero _)
  | m + 1, x, hm, h0, h1 => by
    by_cases hx : F 0 x = -1
    · rw [frt_z hx]; exact ⟨h0, h1⟩
    · have hd := fdep_st h hA hx
      have hr := fdep_rg F (F 0 x)
      have hb := h.p x
      rw [frt_st h hA hx]
      exact frt_rg h hA m (F 0 x) (by omega) (by omega) (by omega)
theorem mfrt {B : Int} {f : Int → Int} (h : jOk B (mK f)) (hA : fAc (mK f)) {x : Int} (hx : 0 ≤ x ∧ x < f 0) : 0 ≤ frt (mK f) x ∧ frt (mK f) x < f 0 := frt_rg h hA _ x (Nat.lt_succ_self _) hx.1 hx.2
set_option maxHeartbeats 4000000 in
/-- reference: oaks -/
theorem c5_oaks {k : Nat} {G : fS} {f : Int → Int} {B : Int} {h : jH} (hG : jOb sM k G h) (hf : G 0 = f) (hO : jOk B (mK f))  : jM mX5_oaks 1 0 0 [] [.ref k] h (jRet (iv (csum (fun c => bi (mK f 0 c = -1)) (f 0).toNat)) h) jno := by
  refine j_method (by decide +kernel) rfl (fun _ _ _ => trivial) (Nat.le_of_ble_eq_true rfl) ?_
  generalize hZ : jZ [] 0 0 _ _ = Z
  show J mX5_oaks (jR 1 0 0) [] Z 0 [(0, .ref k)] [] h 0 0
  subst hf
  have hn := mK_n hO
  have hb := hO.b
  refine j_iconst dX5_oaks_0 ?_
  refine j_istore_n (L' := [(0, _), (1, _)]) dX5_oaks_1 rfl (by decide) rfl ?_
  refine j_iconst dX5_oaks_2 ?_
  refine j_istore_n (L' := [(0, _), (1, _), (2, _)]) dX5_oaks_3 rfl (by decide) rfl ?_
  refine jloop (P := fun z9 : Int × Int => J mX5_oaks (jR 1 0 0) [] Z 4 [(0, .ref k), (1, iv z9.1), (2, iv z9.2)] [] h 0 0) (fun z9 => 0 ≤ z9.2 ∧ z9.2 ≤ G 0 0 ∧ 0 ≤ z9.1 ∧ z9.1 ≤ z9.2 ∧ z9.1 = csum (fun c => bi (mK (G 0) 0 c = -1)) z9.2.toNat) (fun z9 => (G 0 0 - z9.2).toNat) ?_ (0, 0) ?_
  · rintro ⟨a, i⟩ hinv ih
    dsimp only at hinv ih ⊢
    obtain ⟨i1, i2, i3, i4, i5⟩ := hinv
    have hx9 : _ ∧ _ < G 0 0 := hO.p i
    refine j_iload_n dX5_oaks_4 rfl rfl ?_
    refine j_aload_n dX5_oaks_5 rfl rfl ?_
    refine j_getfield (v := .ref (k + 1)) dX5_oaks_6 jf_X5_9 hG.1 rfl ?_
    refine j_iconst dX5_oaks_9 ?_
    refine j_iaload (f := G 0) dX5_oaks_10 (hG.a 0 1 0 141 rfl) (by omega) (by decide) ?_
    refine j_icmp_ge (tgt := 36) dX5_oaks_11 (by decide) (by omega) (fun c1 => ?_) (fun c1 => ?_)
    · refine j_iload_n dX5_oaks_36 rfl rfl ?_
      subst hZ
      exact j_ireturn dX5_oaks_37 rfl rfl (jRet.i (by rw [i5, show i = G 0 0 by omega])) (Nat.le_refl _) (Nat.le_refl _)
    · refine j_iload_n dX5_oaks_14 rfl rfl ?_
      refine j_aload_n dX5_oaks_15 rfl rfl ?_
      refine j_iload_n dX5_oaks_16 rfl rfl ?_
      refine j_callV (c5_parent hG (f := (G 0)) rfl hO (by omega)) dX5_oaks_17 jc_X5_68 jmV_X5_parent rfl rfl hG.1 rfl rfl (by simp) jfr_nil (Nat.le_of_ble_eq_true rfl) ⟨Nat.le_of_ble_eq_true rfl, Nat.le_of_ble_eq_true rfl⟩ ⟨Nat.le_of_ble_eq_true rfl, Nat.le_of_ble_eq_true rfl⟩ (fun r h2 hp9 => ?_) (fun E h9 q => q.elim)
      obtain ⟨rfl, rfl⟩ := hp9
      have hpp9 : -1 ≤ mK (G 0) 0 i ∧ mK (G 0) 0 i < (G 0) 0 := hO.p i
      refine j_if_ge (tgt := 27) dX5_oaks_20 (by decide) (by omega) (fun c3 => ?_) (fun c3 => ?_)
      · refine j_iconst dX5_oaks_27 ?_
        refine j_iadd dX5_oaks_28 ?_
        refine j_istore_n (L' := [(0, _), (1, _), (2, _)]) dX5_oaks_29 rfl (by decide) rfl ?_
        refine j_iinc (L' := [(0, _), (1, _), (2, _)]) dX5_oaks_30 rfl (by decide) rfl ?_
        refine j_goto (tgt := 4) dX5_oaks_33 (by decide) ?_
        have e9 := csum_s (fun c => bi (mK (G 0) 0 c = -1)) i1
        try dsimp only at e9
        first
          | (rw [bi_t (by omega)] at e9; have ih9 := ih (a + 1, i + 1); dsimp only at ih9; exact ih9 ⟨by omega, by omega, by omega, by omega, by omega⟩ (by omega))
          | (rw [bi_f (by omega)] at e9; have ih9 := ih (a + 0, i + 1); dsimp only at ih9; exact ih9 ⟨by omega, by omega, by omega, by omega, by omega⟩ (by omega))
      · refine j_iconst dX5_oaks_23 ?_
        refine j_goto (tgt := 28) dX5_oaks_24 (by decide) ?_
        refine j_iadd dX5_oaks_28 ?_
        refine j_istore_n (L' := [(0, _), (1, _), (2, _)]) dX5_oaks_29 rfl (by decide) rfl ?_
        refine j_iinc (L' := [(0, _), (1, _), (2, _)]) dX5_oaks_30 rfl (by decide) rfl ?_
        refine j_goto (tgt := 4) dX5_oaks_33 (by decide) ?_
        have e9 := csum_s (fun c => bi (mK (G 0) 0 c = -1)) i1
        try dsimp only at e9
        first
          | (rw [bi_t (by omega)] at e9; have ih9 := ih (a + 1, i + 1); dsimp only at ih9; exact ih9 ⟨by omega, by omega, by omega, by omega, by omega⟩ (by omega))
          | (rw [bi_f (by omega)] at e9; have ih9 := ih (a + 0, i + 1); dsimp only at ih9; exact ih9 ⟨by omega, by omega, by omega, by omega, by omega⟩ (by omega))
  · dsimp only
    exact ⟨by omega, by omega, by omega, by omega, rfl⟩
def m_elderOf (f : Int → Int) (p e : Int) : Int := if bi (0 ≤ e ∧ e ≤ fdep (mK f) p) = 0 then -2 else fup (mK f) p e
set_option maxHeartbeats 4000000 in
/-- reference: elderOf -/
theorem c5_elderOf {k : Nat} {G : fS} {f : Int → Int} {B : Int} {h : jH} (hG : jOb sM k G h) (hf : G 0 = f) (hO : jOk B (mK f)) (hA : fAc (mK f)) {p e : Int} (hp : 0 ≤ p ∧ p < f 0) (he : -2147483648 ≤ e ∧ e ≤ 2147483647) : jM mX5_elderOf 2 0 0 [] [.ref k, iv p, iv e] h (jRet (iv (m_elderOf f p e)) h) jno := by
  refine j_method (by decide +kernel) rfl (fun _ _ _ => trivial) (Nat.le_of_ble_eq_true rfl) ?_
  generalize hZ : jZ [] 0 0 _ _ = Z
  show J mX5_elderOf (jR 2 0 0) [] Z 0 [(0, .ref k), (1, iv p), (2, iv e)] [] h 0 0
  subst hf
  have hn := mK_n hO
  have hb := hO.b
  refine j_iload_n dX5_elderOf_0 rfl rfl ?_
  refine j_iconst dX5_elderOf_1 ?_
  refine j_aload_n dX5_elderOf_2 rfl rfl ?_
  refine j_iload_n dX5_elderOf_3 rfl rfl ?_
  refine j_callV (c5_depth hG (f := (G 0)) rfl hO hA (by omega)) dX5_elderOf_4 jc_X5_118 jmV_X5_depth rfl rfl hG.1 rfl rfl (by simp) jfr_nil (Nat.le_of_ble_eq_true rfl) ⟨Nat.le_of_ble_eq_true rfl, Nat.le_of_ble_eq_true rfl⟩ ⟨Nat.le_of_ble_eq_true rfl, Nat.le_of_ble_eq_true rfl⟩ (fun r h1 hp9 => ?_) (fun E h9 q => q.elim)
  obtain ⟨rfl, rfl⟩ := hp9
  have hd9 := fdep_rg (mK (G 0)) p
  refine j_callS (c5_in (by omega)) dX5_elderOf_7 jc_X5_64 jmS_X5_in rfl rfl rfl (by simp) jfr_nil (Nat.le_of_ble_eq_true rfl) ⟨Nat.le_of_ble_eq_true rfl, Nat.le_of_ble_eq_true rfl⟩ ⟨Nat.le_of_ble_eq_true rfl, Nat.le_of_ble_eq_true rfl⟩ (fun r h2 hp9 => ?_) (fun E h9 q => q.elim)
  obtain ⟨rfl, rfl⟩ := hp9
  refine j_if_ne (tgt := 16) dX5_elderOf_10 (by decide) (bi_r32 _) (fun c3 => ?_) (fun c3 => ?_)
  · have qc3 := bi_nz c3
    have he2 := qc3
    refine j_iload_n dX5_elderOf_16 rfl rfl ?_
    refine j_istore_n (L' := [(0, _), (1, _), (2, _), (3, _)]) dX5_elderOf_17 rfl (by decide) rfl ?_
    refine j_iconst dX5_elderOf_18 ?_
    refine j_istore (L' := [(0, _), (1, _), (2, _), (3, _), (4, _)]) dX5_elderOf_19 (by decide) rfl ?_
    refine jloop (P := fun z9 : Int × Int => J mX5_elderOf (jR 2 0 0) [] Z 21 [(0, .ref k), (1, iv p), (2, iv e), (3, iv z9.1), (4, iv z9.2)] [] h 0 0) (fun z9 => 0 ≤ z9.2 ∧ z9.2 ≤ e ∧ 0 ≤ z9.1 ∧ z9.1 < G 0 0 ∧ fdep (mK (G 0)) p = z9.2 + fdep (mK (G 0)) z9.1 ∧ upk (mK (G 0) 0) e.toNat p = upk (mK (G 0) 0) (e - z9.2).toNat z9.1) (fun z9 => (e - z9.2).toNat) ?_ (p, 0) ?_
    · rintro ⟨x, i⟩ hinv ih
      dsimp only at hinv ih ⊢
      obtain ⟨i1, i2, i3, i4, i5, i6⟩ := hinv
      have hx9 : _ ∧ _ < G 0 0 := hO.p x
      have hx6 := fdep_rg (mK (G 0)) (mK (G 0) 0 x)
      refine j_iload dX5_elderOf_21 rfl ?_
      refine j_iload_n dX5_elderOf_23 rfl rfl ?_
      refine j_icmp_ge (tgt := 39) dX5_elderOf_24 (by decide) (by omega) (fun c4 => ?_) (fun c4 => ?_)
      · refine j_iload_n dX5_elderOf_39 rfl rfl ?_
        subst hZ
        exact j_ireturn dX5_elderOf_40 rfl rfl (jRet.i (by unfold m_elderOf; rw [if_neg (by rw [bi_t he2]; decide)]; unfold fup; rw [show (min e 24).toNat = e.toNat by omega, i6, show (e - i).toNat = 0 by omega]; rfl)) (Nat.le_refl _) (Nat.le_refl _)
      · refine j_aload_n dX5_elderOf_27 rfl rfl ?_
        refine j_iload_n dX5_elderOf_28 rfl rfl ?_
        refine j_callV (c5_parent hG (f := (G 0)) rfl hO (by omega)) dX5_elderOf_29 jc_X5_68 jmV_X5_parent rfl rfl hG.1 rfl rfl (by simp) jfr_nil (Nat.le_of_ble_eq_true rfl) ⟨Nat.le_of_ble_eq_true rfl, Nat.le_of_ble_eq_true rfl⟩ ⟨Nat.le_of_ble_eq_true rfl, Nat.le_of_ble_eq_true rfl⟩ (fun r h5 hp9 => ?_) (fun E h9 q => q.elim)
        obtain ⟨rfl, rfl⟩ := hp9
        have hpp9 : -1 ≤ mK (G 0) 0 x ∧ mK (G 0) 0 x < (G 0) 0 := hO.p x
        refine j_istore_n (L' := [(0, _), (1, _), (2, _), (3, _), (4, _)]) dX5_elderOf_32 rfl (by decide) rfl ?_
        refine j_iinc (L' := [(0, _), (1, _), (2, _), (3, _), (4, _)]) dX5_elderOf_33 rfl (by decide) rfl ?_
        refine j_goto (tgt := 21) dX5_elderOf_36 (by decide) ?_
        have hx4 : mK (G 0) 0 x ≠ -1 := fun q => by have := fdep_z hO q; omega
        have hs := fdep_st hO hA hx4
        rw [fsuc (by omega : i < e)] at i6
        have ih9 := ih (mK (G 0) 0 x, i + 1)
        try dsimp only at ih9
        exact ih9 ⟨by omega, by omega, by omega, by omega, by omega, by exact i6⟩ (by omega)
    · dsimp only
      exact ⟨by omega, by omega, by omega, by omega, by omega, by rw [Int.sub_zero]⟩
  · have qc3 := bi_z c3
    refine j_bipush dX5_elderOf_13 (by decide +kernel) ?_
    subst hZ
    exact j_ireturn dX5_elderOf_15 rfl rfl (jRet.i (if_pos c3)) (Nat.le_refl _) (Nat.le_refl _)
theorem upk_rg {B : Int} {F : fS} (h : jOk B F) : ∀ (k : Nat) (p : Int), -1 ≤ p ∧ p < 24 → -1 ≤ upk (F 0) k p ∧ upk (F 0) k p < 24
  | 0, _, hp => hp
  | k + 1, p, _ => upk_rg h k (F 0 p) (by have := h.p p; have := h.n; omega)
theorem m_elderOf_r {B : Int} {f : Int → Int} (h : jOk B (mK f)) {p e : Int} (hp : 0 ≤ p ∧ p < f 0) : -2 ≤ m_elderOf f p e ∧ m_elderOf f p e < 24 := by
  have hn := mK_n h
  have := upk_rg h (min e 24).toNat p (by omega)
  unfold m_elderOf fup
  split <;> omega
theorem m_elderOf_g {f : Int → Int} {p e : Int} (h : m_elderOf f p e ≠ -2) : 0 ≤ e ∧ e ≤ 24 := by
  unfold m_elderOf at h
  have h2 := fdep_rg (mK f) p
  split at h
  · exact absurd rfl h
  · rename_i q
    have := bi_nz q
    omega
set_option maxHeartbeats 4000000 in
/-- reference: isAbove -/
theorem c5_isAbove {k : Nat} {G : fS} {f : Int → Int} {B : Int} {h : jH} (hG : jOb sM k G h) (hf : G 0 = f) (hO : jOk B (mK f)) (hA : fAc (mK f)) {a x : Int} (ha : 0 ≤ a ∧ a < f 0) (hx : 0 ≤ x ∧ x < f 0) : jM mX5_isAbove 1 0 0 [] [.ref k, iv a, iv x] h (jRet (iv (bi (fab (mK f) a x = true))) h) jno := by
  refine j_method (by decide +kernel) rfl (fun _ _ _ => trivial) (Nat.le_of_ble_eq_true rfl) ?_
  generalize hZ : jZ [] 0 0 _ _ = Z
  show J mX5_isAbove (jR 1 0 0) [] Z 0 [(0, .ref k), (1, iv a), (2, iv x)] [] h 0 0
  subst hf
  have hn := mK_n hO
  have hb := hO.b
  refine j_iload_n dX5_isAbove_0 rfl rfl ?_
  refine j_istore_n (L' := [(0, _), (1, _), (2, _), (3, _)]) dX5_isAbove_1 rfl (by decide) rfl ?_
  refine jloop (P := fun z9 : Int => J mX5_isAbove (jR 1 0 0) [] Z 2 [(0, .ref k), (1, iv a), (2, iv x), (3, iv z9)] [] h 0 0) (fun z9 => -1 ≤ z9 ∧ z9 < G 0 0 ∧ fab (mK (G 0)) a x = fab (mK (G 0)) a z9) (fun z9 => (if z9 = -1 then 0 else 1 + fdep (mK (G 0)) z9).toNat) ?_ x ?_
  · rintro y hinv ih
    obtain ⟨i1, i2, i3⟩ := hinv
    have hx9 : _ ∧ _ < G 0 0 := hO.p y
    have hx8 := fdep_rg (mK (G 0)) y
    have hx6 := fdep_rg (mK (G 0)) (mK (G 0) 0 y)
    refine j_iload_n dX5_isAbove_2 rfl rfl ?_
    refine j_if_lt (tgt := 20) dX5_isAbove_3 (by decide) (by omega) (fun c1 => ?_) (fun c1 => ?_)
    · refine j_iload_n dX5_isAbove_20 rfl rfl ?_
      refine j_iload_n dX5_isAbove_21 rfl rfl ?_
      refine j_icmp_ne (tgt := 29) dX5_isAbove_22 (by decide) (by omega) (fun c2 => ?_) (fun c2 => ?_)
      · refine j_iconst dX5_isAbove_29 ?_
        subst hZ
        exact j_ireturn dX5_isAbove_30 rfl rfl (jRet.i (by rw [i3]; first | (rw [show y = -1 by omega, fab_e]; exact bi_f (by decide)) | (have e9 := fab_st hO hA (a := a) (x := y) (by omega); rw [decide_eq_true (by omega : y = a), Bool.true_or] at e9; exact bi_t e9))) (Nat.le_refl _) (Nat.le_refl _)
      · refine j_iconst dX5_isAbove_25 ?_
        refine j_goto (tgt := 30) dX5_isAbove_26 (by decide) ?_
        subst hZ
        exact j_ireturn dX5_isAbove_30 rfl rfl (jRet.i (by rw [i3]; first | (rw [show y = -1 by omega, fab_e]; exact bi_f (by decide)) | (have e9 := fab_st hO hA (a := a) (x := y) (by omega); rw [decide_eq_true (by omega : y = a), Bool.true_or] at e9; exact bi_t e9))) (Nat.le_refl _) (Nat.le_refl _)
    · refine j_iload_n dX5_isAbove_6 rfl rfl ?_
      refine j_iload_n dX5_isAbove_7 rfl rfl ?_
      refine j_icmp_eq (tgt := 20) dX5_isAbove_8 (by decide) (by omega) (fun c3 => ?_) (fun c3 => ?_)
      · refine j_iload_n dX5_isAbove_20 rfl rfl ?_
        refine j_iload_n dX5_isAbove_21 rfl rfl ?_
        refine j_icmp_ne (tgt := 29) dX5_isAbove_22 (by decide) (by omega) (fun c4 => ?_) (fun c4 => ?_)
        · refine j_iconst dX5_isAbove_29 ?_
          subst hZ
          exact j_ireturn dX5_isAbove_30 rfl rfl (jRet.i (by rw [i3]; first | (rw [show y = -1 by omega, fab_e]; exact bi_f (by decide)) | (have e9 := fab_st hO hA (a := a) (x := y) (by omega); rw [decide_eq_true (by omega : y = a), Bool.true_or] at e9; exact bi_t e9))) (Nat.le_refl _) (Nat.le_refl _)
        · refine j_iconst dX5_isAbove_25 ?_
          refine j_goto (tgt := 30) dX5_isAbove_26 (by decide) ?_
          subst hZ
          exact j_ireturn dX5_isAbove_30 rfl rfl (jRet.i (by rw [i3]; first | (rw [show y = -1 by omega, fab_e]; exact bi_f (by decide)) | (have e9 := fab_st hO hA (a := a) (x := y) (by omega); rw [decide_eq_true (by omega : y = a), Bool.true_or] at e9; exact bi_t e9))) (Nat.le_refl _) (Nat.le_refl _)
      · refine j_aload_n dX5_isAbove_11 rfl rfl ?_
        refine j_iload_n dX5_isAbove_12 rfl rfl ?_
        refine j_callV (c5_parent hG (f := (G 0)) rfl hO (by omega)) dX5_isAbove_13 jc_X5_68 jmV_X5_parent rfl rfl hG.1 rfl rfl (by simp) jfr_nil (Nat.le_of_ble_eq_true rfl) ⟨Nat.le_of_ble_eq_true rfl, Nat.le_of_ble_eq_true rfl⟩ ⟨Nat.le_of_ble_eq_true rfl, Nat.le_of_ble_eq_true rfl⟩ (fun r h5 hp9 => ?_) (fun E h9 q => q.elim)
        obtain ⟨rfl, rfl⟩ := hp9
        have hpp9 : -1 ≤ mK (G 0) 0 y ∧ mK (G 0) 0 y < (G 0) 0 := hO.p y
        refine j_istore_n (L' := [(0, _), (1, _), (2, _), (3, _)]) dX5_isAbove_16 rfl (by decide) rfl ?_
        refine j_goto (tgt := 2) dX5_isAbove_17 (by decide) ?_
        have e9 := fab_st hO hA (a := a) (x := y) (by omega)
        rw [decide_eq_false c3, Bool.false_or] at e9
        have ih9 := ih (mK (G 0) 0 y)
        have hm : (if mK (G 0) 0 y = -1 then 0 else 1 + fdep (mK (G 0)) (mK (G 0) 0 y)).toNat < (if y = -1 then 0 else 1 + fdep (mK (G 0)) y).toNat := by
          rw [if_neg (by omega : y ≠ -1)]
          split
          · omega
          · rename_i q9
            have := fdep_st hO hA q9
            omega
        exact ih9 ⟨by omega, by omega, by rw [i3, e9]⟩ hm
  · exact ⟨by omega, by omega, rfl⟩
