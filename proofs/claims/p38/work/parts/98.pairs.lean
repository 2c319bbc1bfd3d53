theorem wd98_56 : (Jvm.Cond.initialized "java/lang/Math") ∈ jWL := jw_mem 56 (by decide +kernel) (by decide +kernel)
theorem wd98_306 : (Jvm.Cond.static ({ cls := "java/lang/Math", name := "max", desc := "(II)I" } : Jvm.MethodName)) ∈ jWL := jw_mem 306 (by decide +kernel) (by decide +kernel)
theorem wd98_307 : (Jvm.Cond.code ({ cls := "java/lang/Math", name := "max", desc := "(II)I" } : Jvm.MethodName) prog_21_method_65_code (2 : Nat) (Option.some Jvm.ClassFile.FieldType.int)) ∈ jWL := jw_mem 307 (by decide +kernel) (by decide +kernel)
theorem wd98_856 : (Jvm.Cond.methodLink "FamilyOaksLaw" (202 : Nat) ({ cls := "java/lang/Math", name := "max", desc := "(II)I" } : Jvm.MethodName)) ∈ jWL := jw_mem 856 (by decide +kernel) (by decide +kernel)
/-! THE LAW'S PAIRS -/
set_option maxHeartbeats 16000000 in
theorem m_pairs {Ln : Nat} {xs : Nat → Int32} {B : Int} {K : fS} {P : Int → fS} {n : Int} {h : jH} (hC : lC B K P n h) (hn0 : 0 < K 6 0) (hL : Ln ≤ 2048) : jMF mL_pairs Ln xs 9 36020 216200 [300] [.ref 150, .ref 0] h (jRet (iv 1) h) jno := by
  have hn := hC.n
  have hO := hC.O
  have hA := hC.A
  obtain ⟨fs, hO0⟩ := hC.o
  refine j_methodF (by decide +kernel) rfl (Nat.le_of_ble_eq_true rfl) ?_
  generalize hZ : jZ [300] 36020 216200 _ _ = Z
  show J (pMe mL_pairs Ln xs) (jR 9 36020 216200) [300] Z 0 [(0, .ref 150), (1, .ref 0)] [] h 0 0
  refine j_aload_n dL_pairs_0 rfl rfl ?_
  refine j_iconst dL_pairs_1 ?_
  refine j_callV ((l_account hC (w := 0) (by decide)).is acc_0) dL_pairs_2 jc_L_128 jmV_X4_account rfl rfl hO0 rfl rfl (by simp) jfr_nil (Nat.le_of_ble_eq_true rfl) ⟨Nat.le_of_ble_eq_true rfl, Nat.le_of_ble_eq_true rfl⟩ (show 0 + 1 ≤ 36020 ∧ 0 + 6 ≤ 216200 by omega) (fun r h1 hp9 => ?_) (fun E h9 q => q.elim)
  obtain ⟨rfl, rfl⟩ := hp9
  refine j_istore_n (L' := [(0, _), (1, _), (2, _)]) dL_pairs_5 rfl (Nat.le_of_ble_eq_true rfl) rfl ?_
  refine j_iconst dL_pairs_6 ?_
  refine j_istore_n (L' := [(0, _), (1, _), (2, _), (3, _)]) dL_pairs_7 rfl (Nat.le_of_ble_eq_true rfl) rfl ?_
  refine jloop (P := fun z9 : Int × Nat × Nat => J (pMe mL_pairs Ln xs) (jR 9 36020 216200) [300] Z 8 [(0, .ref 150), (1, .ref 0), (2, iv (K 6 0)), (3, iv z9.1)] [] h z9.2.1 z9.2.2) (fun z9 => (0 ≤ z9.1 ∧ z9.1 ≤ 20) ∧ (z9.2.1 : Int) + 1800 * (20 - z9.1) ≤ 36001 ∧ z9.2.2 ≤ 6 * z9.2.1) (fun z9 => (20 - z9.1).toNat) ?_ (0, 0 + 1, 0 + 6) ?_
  · rintro ⟨t, nc8, ns8⟩ hinv8 ih8
    dsimp only at hinv8 ih8 ⊢
    obtain ⟨i1, b1, b2⟩ := hinv8
    refine j_iload_n dL_pairs_8 rfl rfl ?_
    refine j_bipush dL_pairs_9 (by decide +kernel) ?_
    refine j_icmp_ge (tgt := 394) dL_pairs_11 (by decide) (by omega) (fun c11 => ?_) (fun c11 => ?_)
    · refine j_aload_n dL_pairs_394 rfl rfl ?_
      refine j_iconst dL_pairs_395 ?_
      refine j_iload_n dL_pairs_396 rfl rfl ?_
      refine j_iconst dL_pairs_397 ?_
      refine j_callSW (l_commonO hC (p := 0) (o := K 6 0) (d := 0) (by omega) (by omega) (.inr rfl) (by decide)) dL_pairs_398 jc_L_198 jmS_L_common (fun q => by cases q) rfl rfl (by decide) (jfr_of rfl rfl) (Nat.le_of_ble_eq_true rfl) ⟨Nat.le_of_ble_eq_true rfl, Nat.le_of_ble_eq_true rfl⟩ (show nc8 + 3 ≤ 36020 ∧ ns8 + 18 ≤ 216200 by omega) (fun r h2 hp9 => ?_)
      obtain ⟨rfl, rfl⟩ := hp9
      refine j_bipush dL_pairs_401 (by decide +kernel) ?_
      refine j_icmp_ne (tgt := 421) dL_pairs_403 (by decide) (by omega) (fun c403 => (False.elim (by omega))) (fun c403 => ?_)
      refine j_aload_n dL_pairs_406 rfl rfl ?_
      refine j_iload_n dL_pairs_407 rfl rfl ?_
      refine j_iconst dL_pairs_408 ?_
      refine j_callSW (l_degreeO hC (p := K 6 0) (o := 0) (by omega) (by omega) (.inl rfl)) dL_pairs_409 jc_L_200 jmS_L_degree (fun q => by cases q) rfl rfl (by decide) (jfr_of rfl rfl) (Nat.le_of_ble_eq_true rfl) ⟨Nat.le_of_ble_eq_true rfl, Nat.le_of_ble_eq_true rfl⟩ (show nc8 + 3 + 3 ≤ 36020 ∧ ns8 + 18 + 18 ≤ 216200 by omega) (fun r h3 hp9 => ?_)
      obtain ⟨rfl, rfl⟩ := hp9
      refine j_bipush dL_pairs_412 (by decide +kernel) ?_
      refine j_icmp_ne (tgt := 421) dL_pairs_414 (by decide) (by omega) (fun c414 => (False.elim (by omega))) (fun c414 => ?_)
      refine j_iconst dL_pairs_417 ?_
      refine j_goto (tgt := 422) dL_pairs_418 (by decide) ?_
      subst hZ
      exact j_ireturn dL_pairs_422 rfl rfl ⟨rfl, rfl⟩ (show nc8 + 3 + 3 ≤ 36020 by omega) (show ns8 + 18 + 18 ≤ 216200 by omega)
    · refine j_aload_n dL_pairs_14 rfl rfl ?_
      refine j_bipush dL_pairs_15 (by decide +kernel) ?_
      refine j_iload_n dL_pairs_17 rfl rfl ?_
      refine j_iadd dL_pairs_18 ?_
      refine j_callSF (m_cell (i := 46 + t) (by omega) hL) dL_pairs_19 jc_L_124 jmS_L_cell rfl (pNw.of rfl) rfl rfl (by simp) jfr_nil (Nat.le_of_ble_eq_true rfl) ⟨Nat.le_of_ble_eq_true rfl, Nat.le_of_ble_eq_true rfl⟩ (show nc8 + 0 ≤ 36020 ∧ ns8 + 0 ≤ 216200 by omega) (fun r h4 hp9 => ?_) (fun E h9 q => q.elim)
      obtain ⟨rfl, x5, rfl, hx5⟩ := hp9
      refine j_iconst dL_pairs_22 ?_
      refine j_iushr 1 ⟨by decide, by decide⟩ dL_pairs_23 (by decide +kernel) (fun z6 z6a z6b => ?_)
      refine j_istore (L' := [(0, _), (1, _), (2, _), (3, _), (4, _)]) dL_pairs_24 (Nat.le_of_ble_eq_true rfl) rfl ?_
      refine j_iload dL_pairs_26 rfl ?_
      refine j_iload_n dL_pairs_28 rfl rfl ?_
      refine j_rem dL_pairs_29 (by omega) (by omega) (fun m7a m7b => ?_)
      generalize z6 % (K 6 0) = m7 at m7a m7b ⊢
      refine j_istore (L' := [(0, _), (1, _), (2, _), (3, _), (4, _), (5, _)]) dL_pairs_30 (Nat.le_of_ble_eq_true rfl) rfl ?_
      refine j_iload dL_pairs_32 rfl ?_
      refine j_bipush dL_pairs_34 (by decide +kernel) ?_
      refine j_iushr 6 ⟨by decide, by decide⟩ dL_pairs_36 (by decide +kernel) (fun z8 z8a z8b => ?_)
      refine j_iload_n dL_pairs_37 rfl rfl ?_
      refine j_rem dL_pairs_38 (by omega) (by omega) (fun m9a m9b => ?_)
      generalize z8 % (K 6 0) = m9 at m9a m9b ⊢
      refine j_istore (L' := [(0, _), (1, _), (2, _), (3, _), (4, _), (5, _), (6, _)]) dL_pairs_39 (Nat.le_of_ble_eq_true rfl) rfl ?_
      have hp : 0 ≤ m7 ∧ m7 < K 6 0 := by omega
      have hq : 0 ≤ m9 ∧ m9 < K 6 0 := by omega
      generalize m7 = p at hp ⊢
      generalize m9 = q at hq ⊢
      have hpr := frt_r24 hO (p := p) (by omega)
      have hqr := frt_r24 hO (p := q) (by omega)
      refine j_aload_n dL_pairs_41 rfl rfl ?_
      refine j_iload dL_pairs_42 rfl ?_
      refine j_bipush dL_pairs_44 (by decide +kernel) ?_
      refine j_callSW (l_of7 hC (p := p) (by omega)) dL_pairs_46 jc_L_151 jmS_L_of (fun q => by cases q) rfl rfl (by decide) (jfr_of rfl rfl) (Nat.le_of_ble_eq_true rfl) ⟨Nat.le_of_ble_eq_true rfl, Nat.le_of_ble_eq_true rfl⟩ (show nc8 + 0 + 2 ≤ 36020 ∧ ns8 + 0 + 12 ≤ 216200 by omega) (fun r h10 hp9 => ?_)
      obtain ⟨rfl, rfl⟩ := hp9
      refine j_aload_n dL_pairs_49 rfl rfl ?_
      refine j_iload dL_pairs_50 rfl ?_
      refine j_bipush dL_pairs_52 (by decide +kernel) ?_
      refine j_callSW (l_of7 hC (p := q) (by omega)) dL_pairs_54 jc_L_151 jmS_L_of (fun q => by cases q) rfl rfl (by decide) (jfr_of rfl rfl) (Nat.le_of_ble_eq_true rfl) ⟨Nat.le_of_ble_eq_true rfl, Nat.le_of_ble_eq_true rfl⟩ (show nc8 + 0 + 2 + 2 ≤ 36020 ∧ ns8 + 0 + 12 + 12 ≤ 216200 by omega) (fun r h11 hp9 => ?_)
      obtain ⟨rfl, rfl⟩ := hp9
      refine j_icmp_eq (tgt := 103) dL_pairs_57 (by decide) (by omega) (fun c57 => ?_) (fun c57 => ?_)
      · have he : frt K p = frt K q := c57
        refine j_iload dL_pairs_103 rfl ?_
        refine j_istore (L' := [(0, _), (1, _), (2, _), (3, _), (4, _), (5, _), (6, _), (7, _)]) dL_pairs_105 (Nat.le_of_ble_eq_true rfl) rfl ?_
        refine j_iload dL_pairs_107 rfl ?_
        refine j_istore (L' := [(0, _), (1, _), (2, _), (3, _), (4, _), (5, _), (6, _), (7, _), (8, _)]) dL_pairs_109 (Nat.le_of_ble_eq_true rfl) rfl ?_
        refine j_iconst dL_pairs_111 ?_
        refine j_istore (L' := [(0, _), (1, _), (2, _), (3, _), (4, _), (5, _), (6, _), (7, _), (8, _), (9, _)]) dL_pairs_112 (Nat.le_of_ble_eq_true rfl) rfl ?_
        refine J.keep [0, 1, 2, 3, 5, 6, 7, 8, 9] (L' := [(0, _), (1, _), (2, _), (3, _), (5, _), (6, _), (7, _), (8, _), (9, _)]) rfl ?_
        refine jloop (P := fun z9 : Int × Int × Int × Nat × Nat => J (pMe mL_pairs Ln xs) (jR 9 36020 216200) [300] Z 114 [(0, .ref 150), (1, .ref 0), (2, iv (K 6 0)), (3, iv t), (5, iv p), (6, iv q), (7, iv z9.1), (8, iv z9.2.1), (9, iv z9.2.2.1)] [] h z9.2.2.2.1 z9.2.2.2.2) (fun z9 => pSt K p q z9.1 z9.2.1 z9.2.2.1 ∧ (z9.2.2.2.1 : Int) + 16 * (97 - z9.2.2.1) ≤ nc8 + 4 + 1552 ∧ z9.2.2.2.2 ≤ 6 * z9.2.2.2.1) (fun z9 => (97 - z9.2.2.1).toNat) ?_ (p, q, 0, nc8 + 0 + 2 + 2, ns8 + 0 + 12 + 12) ?_
        · rintro ⟨u, o, sx, nc114, ns114⟩ hinv114 ih114
          dsimp only at hinv114 ih114 ⊢
          obtain ⟨k1, b3, b4⟩ := hinv114
          have hu0 := k1.1
          have ho0 := k1.2.1
          have hsb0 := k1.b
          refine j_iload dL_pairs_114 rfl ?_
          refine j_iload dL_pairs_116 rfl ?_
          refine j_icmp_eq (tgt := 230) dL_pairs_118 (by decide) (by omega) (fun c118 => ?_) (fun c118 => ?_)
          · have huo : u = o := c118
            rw [← huo] at k1
            have hup := k1.e hO hA hp.1 hq.1 he
            have hu1 := k1.1
            have hfw : faw K p q = fdep K p + fdep K q - 2 * fdep K (flc K p q) := rfl
            rw [← hup] at hfw
            have hsw := flc_sy hO hA hp.1 hq.1 he
            rw [← hup] at hsw
            have hud := fdep_rg K u
            have hpd := fdep_rg K p
            have hqd := fdep_rg K q
            refine j_iconst dL_pairs_230 ?_
            refine j_istore (L' := [(0, _), (1, _), (2, _), (3, _), (5, _), (6, _), (7, _), (8, _), (9, _), (10, _)]) dL_pairs_231 (Nat.le_of_ble_eq_true rfl) rfl ?_
            refine j_iload dL_pairs_233 rfl ?_
            refine j_istore (L' := [(0, _), (1, _), (2, _), (3, _), (5, _), (6, _), (7, _), (8, _), (9, _), (10, _), (11, _)]) dL_pairs_235 (Nat.le_of_ble_eq_true rfl) rfl ?_
            refine j_iload_n dL_pairs_237 rfl rfl ?_
            refine j_iconst dL_pairs_238 ?_
            refine j_isub dL_pairs_239 ?_
            refine j_istore (L' := [(0, _), (1, _), (2, _), (3, _), (5, _), (6, _), (7, _), (8, _), (9, _), (10, _), (11, _), (12, _)]) dL_pairs_240 (Nat.le_of_ble_eq_true rfl) rfl ?_
            refine J.keep [0, 1, 2, 3, 5, 6, 7, 10, 11, 12] (L' := [(0, _), (1, _), (2, _), (3, _), (5, _), (6, _), (7, _), (10, _), (11, _), (12, _)]) rfl ?_
            refine jloop (P := fun z9 : Int × Int × Int × Nat × Nat => J (pMe mL_pairs Ln xs) (jR 9 36020 216200) [300] Z 242 [(0, .ref 150), (1, .ref 0), (2, iv (K 6 0)), (3, iv t), (5, iv p), (6, iv q), (7, iv u), (10, iv z9.1), (11, iv z9.2.1), (12, iv z9.2.2.1)] [] h z9.2.2.2.1 z9.2.2.2.2) (fun z9 => frB K p z9.2.1 z9.1 z9.2.2.1 ∧ (-1 ≤ z9.2.2.1 ∧ z9.2.2.1 < K 6 0) ∧ (z9.2.2.2.1 : Int) + 3 * (z9.2.2.1 + 1) ≤ nc8 + 4 + 1552 + 72 ∧ z9.2.2.2.2 ≤ 6 * z9.2.2.2.1) (fun z9 => (z9.2.2.1 + 1).toNat) ?_ (0, p, (K 6 0) - 1, nc114, ns114) ?_
            · rintro ⟨m, b, i, nc242, ns242⟩ hinv242 ih242
              dsimp only at hinv242 ih242 ⊢
              obtain ⟨f1, f2, b5, b6⟩ := hinv242
              refine j_iload dL_pairs_242 rfl ?_
              refine j_if_lt (tgt := 293) dL_pairs_244 (by decide) (by omega) (fun c244 => ?_) (fun c244 => ?_)
              · have hbr := f1.1
                refine j_aload_n dL_pairs_293 rfl rfl ?_
                refine j_iload dL_pairs_294 rfl ?_
                refine j_iconst dL_pairs_296 ?_
                refine j_callSW (l_of1 hC (p := p) (by omega)) dL_pairs_297 jc_L_151 jmS_L_of (fun q => by cases q) rfl rfl (by decide) (jfr_of rfl rfl) (Nat.le_of_ble_eq_true rfl) ⟨Nat.le_of_ble_eq_true rfl, Nat.le_of_ble_eq_true rfl⟩ (show nc242 + 2 ≤ 36020 ∧ ns242 + 12 ≤ 216200 by omega) (fun r h12 hp9 => ?_)
                obtain ⟨rfl, rfl⟩ := hp9
                refine j_aload_n dL_pairs_300 rfl rfl ?_
                refine j_iload dL_pairs_301 rfl ?_
                refine j_iconst dL_pairs_303 ?_
                refine j_callSW (l_of1 hC (p := q) (by omega)) dL_pairs_304 jc_L_151 jmS_L_of (fun q => by cases q) rfl rfl (by decide) (jfr_of rfl rfl) (Nat.le_of_ble_eq_true rfl) ⟨Nat.le_of_ble_eq_true rfl, Nat.le_of_ble_eq_true rfl⟩ (show nc242 + 2 + 2 ≤ 36020 ∧ ns242 + 12 + 12 ≤ 216200 by omega) (fun r h13 hp9 => ?_)
                obtain ⟨rfl, rfl⟩ := hp9
                refine j_iadd dL_pairs_307 ?_
                refine j_iconst dL_pairs_308 ?_
                refine j_aload_n dL_pairs_309 rfl rfl ?_
                refine j_iload dL_pairs_310 rfl ?_
                refine j_iconst dL_pairs_312 ?_
                refine j_callSW (l_of1 hC (p := u) (by omega)) dL_pairs_313 jc_L_151 jmS_L_of (fun q => by cases q) rfl rfl (by decide) (jfr_of rfl rfl) (Nat.le_of_ble_eq_true rfl) ⟨Nat.le_of_ble_eq_true rfl, Nat.le_of_ble_eq_true rfl⟩ (show nc242 + 2 + 2 + 2 ≤ 36020 ∧ ns242 + 12 + 12 + 12 ≤ 216200 by omega) (fun r h14 hp9 => ?_)
                obtain ⟨rfl, rfl⟩ := hp9
                refine j_imul dL_pairs_316 ?_
                refine j_isub dL_pairs_317 ?_
                refine j_istore (L' := [(0, _), (1, _), (2, _), (3, _), (5, _), (6, _), (7, _), (10, _), (11, _), (12, _)]) dL_pairs_318 (Nat.le_of_ble_eq_true rfl) rfl ?_
                refine j_aload_n dL_pairs_320 rfl rfl ?_
                refine j_iload dL_pairs_321 rfl ?_
                refine j_iload dL_pairs_323 rfl ?_
                refine j_iconst dL_pairs_325 ?_
                refine j_callSW (l_commonY hC (p := p) (o := q) (d := 0) (by omega) (by omega) (by omega) (by decide)) dL_pairs_326 jc_L_198 jmS_L_common (fun q => by cases q) rfl rfl (by decide) (jfr_of rfl rfl) (Nat.le_of_ble_eq_true rfl) ⟨Nat.le_of_ble_eq_true rfl, Nat.le_of_ble_eq_true rfl⟩ (show nc242 + 2 + 2 + 2 + 3 ≤ 36020 ∧ ns242 + 12 + 12 + 12 + 18 ≤ 216200 by omega) (fun r h15 hp9 => ?_)
                obtain ⟨rfl, rfl⟩ := hp9
                refine j_iload dL_pairs_329 rfl ?_
                refine j_icmp_ne (tgt := 386) dL_pairs_331 (by decide) (by omega) (fun c331 => (False.elim (by omega))) (fun c331 => ?_)
                refine j_aload_n dL_pairs_334 rfl rfl ?_
                refine j_iload dL_pairs_335 rfl ?_
                refine j_iload dL_pairs_337 rfl ?_
                refine j_iconst dL_pairs_339 ?_
                refine j_callSW (l_commonY hC (p := p) (o := q) (d := 1) (by omega) (by omega) (by omega) (by decide)) dL_pairs_340 jc_L_198 jmS_L_common (fun q => by cases q) rfl rfl (by decide) (jfr_of rfl rfl) (Nat.le_of_ble_eq_true rfl) ⟨Nat.le_of_ble_eq_true rfl, Nat.le_of_ble_eq_true rfl⟩ (show nc242 + 2 + 2 + 2 + 3 + 3 ≤ 36020 ∧ ns242 + 12 + 12 + 12 + 18 + 18 ≤ 216200 by omega) (fun r h16 hp9 => ?_)
                obtain ⟨rfl, rfl⟩ := hp9
                refine j_iload dL_pairs_343 rfl ?_
                refine j_icmp_ne (tgt := 386) dL_pairs_345 (by decide) (by omega) (fun c345 => (False.elim (by omega))) (fun c345 => ?_)
                refine j_aload_n dL_pairs_348 rfl rfl ?_
                refine j_iload dL_pairs_349 rfl ?_
                refine j_iload dL_pairs_351 rfl ?_
                refine j_iconst dL_pairs_353 ?_
                refine j_callSW (l_commonY hC (p := q) (o := p) (d := 0) (by omega) (by omega) (by omega) (by decide)) dL_pairs_354 jc_L_198 jmS_L_common (fun q => by cases q) rfl rfl (by decide) (jfr_of rfl rfl) (Nat.le_of_ble_eq_true rfl) ⟨Nat.le_of_ble_eq_true rfl, Nat.le_of_ble_eq_true rfl⟩ (show nc242 + 2 + 2 + 2 + 3 + 3 + 3 ≤ 36020 ∧ ns242 + 12 + 12 + 12 + 18 + 18 + 18 ≤ 216200 by omega) (fun r h17 hp9 => ?_)
                obtain ⟨rfl, rfl⟩ := hp9
                refine j_iload dL_pairs_357 rfl ?_
                refine j_icmp_ne (tgt := 386) dL_pairs_359 (by decide) (by omega) (fun c359 => (False.elim (by omega))) (fun c359 => ?_)
                refine j_aload_n dL_pairs_362 rfl rfl ?_
                refine j_iload dL_pairs_363 rfl ?_
                refine j_iload dL_pairs_365 rfl ?_
                refine j_callSW (l_degreeY hC (p := p) (o := q) (by omega) (by omega) (by omega)) dL_pairs_367 jc_L_200 jmS_L_degree (fun q => by cases q) rfl rfl (by decide) (jfr_of rfl rfl) (Nat.le_of_ble_eq_true rfl) ⟨Nat.le_of_ble_eq_true rfl, Nat.le_of_ble_eq_true rfl⟩ (show nc242 + 2 + 2 + 2 + 3 + 3 + 3 + 3 ≤ 36020 ∧ ns242 + 12 + 12 + 12 + 18 + 18 + 18 + 18 ≤ 216200 by omega) (fun r h18 hp9 => ?_)
                obtain ⟨rfl, rfl⟩ := hp9
                refine j_iload dL_pairs_370 rfl ?_
                refine j_icmp_ne (tgt := 386) dL_pairs_372 (by decide) (by omega) (fun c372 => (False.elim (by omega))) (fun c372 => ?_)
                refine j_aload_n dL_pairs_375 rfl rfl ?_
                refine j_iload dL_pairs_376 rfl ?_
                refine j_callSW (l_farthest hC (p := p) (by omega)) dL_pairs_378 jc_L_194 jmS_L_farthest (fun q => by cases q) rfl rfl (by decide) (jfr_of rfl rfl) (Nat.le_of_ble_eq_true rfl) ⟨Nat.le_of_ble_eq_true rfl, Nat.le_of_ble_eq_true rfl⟩ (show nc242 + 2 + 2 + 2 + 3 + 3 + 3 + 3 + 1 ≤ 36020 ∧ ns242 + 12 + 12 + 12 + 18 + 18 + 18 + 18 + 6 ≤ 216200 by omega) (fun r h19 hp9 => ?_)
                obtain ⟨rfl, fx, rfl, hfx⟩ := hp9
                have hfe := isFar_u hfx (f1.is (by omega))
                refine j_iload dL_pairs_381 rfl ?_
                refine j_icmp_eq (tgt := 388) dL_pairs_383 (by decide) (by omega) (fun c383 => ?_) (fun c383 => (False.elim (by omega)))
                refine j_iinc (L' := [(0, _), (1, _), (2, _), (3, _), (5, _), (6, _), (7, _), (10, _), (11, _), (12, _)]) dL_pairs_388 rfl (Nat.le_of_ble_eq_true rfl) rfl ?_
                refine j_goto (tgt := 8) dL_pairs_391 (by decide) ?_
                refine J.keep [0, 1, 2, 3] (L' := [(0, _), (1, _), (2, _), (3, _)]) rfl ?_
                refine ih8 (t + 1, nc242 + 2 + 2 + 2 + 3 + 3 + 3 + 3 + 1, ns242 + 12 + 12 + 12 + 18 + 18 + 18 + 18 + 6) ?_ ?_
                · dsimp only
                  exact ⟨by omega, by omega, by omega⟩
                · dsimp only
                  omega
              · have f9 : 0 ≤ i ∧ i < K 6 0 := by omega
                have hfr := faw_rg K p i
                have hmr := f1.rg
                obtain ⟨dg, hdg⟩ : ∃ d, d = if frt K p = frt K i then faw K p i else -13 := ⟨_, rfl⟩
                have hdr : -48 ≤ dg ∧ dg ≤ 48 := by rw [hdg]; split <;> omega
                refine j_aload_n dL_pairs_247 rfl rfl ?_
                refine j_iload dL_pairs_248 rfl ?_
                refine j_iload dL_pairs_250 rfl ?_
                refine j_callSW ((l_degreeI hC (p := p) (o := i) (by omega) (by omega)).is (y := dg) hdg.symm) dL_pairs_252 jc_L_200 jmS_L_degree (fun q => by cases q) rfl rfl (by decide) (jfr_of rfl rfl) (Nat.le_of_ble_eq_true rfl) ⟨Nat.le_of_ble_eq_true rfl, Nat.le_of_ble_eq_true rfl⟩ (show nc242 + 3 ≤ 36020 ∧ ns242 + 18 ≤ 216200 by omega) (fun r h20 hp9 => ?_)
                obtain ⟨rfl, rfl⟩ := hp9
                refine j_istore (L' := [(0, _), (1, _), (2, _), (3, _), (5, _), (6, _), (7, _), (10, _), (11, _), (12, _), (13, _)]) dL_pairs_255 (Nat.le_of_ble_eq_true rfl) rfl ?_
                refine j_iload dL_pairs_257 rfl ?_
                refine j_if_le (tgt := 274) dL_pairs_259 (by decide) (by omega) (fun c259 => ?_) (fun c259 => ?_)
                · refine j_iload dL_pairs_274 rfl ?_
                  refine j_istore (L' := [(0, _), (1, _), (2, _), (3, _), (5, _), (6, _), (7, _), (10, _), (11, _), (12, _), (13, _)]) dL_pairs_276 (Nat.le_of_ble_eq_true rfl) rfl ?_
                  refine j_iload dL_pairs_278 rfl ?_
                  refine j_iload dL_pairs_280 rfl ?_
                  refine j_mmax wd98_856 wd98_306 wd98_56 wd98_307 (by omega) dL_pairs_282 (by decide) (show nc242 + 3 ≤ 36020 ∧ ns242 + 18 ≤ 216200 by omega) (Nat.le_of_ble_eq_true rfl) ?_
                  refine j_istore (L' := [(0, _), (1, _), (2, _), (3, _), (5, _), (6, _), (7, _), (10, _), (11, _), (12, _), (13, _)]) dL_pairs_285 (Nat.le_of_ble_eq_true rfl) rfl ?_
                  refine j_iinc (L' := [(0, _), (1, _), (2, _), (3, _), (5, _), (6, _), (7, _), (10, _), (11, _), (12, _), (13, _)]) dL_pairs_287 rfl (Nat.le_of_ble_eq_true rfl) rfl ?_
                  refine j_goto (tgt := 242) dL_pairs_290 (by decide) ?_
                  refine J.keep [0, 1, 2, 3, 5, 6, 7, 10, 11, 12] (L' := [(0, _), (1, _), (2, _), (3, _), (5, _), (6, _), (7, _), (10, _), (11, _), (12, _)]) rfl ?_
                  refine ih242 (max m dg, b, i + (-1), nc242 + 3, ns242 + 18) ?_ ?_
                  · dsimp only
                    exact ⟨f1.n f9 hdg (by omega), by omega, by omega, by omega⟩
                  · dsimp only
                    omega
                · refine j_iload dL_pairs_262 rfl ?_
                  refine j_iload dL_pairs_264 rfl ?_
                  refine j_icmp_lt (tgt := 274) dL_pairs_266 (by decide) (by omega) (fun c266 => ?_) (fun c266 => ?_)
                  · refine j_iload dL_pairs_274 rfl ?_
                    refine j_istore (L' := [(0, _), (1, _), (2, _), (3, _), (5, _), (6, _), (7, _), (10, _), (11, _), (12, _), (13, _)]) dL_pairs_276 (Nat.le_of_ble_eq_true rfl) rfl ?_
                    refine j_iload dL_pairs_278 rfl ?_
                    refine j_iload dL_pairs_280 rfl ?_
                    refine j_mmax wd98_856 wd98_306 wd98_56 wd98_307 (by omega) dL_pairs_282 (by decide) (show nc242 + 3 ≤ 36020 ∧ ns242 + 18 ≤ 216200 by omega) (Nat.le_of_ble_eq_true rfl) ?_
                    refine j_istore (L' := [(0, _), (1, _), (2, _), (3, _), (5, _), (6, _), (7, _), (10, _), (11, _), (12, _), (13, _)]) dL_pairs_285 (Nat.le_of_ble_eq_true rfl) rfl ?_
                    refine j_iinc (L' := [(0, _), (1, _), (2, _), (3, _), (5, _), (6, _), (7, _), (10, _), (11, _), (12, _), (13, _)]) dL_pairs_287 rfl (Nat.le_of_ble_eq_true rfl) rfl ?_
                    refine j_goto (tgt := 242) dL_pairs_290 (by decide) ?_
                    refine J.keep [0, 1, 2, 3, 5, 6, 7, 10, 11, 12] (L' := [(0, _), (1, _), (2, _), (3, _), (5, _), (6, _), (7, _), (10, _), (11, _), (12, _)]) rfl ?_
                    refine ih242 (max m dg, b, i + (-1), nc242 + 3, ns242 + 18) ?_ ?_
                    · dsimp only
                      exact ⟨f1.n f9 hdg (by omega), by omega, by omega, by omega⟩
                    · dsimp only
                      omega
                  · refine j_iload dL_pairs_269 rfl ?_
                    refine j_goto (tgt := 276) dL_pairs_271 (by decide) ?_
                    refine j_istore (L' := [(0, _), (1, _), (2, _), (3, _), (5, _), (6, _), (7, _), (10, _), (11, _), (12, _), (13, _)]) dL_pairs_276 (Nat.le_of_ble_eq_true rfl) rfl ?_
                    refine j_iload dL_pairs_278 rfl ?_
                    refine j_iload dL_pairs_280 rfl ?_
                    refine j_mmax wd98_856 wd98_306 wd98_56 wd98_307 (by omega) dL_pairs_282 (by decide) (show nc242 + 3 ≤ 36020 ∧ ns242 + 18 ≤ 216200 by omega) (Nat.le_of_ble_eq_true rfl) ?_
                    refine j_istore (L' := [(0, _), (1, _), (2, _), (3, _), (5, _), (6, _), (7, _), (10, _), (11, _), (12, _), (13, _)]) dL_pairs_285 (Nat.le_of_ble_eq_true rfl) rfl ?_
                    refine j_iinc (L' := [(0, _), (1, _), (2, _), (3, _), (5, _), (6, _), (7, _), (10, _), (11, _), (12, _), (13, _)]) dL_pairs_287 rfl (Nat.le_of_ble_eq_true rfl) rfl ?_
                    refine j_goto (tgt := 242) dL_pairs_290 (by decide) ?_
                    refine J.keep [0, 1, 2, 3, 5, 6, 7, 10, 11, 12] (L' := [(0, _), (1, _), (2, _), (3, _), (5, _), (6, _), (7, _), (10, _), (11, _), (12, _)]) rfl ?_
                    refine ih242 (max m dg, i, i + (-1), nc242 + 3, ns242 + 18) ?_ ?_
                    · dsimp only
                      exact ⟨f1.y f9 hdg (by omega) (by omega), by omega, by omega, by omega⟩
                    · dsimp only
                      omega
            · dsimp only
              exact ⟨frB.z hp rfl, by omega, by omega, by omega⟩
          · have hu1 := k1.1
            have ho1 := k1.2.1
            have hud := fdep_rg K u
            have hod := fdep_rg K o
            have hsb := k1.b
            refine j_aload_n dL_pairs_121 rfl rfl ?_
            refine j_iload dL_pairs_122 rfl ?_
            refine j_iconst dL_pairs_124 ?_
            refine j_callSW (l_of1 hC (p := u) (by omega)) dL_pairs_125 jc_L_151 jmS_L_of (fun q => by cases q) rfl rfl (by decide) (jfr_of rfl rfl) (Nat.le_of_ble_eq_true rfl) ⟨Nat.le_of_ble_eq_true rfl, Nat.le_of_ble_eq_true rfl⟩ (show nc114 + 2 ≤ 36020 ∧ ns114 + 12 ≤ 216200 by omega) (fun r h21 hp9 => ?_)
            obtain ⟨rfl, rfl⟩ := hp9
            refine j_aload_n dL_pairs_128 rfl rfl ?_
            refine j_iload dL_pairs_129 rfl ?_
            refine j_iconst dL_pairs_131 ?_
            refine j_callSW (l_of1 hC (p := o) (by omega)) dL_pairs_132 jc_L_151 jmS_L_of (fun q => by cases q) rfl rfl (by decide) (jfr_of rfl rfl) (Nat.le_of_ble_eq_true rfl) ⟨Nat.le_of_ble_eq_true rfl, Nat.le_of_ble_eq_true rfl⟩ (show nc114 + 2 + 2 ≤ 36020 ∧ ns114 + 12 + 12 ≤ 216200 by omega) (fun r h22 hp9 => ?_)
            obtain ⟨rfl, rfl⟩ := hp9
            refine j_icmp_le (tgt := 142) dL_pairs_135 (by decide) (by omega) (fun c135 => ?_) (fun c135 => ?_)
            · refine j_iconst dL_pairs_142 ?_
              refine j_istore (L' := [(0, _), (1, _), (2, _), (3, _), (5, _), (6, _), (7, _), (8, _), (9, _), (10, _)]) dL_pairs_143 (Nat.le_of_ble_eq_true rfl) rfl ?_
              refine j_iload dL_pairs_145 rfl ?_
              refine j_if_ne (tgt := 174) dL_pairs_147 (by decide) (by omega) (fun c147 => (False.elim (by omega))) (fun c147 => ?_)
              refine j_aload_n dL_pairs_150 rfl rfl ?_
              refine j_iload dL_pairs_151 rfl ?_
              refine j_iconst dL_pairs_153 ?_
              refine j_callSW (l_of1 hC (p := u) (by omega)) dL_pairs_154 jc_L_151 jmS_L_of (fun q => by cases q) rfl rfl (by decide) (jfr_of rfl rfl) (Nat.le_of_ble_eq_true rfl) ⟨Nat.le_of_ble_eq_true rfl, Nat.le_of_ble_eq_true rfl⟩ (show nc114 + 2 + 2 + 2 ≤ 36020 ∧ ns114 + 12 + 12 + 12 ≤ 216200 by omega) (fun r h23 hp9 => ?_)
              obtain ⟨rfl, rfl⟩ := hp9
              refine j_aload_n dL_pairs_157 rfl rfl ?_
              refine j_iload dL_pairs_158 rfl ?_
              refine j_iconst dL_pairs_160 ?_
              refine j_callSW (l_of1 hC (p := o) (by omega)) dL_pairs_161 jc_L_151 jmS_L_of (fun q => by cases q) rfl rfl (by decide) (jfr_of rfl rfl) (Nat.le_of_ble_eq_true rfl) ⟨Nat.le_of_ble_eq_true rfl, Nat.le_of_ble_eq_true rfl⟩ (show nc114 + 2 + 2 + 2 + 2 ≤ 36020 ∧ ns114 + 12 + 12 + 12 + 12 ≤ 216200 by omega) (fun r h24 hp9 => ?_)
              obtain ⟨rfl, rfl⟩ := hp9
              refine j_icmp_ne (tgt := 184) dL_pairs_164 (by decide) (by omega) (fun c164 => ?_) (fun c164 => ?_)
              · refine j_iload dL_pairs_184 rfl ?_
                refine j_istore (L' := [(0, _), (1, _), (2, _), (3, _), (5, _), (6, _), (7, _), (8, _), (9, _), (10, _)]) dL_pairs_186 (Nat.le_of_ble_eq_true rfl) rfl ?_
                refine j_iload dL_pairs_188 rfl ?_
                refine j_if_ne (tgt := 220) dL_pairs_190 (by decide) (by omega) (fun c190 => (False.elim (by omega))) (fun c190 => ?_)
                refine j_aload_n dL_pairs_193 rfl rfl ?_
                refine j_iload dL_pairs_194 rfl ?_
                refine j_iconst dL_pairs_196 ?_
                refine j_callSW (l_of1 hC (p := o) (by omega)) dL_pairs_197 jc_L_151 jmS_L_of (fun q => by cases q) rfl rfl (by decide) (jfr_of rfl rfl) (Nat.le_of_ble_eq_true rfl) ⟨Nat.le_of_ble_eq_true rfl, Nat.le_of_ble_eq_true rfl⟩ (show nc114 + 2 + 2 + 2 + 2 + 2 ≤ 36020 ∧ ns114 + 12 + 12 + 12 + 12 + 12 ≤ 216200 by omega) (fun r h25 hp9 => ?_)
                obtain ⟨rfl, rfl⟩ := hp9
                refine j_aload_n dL_pairs_200 rfl rfl ?_
                refine j_iload dL_pairs_201 rfl ?_
                refine j_iconst dL_pairs_203 ?_
                refine j_callSW (l_of1 hC (p := u) (by omega)) dL_pairs_204 jc_L_151 jmS_L_of (fun q => by cases q) rfl rfl (by decide) (jfr_of rfl rfl) (Nat.le_of_ble_eq_true rfl) ⟨Nat.le_of_ble_eq_true rfl, Nat.le_of_ble_eq_true rfl⟩ (show nc114 + 2 + 2 + 2 + 2 + 2 + 2 ≤ 36020 ∧ ns114 + 12 + 12 + 12 + 12 + 12 + 12 ≤ 216200 by omega) (fun r h26 hp9 => ?_)
                obtain ⟨rfl, rfl⟩ := hp9
                refine j_icmp_le (tgt := 220) dL_pairs_207 (by decide) (by omega) (fun c207 => ?_) (fun c207 => ?_)
                · refine j_iload dL_pairs_220 rfl ?_
                  refine j_istore (L' := [(0, _), (1, _), (2, _), (3, _), (5, _), (6, _), (7, _), (8, _), (9, _), (10, _)]) dL_pairs_222 (Nat.le_of_ble_eq_true rfl) rfl ?_
                  refine j_iinc (L' := [(0, _), (1, _), (2, _), (3, _), (5, _), (6, _), (7, _), (8, _), (9, _), (10, _)]) dL_pairs_224 rfl (Nat.le_of_ble_eq_true rfl) rfl ?_
                  refine j_goto (tgt := 114) dL_pairs_227 (by decide) ?_
                  refine J.keep [0, 1, 2, 3, 5, 6, 7, 8, 9] (L' := [(0, _), (1, _), (2, _), (3, _), (5, _), (6, _), (7, _), (8, _), (9, _)]) rfl ?_
                  have hb9 := k1.b
                  refine ih114 (u, o, sx + 1, nc114 + 2 + 2 + 2 + 2 + 2 + 2, ns114 + 12 + 12 + 12 + 12 + 12 + 12) ?_ ?_
                  · dsimp only
                    exact ⟨k1.n (by omega), by omega, by omega⟩
                  · dsimp only
                    omega
                · have hpo := (k1.o hO hA (by omega)).2
                  refine j_aload_n dL_pairs_210 rfl rfl ?_
                  refine j_iload dL_pairs_211 rfl ?_
                  refine j_iconst dL_pairs_213 ?_
                  refine j_callSW (l_of0 hC (p := o) (by omega)) dL_pairs_214 jc_L_151 jmS_L_of (fun q => by cases q) rfl rfl (by decide) (jfr_of rfl rfl) (Nat.le_of_ble_eq_true rfl) ⟨Nat.le_of_ble_eq_true rfl, Nat.le_of_ble_eq_true rfl⟩ (show nc114 + 2 + 2 + 2 + 2 + 2 + 2 + 2 ≤ 36020 ∧ ns114 + 12 + 12 + 12 + 12 + 12 + 12 + 12 ≤ 216200 by omega) (fun r h27 hp9 => ?_)
                  obtain ⟨rfl, rfl⟩ := hp9
                  refine j_goto (tgt := 222) dL_pairs_217 (by decide) ?_
                  refine j_istore (L' := [(0, _), (1, _), (2, _), (3, _), (5, _), (6, _), (7, _), (8, _), (9, _), (10, _)]) dL_pairs_222 (Nat.le_of_ble_eq_true rfl) rfl ?_
                  refine j_iinc (L' := [(0, _), (1, _), (2, _), (3, _), (5, _), (6, _), (7, _), (8, _), (9, _), (10, _)]) dL_pairs_224 rfl (Nat.le_of_ble_eq_true rfl) rfl ?_
                  refine j_goto (tgt := 114) dL_pairs_227 (by decide) ?_
                  refine J.keep [0, 1, 2, 3, 5, 6, 7, 8, 9] (L' := [(0, _), (1, _), (2, _), (3, _), (5, _), (6, _), (7, _), (8, _), (9, _)]) rfl ?_
                  have hb9 := k1.b
                  refine ih114 (u, K 0 o, sx + 1, nc114 + 2 + 2 + 2 + 2 + 2 + 2 + 2, ns114 + 12 + 12 + 12 + 12 + 12 + 12 + 12) ?_ ?_
                  · dsimp only
                    exact ⟨(k1.o hO hA (by omega)).1, by omega, by omega⟩
                  · dsimp only
                    omega
              · refine j_iload dL_pairs_167 rfl ?_
                refine j_iconst dL_pairs_169 ?_
                refine j_rem dL_pairs_170 (by omega) (by omega) (fun m28a m28b => ?_)
                refine j_if_ne (tgt := 184) dL_pairs_171 (by decide) (by omega) (fun c171 => ?_) (fun c171 => ?_)
                · refine j_iload dL_pairs_184 rfl ?_
                  refine j_istore (L' := [(0, _), (1, _), (2, _), (3, _), (5, _), (6, _), (7, _), (8, _), (9, _), (10, _)]) dL_pairs_186 (Nat.le_of_ble_eq_true rfl) rfl ?_
                  refine j_iload dL_pairs_188 rfl ?_
                  refine j_if_ne (tgt := 220) dL_pairs_190 (by decide) (by omega) (fun c190 => (False.elim (by omega))) (fun c190 => ?_)
                  refine j_aload_n dL_pairs_193 rfl rfl ?_
                  refine j_iload dL_pairs_194 rfl ?_
                  refine j_iconst dL_pairs_196 ?_
                  refine j_callSW (l_of1 hC (p := o) (by omega)) dL_pairs_197 jc_L_151 jmS_L_of (fun q => by cases q) rfl rfl (by decide) (jfr_of rfl rfl) (Nat.le_of_ble_eq_true rfl) ⟨Nat.le_of_ble_eq_true rfl, Nat.le_of_ble_eq_true rfl⟩ (show nc114 + 2 + 2 + 2 + 2 + 2 ≤ 36020 ∧ ns114 + 12 + 12 + 12 + 12 + 12 ≤ 216200 by omega) (fun r h29 hp9 => ?_)
                  obtain ⟨rfl, rfl⟩ := hp9
                  refine j_aload_n dL_pairs_200 rfl rfl ?_
                  refine j_iload dL_pairs_201 rfl ?_
                  refine j_iconst dL_pairs_203 ?_
                  refine j_callSW (l_of1 hC (p := u) (by omega)) dL_pairs_204 jc_L_151 jmS_L_of (fun q => by cases q) rfl rfl (by decide) (jfr_of rfl rfl) (Nat.le_of_ble_eq_true rfl) ⟨Nat.le_of_ble_eq_true rfl, Nat.le_of_ble_eq_true rfl⟩ (show nc114 + 2 + 2 + 2 + 2 + 2 + 2 ≤ 36020 ∧ ns114 + 12 + 12 + 12 + 12 + 12 + 12 ≤ 216200 by omega) (fun r h30 hp9 => ?_)
                  obtain ⟨rfl, rfl⟩ := hp9
                  refine j_icmp_le (tgt := 220) dL_pairs_207 (by decide) (by omega) (fun c207 => ?_) (fun c207 => ?_)
                  · refine j_iload dL_pairs_220 rfl ?_
                    refine j_istore (L' := [(0, _), (1, _), (2, _), (3, _), (5, _), (6, _), (7, _), (8, _), (9, _), (10, _)]) dL_pairs_222 (Nat.le_of_ble_eq_true rfl) rfl ?_
                    refine j_iinc (L' := [(0, _), (1, _), (2, _), (3, _), (5, _), (6, _), (7, _), (8, _), (9, _), (10, _)]) dL_pairs_224 rfl (Nat.le_of_ble_eq_true rfl) rfl ?_
                    refine j_goto (tgt := 114) dL_pairs_227 (by decide) ?_
                    refine J.keep [0, 1, 2, 3, 5, 6, 7, 8, 9] (L' := [(0, _), (1, _), (2, _), (3, _), (5, _), (6, _), (7, _), (8, _), (9, _)]) rfl ?_
                    have hb9 := k1.b
                    refine ih114 (u, o, sx + 1, nc114 + 2 + 2 + 2 + 2 + 2 + 2, ns114 + 12 + 12 + 12 + 12 + 12 + 12) ?_ ?_
                    · dsimp only
                      exact ⟨k1.n (by omega), by omega, by omega⟩
                    · dsimp only
                      omega
                  · have hpo := (k1.o hO hA (by omega)).2
                    refine j_aload_n dL_pairs_210 rfl rfl ?_
                    refine j_iload dL_pairs_211 rfl ?_
                    refine j_iconst dL_pairs_213 ?_
                    refine j_callSW (l_of0 hC (p := o) (by omega)) dL_pairs_214 jc_L_151 jmS_L_of (fun q => by cases q) rfl rfl (by decide) (jfr_of rfl rfl) (Nat.le_of_ble_eq_true rfl) ⟨Nat.le_of_ble_eq_true rfl, Nat.le_of_ble_eq_true rfl⟩ (show nc114 + 2 + 2 + 2 + 2 + 2 + 2 + 2 ≤ 36020 ∧ ns114 + 12 + 12 + 12 + 12 + 12 + 12 + 12 ≤ 216200 by omega) (fun r h31 hp9 => ?_)
                    obtain ⟨rfl, rfl⟩ := hp9
                    refine j_goto (tgt := 222) dL_pairs_217 (by decide) ?_
                    refine j_istore (L' := [(0, _), (1, _), (2, _), (3, _), (5, _), (6, _), (7, _), (8, _), (9, _), (10, _)]) dL_pairs_222 (Nat.le_of_ble_eq_true rfl) rfl ?_
                    refine j_iinc (L' := [(0, _), (1, _), (2, _), (3, _), (5, _), (6, _), (7, _), (8, _), (9, _), (10, _)]) dL_pairs_224 rfl (Nat.le_of_ble_eq_true rfl) rfl ?_
                    refine j_goto (tgt := 114) dL_pairs_227 (by decide) ?_
                    refine J.keep [0, 1, 2, 3, 5, 6, 7, 8, 9] (L' := [(0, _), (1, _), (2, _), (3, _), (5, _), (6, _), (7, _), (8, _), (9, _)]) rfl ?_
                    have hb9 := k1.b
                    refine ih114 (u, K 0 o, sx + 1, nc114 + 2 + 2 + 2 + 2 + 2 + 2 + 2, ns114 + 12 + 12 + 12 + 12 + 12 + 12 + 12) ?_ ?_
                    · dsimp only
                      exact ⟨(k1.o hO hA (by omega)).1, by omega, by omega⟩
                    · dsimp only
                      omega
                · have hpu := (k1.uo hO hA (by omega) c118).2.2.1
                  have hdu := (k1.uo hO hA (by omega) c118).2.1
                  have hdo9 := (k1.uo hO hA (by omega) c118).2.2.2
                  refine j_aload_n dL_pairs_174 rfl rfl ?_
                  refine j_iload dL_pairs_175 rfl ?_
                  refine j_iconst dL_pairs_177 ?_
                  refine j_callSW (l_of0 hC (p := u) (by omega)) dL_pairs_178 jc_L_151 jmS_L_of (fun q => by cases q) rfl rfl (by decide) (jfr_of rfl rfl) (Nat.le_of_ble_eq_true rfl) ⟨Nat.le_of_ble_eq_true rfl, Nat.le_of_ble_eq_true rfl⟩ (show nc114 + 2 + 2 + 2 + 2 + 2 ≤ 36020 ∧ ns114 + 12 + 12 + 12 + 12 + 12 ≤ 216200 by omega) (fun r h32 hp9 => ?_)
                  obtain ⟨rfl, rfl⟩ := hp9
                  refine j_goto (tgt := 186) dL_pairs_181 (by decide) ?_
                  refine j_istore (L' := [(0, _), (1, _), (2, _), (3, _), (5, _), (6, _), (7, _), (8, _), (9, _), (10, _)]) dL_pairs_186 (Nat.le_of_ble_eq_true rfl) rfl ?_
                  refine j_iload dL_pairs_188 rfl ?_
                  refine j_if_ne (tgt := 220) dL_pairs_190 (by decide) (by omega) (fun c190 => (False.elim (by omega))) (fun c190 => ?_)
                  refine j_aload_n dL_pairs_193 rfl rfl ?_
                  refine j_iload dL_pairs_194 rfl ?_
                  refine j_iconst dL_pairs_196 ?_
                  refine j_callSW (l_of1 hC (p := o) (by omega)) dL_pairs_197 jc_L_151 jmS_L_of (fun q => by cases q) rfl rfl (by decide) (jfr_of rfl rfl) (Nat.le_of_ble_eq_true rfl) ⟨Nat.le_of_ble_eq_true rfl, Nat.le_of_ble_eq_true rfl⟩ (show nc114 + 2 + 2 + 2 + 2 + 2 + 2 ≤ 36020 ∧ ns114 + 12 + 12 + 12 + 12 + 12 + 12 ≤ 216200 by omega) (fun r h33 hp9 => ?_)
                  obtain ⟨rfl, rfl⟩ := hp9
                  refine j_aload_n dL_pairs_200 rfl rfl ?_
                  refine j_iload dL_pairs_201 rfl ?_
                  refine j_iconst dL_pairs_203 ?_
                  refine j_callSW (l_of1 hC (p := K 0 u) (by omega)) dL_pairs_204 jc_L_151 jmS_L_of (fun q => by cases q) rfl rfl (by decide) (jfr_of rfl rfl) (Nat.le_of_ble_eq_true rfl) ⟨Nat.le_of_ble_eq_true rfl, Nat.le_of_ble_eq_true rfl⟩ (show nc114 + 2 + 2 + 2 + 2 + 2 + 2 + 2 ≤ 36020 ∧ ns114 + 12 + 12 + 12 + 12 + 12 + 12 + 12 ≤ 216200 by omega) (fun r h34 hp9 => ?_)
                  obtain ⟨rfl, rfl⟩ := hp9
                  refine j_icmp_le (tgt := 220) dL_pairs_207 (by decide) (by omega) (fun c207 => ?_) (fun c207 => ?_)
                  · refine j_iload dL_pairs_220 rfl ?_
                    refine j_istore (L' := [(0, _), (1, _), (2, _), (3, _), (5, _), (6, _), (7, _), (8, _), (9, _), (10, _)]) dL_pairs_222 (Nat.le_of_ble_eq_true rfl) rfl ?_
                    refine j_iinc (L' := [(0, _), (1, _), (2, _), (3, _), (5, _), (6, _), (7, _), (8, _), (9, _), (10, _)]) dL_pairs_224 rfl (Nat.le_of_ble_eq_true rfl) rfl ?_
                    refine j_goto (tgt := 114) dL_pairs_227 (by decide) ?_
                    refine J.keep [0, 1, 2, 3, 5, 6, 7, 8, 9] (L' := [(0, _), (1, _), (2, _), (3, _), (5, _), (6, _), (7, _), (8, _), (9, _)]) rfl ?_
                    have hb9 := k1.b
                    refine ih114 (K 0 u, o, sx + 1, nc114 + 2 + 2 + 2 + 2 + 2 + 2 + 2, ns114 + 12 + 12 + 12 + 12 + 12 + 12 + 12) ?_ ?_
                    · dsimp only
                      exact ⟨(k1.u hO hA (by omega)).1, by omega, by omega⟩
                    · dsimp only
                      omega
                  · have hpo := hdo9
                    refine j_aload_n dL_pairs_210 rfl rfl ?_
                    refine j_iload dL_pairs_211 rfl ?_
                    refine j_iconst dL_pairs_213 ?_
                    refine j_callSW (l_of0 hC (p := o) (by omega)) dL_pairs_214 jc_L_151 jmS_L_of (fun q => by cases q) rfl rfl (by decide) (jfr_of rfl rfl) (Nat.le_of_ble_eq_true rfl) ⟨Nat.le_of_ble_eq_true rfl, Nat.le_of_ble_eq_true rfl⟩ (show nc114 + 2 + 2 + 2 + 2 + 2 + 2 + 2 + 2 ≤ 36020 ∧ ns114 + 12 + 12 + 12 + 12 + 12 + 12 + 12 + 12 ≤ 216200 by omega) (fun r h35 hp9 => ?_)
                    obtain ⟨rfl, rfl⟩ := hp9
                    refine j_goto (tgt := 222) dL_pairs_217 (by decide) ?_
                    refine j_istore (L' := [(0, _), (1, _), (2, _), (3, _), (5, _), (6, _), (7, _), (8, _), (9, _), (10, _)]) dL_pairs_222 (Nat.le_of_ble_eq_true rfl) rfl ?_
                    refine j_iinc (L' := [(0, _), (1, _), (2, _), (3, _), (5, _), (6, _), (7, _), (8, _), (9, _), (10, _)]) dL_pairs_224 rfl (Nat.le_of_ble_eq_true rfl) rfl ?_
                    refine j_goto (tgt := 114) dL_pairs_227 (by decide) ?_
                    refine J.keep [0, 1, 2, 3, 5, 6, 7, 8, 9] (L' := [(0, _), (1, _), (2, _), (3, _), (5, _), (6, _), (7, _), (8, _), (9, _)]) rfl ?_
                    have hb9 := k1.b
                    refine ih114 (K 0 u, K 0 o, sx + 1, nc114 + 2 + 2 + 2 + 2 + 2 + 2 + 2 + 2, ns114 + 12 + 12 + 12 + 12 + 12 + 12 + 12 + 12) ?_ ?_
                    · dsimp only
                      exact ⟨(k1.uo hO hA (by omega) c118).1, by omega, by omega⟩
                    · dsimp only
                      omega
            · refine j_iconst dL_pairs_138 ?_
              refine j_goto (tgt := 143) dL_pairs_139 (by decide) ?_
              refine j_istore (L' := [(0, _), (1, _), (2, _), (3, _), (5, _), (6, _), (7, _), (8, _), (9, _), (10, _)]) dL_pairs_143 (Nat.le_of_ble_eq_true rfl) rfl ?_
              refine j_iload dL_pairs_145 rfl ?_
              refine j_if_ne (tgt := 174) dL_pairs_147 (by decide) (by omega) (fun c147 => ?_) (fun c147 => (False.elim (by omega)))
              have hpu := (k1.u hO hA (by omega)).2.2
              have hdu := (k1.u hO hA (by omega)).2.1
              have hdo9 := True.intro
              refine j_aload_n dL_pairs_174 rfl rfl ?_
              refine j_iload dL_pairs_175 rfl ?_
              refine j_iconst dL_pairs_177 ?_
              refine j_callSW (l_of0 hC (p := u) (by omega)) dL_pairs_178 jc_L_151 jmS_L_of (fun q => by cases q) rfl rfl (by decide) (jfr_of rfl rfl) (Nat.le_of_ble_eq_true rfl) ⟨Nat.le_of_ble_eq_true rfl, Nat.le_of_ble_eq_true rfl⟩ (show nc114 + 2 + 2 + 2 ≤ 36020 ∧ ns114 + 12 + 12 + 12 ≤ 216200 by omega) (fun r h36 hp9 => ?_)
              obtain ⟨rfl, rfl⟩ := hp9
              refine j_goto (tgt := 186) dL_pairs_181 (by decide) ?_
              refine j_istore (L' := [(0, _), (1, _), (2, _), (3, _), (5, _), (6, _), (7, _), (8, _), (9, _), (10, _)]) dL_pairs_186 (Nat.le_of_ble_eq_true rfl) rfl ?_
              refine j_iload dL_pairs_188 rfl ?_
              refine j_if_ne (tgt := 220) dL_pairs_190 (by decide) (by omega) (fun c190 => ?_) (fun c190 => (False.elim (by omega)))
              refine j_iload dL_pairs_220 rfl ?_
              refine j_istore (L' := [(0, _), (1, _), (2, _), (3, _), (5, _), (6, _), (7, _), (8, _), (9, _), (10, _)]) dL_pairs_222 (Nat.le_of_ble_eq_true rfl) rfl ?_
              refine j_iinc (L' := [(0, _), (1, _), (2, _), (3, _), (5, _), (6, _), (7, _), (8, _), (9, _), (10, _)]) dL_pairs_224 rfl (Nat.le_of_ble_eq_true rfl) rfl ?_
              refine j_goto (tgt := 114) dL_pairs_227 (by decide) ?_
              refine J.keep [0, 1, 2, 3, 5, 6, 7, 8, 9] (L' := [(0, _), (1, _), (2, _), (3, _), (5, _), (6, _), (7, _), (8, _), (9, _)]) rfl ?_
              have hb9 := k1.b
              refine ih114 (K 0 u, o, sx + 1, nc114 + 2 + 2 + 2, ns114 + 12 + 12 + 12) ?_ ?_
              · dsimp only
                exact ⟨(k1.u hO hA (by omega)).1, by omega, by omega⟩
              · dsimp only
                omega
        · dsimp only
          exact ⟨pSt.z hp hq he, by omega, by omega⟩
      · refine j_aload_n dL_pairs_60 rfl rfl ?_
        refine j_iload dL_pairs_61 rfl ?_
        refine j_iload dL_pairs_63 rfl ?_
        refine j_iconst dL_pairs_65 ?_
        refine j_callSW (l_commonN hC (p := p) (o := q) (d := 0) (by omega) (by omega) (by omega) (by decide)) dL_pairs_66 jc_L_198 jmS_L_common (fun q => by cases q) rfl rfl (by decide) (jfr_of rfl rfl) (Nat.le_of_ble_eq_true rfl) ⟨Nat.le_of_ble_eq_true rfl, Nat.le_of_ble_eq_true rfl⟩ (show nc8 + 0 + 2 + 2 + 3 ≤ 36020 ∧ ns8 + 0 + 12 + 12 + 18 ≤ 216200 by omega) (fun r h37 hp9 => ?_)
        obtain ⟨rfl, rfl⟩ := hp9
        refine j_bipush dL_pairs_69 (by decide +kernel) ?_
        refine j_icmp_ne (tgt := 101) dL_pairs_71 (by decide) (by omega) (fun c71 => (False.elim (by omega))) (fun c71 => ?_)
        refine j_aload_n dL_pairs_74 rfl rfl ?_
        refine j_iload dL_pairs_75 rfl ?_
        refine j_iload dL_pairs_77 rfl ?_
        refine j_iconst dL_pairs_79 ?_
        refine j_callSW (l_commonN hC (p := p) (o := q) (d := 1) (by omega) (by omega) (by omega) (by decide)) dL_pairs_80 jc_L_198 jmS_L_common (fun q => by cases q) rfl rfl (by decide) (jfr_of rfl rfl) (Nat.le_of_ble_eq_true rfl) ⟨Nat.le_of_ble_eq_true rfl, Nat.le_of_ble_eq_true rfl⟩ (show nc8 + 0 + 2 + 2 + 3 + 3 ≤ 36020 ∧ ns8 + 0 + 12 + 12 + 18 + 18 ≤ 216200 by omega) (fun r h38 hp9 => ?_)
        obtain ⟨rfl, rfl⟩ := hp9
        refine j_bipush dL_pairs_83 (by decide +kernel) ?_
        refine j_icmp_ne (tgt := 101) dL_pairs_85 (by decide) (by omega) (fun c85 => (False.elim (by omega))) (fun c85 => ?_)
        refine j_aload_n dL_pairs_88 rfl rfl ?_
        refine j_iload dL_pairs_89 rfl ?_
        refine j_iload dL_pairs_91 rfl ?_
        refine j_callSW (l_degreeN hC (p := p) (o := q) (by omega) (by omega) (by omega)) dL_pairs_93 jc_L_200 jmS_L_degree (fun q => by cases q) rfl rfl (by decide) (jfr_of rfl rfl) (Nat.le_of_ble_eq_true rfl) ⟨Nat.le_of_ble_eq_true rfl, Nat.le_of_ble_eq_true rfl⟩ (show nc8 + 0 + 2 + 2 + 3 + 3 + 3 ≤ 36020 ∧ ns8 + 0 + 12 + 12 + 18 + 18 + 18 ≤ 216200 by omega) (fun r h39 hp9 => ?_)
        obtain ⟨rfl, rfl⟩ := hp9
        refine j_bipush dL_pairs_96 (by decide +kernel) ?_
        refine j_icmp_eq (tgt := 388) dL_pairs_98 (by decide) (by omega) (fun c98 => ?_) (fun c98 => (False.elim (by omega)))
        refine j_iinc (L' := [(0, _), (1, _), (2, _), (3, _), (4, _), (5, _), (6, _)]) dL_pairs_388 rfl (Nat.le_of_ble_eq_true rfl) rfl ?_
        refine j_goto (tgt := 8) dL_pairs_391 (by decide) ?_
        refine J.keep [0, 1, 2, 3] (L' := [(0, _), (1, _), (2, _), (3, _)]) rfl ?_
        refine ih8 (t + 1, nc8 + 0 + 2 + 2 + 3 + 3 + 3, ns8 + 0 + 12 + 12 + 18 + 18 + 18) ?_ ?_
        · dsimp only
          exact ⟨by omega, by omega, by omega⟩
        · dsimp only
          omega
  · dsimp only
    exact ⟨by omega, by omega, by omega⟩
