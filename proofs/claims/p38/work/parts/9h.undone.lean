theorem wd9h_53 : (Jvm.Cond.initialized "java/lang/StringBuilder") ∈ jWL := jw_mem 53 (by decide +kernel) (by decide +kernel)
theorem wd9h_193 : (Jvm.Cond.instantiable "java/lang/StringBuilder" (4 : Nat)) ∈ jWL := jw_mem 193 (by decide +kernel) (by decide +kernel)
theorem wd9h_898 : (Jvm.Cond.classLink "FamilyOaksLaw" (211 : Nat) "java/lang/StringBuilder") ∈ jWL := jw_mem 898 (by decide +kernel) (by decide +kernel)
theorem wd9h_1405 : (Jvm.Cond.arrayClass Jvm.ClassFile.FieldType.long) ∈ jWL := jw_mem 1405 (by decide +kernel) (by decide +kernel)
/-! THE LAW'S UNDOING -/
set_option maxHeartbeats 32000000 in
theorem m_undone {Ln : Nat} {xs : Nat → Int32} {B : Int} {K : fS} {P : Int → fS} {n : Int} {h : jH} (hC : lC B K P n h) (hB : B ≤ 50000) (hN : ∀ j, 120 ≤ j → (j < 440 ∨ 488 ≤ j) → h j = none) (hL : Ln ≤ 2048) : jMF mL_undone Ln xs 13 14200 539700 nwU [.ref 150, .ref 0] h (fun r h' => r = some (iv 1)) jno := by
  refine j_methodF (by decide +kernel) rfl (Nat.le_of_ble_eq_true rfl) ?_
  generalize hZ : jZ nwU 14200 539700 _ _ = Z
  show J (pMe mL_undone Ln xs) (jR 13 14200 539700) nwU Z 0 [(0, .ref 150), (1, .ref 0)] [] h 0 0
  refine j_bipush dL_undone_0 (by decide +kernel) ?_
  refine j_newarrayI (t := 4) (k := 500) (n := 9) (by omega) rfl dL_undone_2 rfl (by decide) wd9h_1405 (by omega) (hN 500 (by decide) (by decide)) (by decide) (jfr_of rfl rfl) (show 0 + 1 ≤ 14200 ∧ 0 + 9 ≤ 539700 by omega) ?_
  refine j_astore_n (L' := [(0, _), (1, _), (2, _)]) dL_undone_4 rfl (Nat.le_of_ble_eq_true rfl) rfl ?_
  refine j_iconst dL_undone_5 ?_
  refine j_istore_n (L' := [(0, _), (1, _), (2, _), (3, _)]) dL_undone_6 rfl (Nat.le_of_ble_eq_true rfl) rfl ?_
  refine j_iconst dL_undone_7 ?_
  refine j_istore (L' := [(0, _), (1, _), (2, _), (3, _), (4, _)]) dL_undone_8 (Nat.le_of_ble_eq_true rfl) rfl ?_
  refine jloop (P := fun z9 : Int × Int × (Int → Int) × fS × (Int → fS) × Int × Int × jH × Nat × Nat => J (pMe mL_undone Ln xs) (jR 13 14200 539700) nwU Z 10 [(0, .ref 150), (1, .ref 0), (2, .ref 500), (3, iv z9.2.1), (4, iv z9.1)] [] (jup z9.2.2.2.2.2.2.2.1 500 (jA 4 9 z9.2.2.1)) z9.2.2.2.2.2.2.2.2.1 z9.2.2.2.2.2.2.2.2.2) (fun z9 => (0 ≤ z9.1 ∧ z9.1 ≤ 7) ∧ (0 ≤ z9.2.1 ∧ z9.2.1 ≤ z9.1 ∧ z9.2.1 ≤ z9.2.2.2.2.2.1) ∧ pst z9.2.2.2.2.1 z9.2.2.2.2.2.1 z9.2.1 z9.2.2.1 ∧ lC z9.2.2.2.2.2.2.1 z9.2.2.2.1 z9.2.2.2.2.1 z9.2.2.2.2.2.1 z9.2.2.2.2.2.2.2.1 ∧ z9.2.2.2.2.2.2.1 + 61000 * (7 - z9.1) ≤ 600000 ∧ (∀ j, 120 ≤ j → j ≠ 500 → (j < 440 ∨ (488 ≤ j ∧ (j < 540 ∨ 540 + 2 * z9.1.toNat ≤ j))) → z9.2.2.2.2.2.2.2.1 j = none) ∧ (z9.2.2.2.2.2.2.2.2.1 : Int) + 1400 * (7 - z9.1) ≤ 9801 ∧ z9.2.2.2.2.2.2.2.2.2 ≤ 38 * z9.2.2.2.2.2.2.2.2.1) (fun z9 => (7 - z9.1).toNat) ?_ (0, 0, fun _ => 0, K, P, n, B, h, 0 + 1, 0 + 9) ?_
  · rintro ⟨i, m, S, K, P, n, B, hb, nc10, ns10⟩ hinv10 ih10
    dsimp only at hinv10 ih10 ⊢
    obtain ⟨i1, i2, j3, hbC, i4, hbN, b1, b2⟩ := hinv10
    obtain ⟨fsb, hOb⟩ := hbC.o
    have hn := hbC.n
    refine J.cl fun hclb => ?_
    refine j_iload dL_undone_10 rfl ?_
    refine j_bipush dL_undone_12 (by decide +kernel) ?_
    refine j_icmp_ge (tgt := 469) dL_undone_14 (by decide) (by omega) (fun c14 => ?_) (fun c14 => ?_)
    · refine j_iload_n dL_undone_469 rfl rfl ?_
      refine j_iconst dL_undone_470 ?_
      refine j_isub dL_undone_471 ?_
      refine j_istore (L' := [(0, _), (1, _), (2, _), (3, _), (4, _)]) dL_undone_472 (Nat.le_of_ble_eq_true rfl) rfl ?_
      refine J.keep [1, 2, 4] (L' := [(1, _), (2, _), (4, _)]) rfl ?_
      refine jloop (P := fun z9 : Int × fS × Int × jH × Nat × Nat => J (pMe mL_undone Ln xs) (jR 13 14200 539700) nwU Z 474 [(1, .ref 0), (2, .ref 500), (4, iv z9.1)] [] (jup z9.2.2.2.1 500 (jA 4 9 S)) z9.2.2.2.2.1 z9.2.2.2.2.2) (fun z9 => (-1 ≤ z9.1 ∧ z9.1 ≤ 6 ∧ z9.1 + 1 ≤ z9.2.2.1) ∧ pst P z9.2.2.1 (z9.1 + 1) S ∧ lC B z9.2.1 P z9.2.2.1 z9.2.2.2.1 ∧ (z9.2.2.2.2.1 : Int) + 601 * (z9.1 + 1) ≤ 9801 + 4300 ∧ z9.2.2.2.2.2 ≤ 38 * z9.2.2.2.2.1) (fun z9 => (z9.1 + 1).toNat) ?_ (m - 1, K, n, hb, nc10, ns10) ?_
      · rintro ⟨k, K, n, hb, nc474, ns474⟩ hinv474 ih474
        dsimp only at hinv474 ih474 ⊢
        obtain ⟨q1, q2, hbC, b3, b4⟩ := hinv474
        refine j_iload dL_undone_474 rfl ?_
        refine j_if_lt (tgt := 506) dL_undone_476 (by decide) (by omega) (fun c476 => ?_) (fun c476 => ?_)
        · refine j_iconst dL_undone_506 ?_
          subst hZ
          exact j_ireturn dL_undone_507 rfl rfl rfl (show nc474 ≤ 14200 by omega) (show ns474 ≤ 539700 by omega)
        · have hkt := q2.t (by omega)
          rw [show k + 1 - 1 = k by omega] at hkt
          have hn2 := hbC.nn
          refine j_aload_n dL_undone_479 rfl rfl ?_
          refine j_callSW (l_undo (hbC.up (k := 500) (x := (jA 4 9 S)) (by decide)) (by omega) hkt.1) dL_undone_480 jc_L_282 jmS_L_undo (fun q => by cases q) rfl rfl (by decide) (jfr_of rfl rfl) (Nat.le_of_ble_eq_true rfl) ⟨Nat.le_of_ble_eq_true rfl, Nat.le_of_ble_eq_true rfl⟩ (show nc474 + 1 ≤ 14200 ∧ ns474 + 6 ≤ 539700 by omega) (fun r h1 hp9 => ?_)
          obtain ⟨rfl, hC8, hs8⟩ := hp9
          refine J.heap (h2 := jup h1 500 (jA 4 9 S)) (jup_id ((hs8 500 (by decide)).trans jup_s)) ?_
          refine j_if_lt (tgt := 498) dL_undone_483 (by decide) (by omega) (fun c483 => (False.elim (by omega))) (fun c483 => ?_)
          refine j_aload_n dL_undone_486 rfl rfl ?_
          refine j_callS (m_sum (hC8.up (k := 500) (x := (jA 4 9 S)) (by decide))) dL_undone_487 jc_L_267 jmS_L_sum rfl rfl rfl (by decide) (jfr_of rfl rfl) (Nat.le_of_ble_eq_true rfl) ⟨Nat.le_of_ble_eq_true rfl, Nat.le_of_ble_eq_true rfl⟩ (show nc474 + 1 + 600 ≤ 14200 ∧ ns474 + 6 + 3600 ≤ 539700 by omega) (fun r h2 hp9 => ?_) (fun E h9 q => q.elim)
          obtain ⟨rfl, rfl⟩ := hp9
          refine j_aload_n dL_undone_490 rfl rfl ?_
          refine j_iload dL_undone_491 rfl ?_
          refine j_laload (f := S) dL_undone_493 jup_s (by omega) (by omega) ?_
          rw [hkt.2]
          refine j_lcmpR dL_undone_494 ?_
          refine j_if_eq (tgt := 500) dL_undone_495 (by decide) (by omega) (fun c495 => ?_) (fun c495 => (False.elim (by omega)))
          refine j_iinc (L' := [(1, _), (2, _), (4, _)]) dL_undone_500 rfl (Nat.le_of_ble_eq_true rfl) rfl ?_
          refine j_goto (tgt := 474) dL_undone_503 (by decide) ?_
          refine ih474 (k + (-1), P (n - 1), n - 1, h1, nc474 + 1 + 600, ns474 + 6 + 3600) ?_ ?_
          · dsimp only
            exact ⟨by omega, by rw [show k + (-1) + 1 = k + 1 - 1 by omega]; exact q2.d, hC8, by omega, by omega⟩
          · dsimp only
            omega
      · dsimp only
        exact ⟨by omega, by rw [show m - 1 + 1 = m by omega]; exact j3, hbC, by omega, by omega⟩
    · have hnn := hbC.nn
      refine j_aload_n dL_undone_17 rfl rfl ?_
      refine j_bipush dL_undone_18 (by decide +kernel) ?_
      refine j_iload dL_undone_20 rfl ?_
      refine j_iadd dL_undone_22 ?_
      refine j_callSF (m_cell (i := 66 + i) (by omega) hL) dL_undone_23 jc_L_124 jmS_L_cell rfl (pNw.of rfl) rfl rfl (by simp) jfr_nil (Nat.le_of_ble_eq_true rfl) ⟨Nat.le_of_ble_eq_true rfl, Nat.le_of_ble_eq_true rfl⟩ (show nc10 + 0 ≤ 14200 ∧ ns10 + 0 ≤ 539700 by omega) (fun r h3 hp9 => ?_) (fun E h9 q => q.elim)
      obtain ⟨rfl, x4, rfl, hx4⟩ := hp9
      refine j_iconst dL_undone_26 ?_
      refine j_iushr 1 ⟨by decide, by decide⟩ dL_undone_27 (by decide +kernel) (fun z5 z5a z5b => ?_)
      refine j_istore (L' := [(0, _), (1, _), (2, _), (3, _), (4, _), (5, _)]) dL_undone_28 (Nat.le_of_ble_eq_true rfl) rfl ?_
      refine j_iload dL_undone_30 rfl ?_
      refine j_iconst dL_undone_32 ?_
      refine j_iushr 4 ⟨by decide, by decide⟩ dL_undone_33 (by decide +kernel) (fun z6 z6a z6b => ?_)
      refine j_istore (L' := [(0, _), (1, _), (2, _), (3, _), (4, _), (5, _), (6, _)]) dL_undone_34 (Nat.le_of_ble_eq_true rfl) rfl ?_
      refine j_aload_n dL_undone_36 rfl rfl ?_
      refine j_iconst dL_undone_37 ?_
      refine j_callV ((l_account (hbC.up (k := 500) (x := (jA 4 9 S)) (by decide)) (w := 0) (by decide)).is acc_0) dL_undone_38 jc_L_128 jmV_X4_account rfl rfl (jup_n (by decide) hOb) rfl rfl (by simp) jfr_nil (Nat.le_of_ble_eq_true rfl) ⟨Nat.le_of_ble_eq_true rfl, Nat.le_of_ble_eq_true rfl⟩ (show nc10 + 0 + 1 ≤ 14200 ∧ ns10 + 0 + 6 ≤ 539700 by omega) (fun r h7 hp9 => ?_) (fun E h9 q => q.elim)
      obtain ⟨rfl, rfl⟩ := hp9
      refine j_iconst dL_undone_41 ?_
      refine j_iadd dL_undone_42 ?_
      refine j_istore (L' := [(0, _), (1, _), (2, _), (3, _), (4, _), (5, _), (6, _), (7, _)]) dL_undone_43 (Nat.le_of_ble_eq_true rfl) rfl ?_
      refine j_iload dL_undone_45 rfl ?_
      refine j_iload dL_undone_47 rfl ?_
      refine j_rem dL_undone_49 (by omega) (by omega) (fun m8a m8b => ?_)
      generalize z6 % ((K 6 0) + 1) = m8 at m8a m8b ⊢
      refine j_istore (L' := [(0, _), (1, _), (2, _), (3, _), (4, _), (5, _), (6, _), (7, _), (8, _)]) dL_undone_50 (Nat.le_of_ble_eq_true rfl) rfl ?_
      refine j_iload dL_undone_52 rfl ?_
      refine j_iconst dL_undone_54 ?_
      refine j_iushr 5 ⟨by decide, by decide⟩ dL_undone_55 (by decide +kernel) (fun z9 z9a z9b => ?_)
      refine j_iload dL_undone_56 rfl ?_
      refine j_rem dL_undone_58 (by omega) (by omega) (fun m10a m10b => ?_)
      generalize z9 % ((K 6 0) + 1) = m10 at m10a m10b ⊢
      refine j_istore (L' := [(0, _), (1, _), (2, _), (3, _), (4, _), (5, _), (6, _), (7, _), (8, _), (9, _)]) dL_undone_59 (Nat.le_of_ble_eq_true rfl) rfl ?_
      refine j_aload_n dL_undone_61 rfl rfl ?_
      refine j_iload_n dL_undone_62 rfl rfl ?_
      refine j_aload_n dL_undone_63 rfl rfl ?_
      refine j_callS (m_sum (hbC.up (k := 500) (x := (jA 4 9 S)) (by decide))) dL_undone_64 jc_L_267 jmS_L_sum rfl rfl rfl (by decide) (jfr_of rfl rfl) (Nat.le_of_ble_eq_true rfl) ⟨Nat.le_of_ble_eq_true rfl, Nat.le_of_ble_eq_true rfl⟩ (show nc10 + 0 + 1 + 600 ≤ 14200 ∧ ns10 + 0 + 6 + 3600 ≤ 539700 by omega) (fun r h11 hp9 => ?_) (fun E h9 q => q.elim)
      obtain ⟨rfl, rfl⟩ := hp9
      refine j_lastore (f := S) dL_undone_67 jup_s (by omega) (by omega) ?_
      refine J.heap (h2 := (jup hb 500 (jA 4 9 (jfu S m (sumF K))))) jup_up.symm ?_
      refine j_iload dL_undone_68 rfl ?_
      refine j_bipush dL_undone_70 (by decide +kernel) ?_
      refine j_rem dL_undone_72 (by omega) (by omega) (fun m12a m12b => ?_)
      generalize z5 % 11 = m12 at m12a m12b ⊢
      by_cases c73 : m12 = 0
      · refine j_tabIn (tgt := 124) 0 dL_undone_73 c73 (by decide) (by decide) (by decide) rfl (by decide) ?_
        refine j_aload_n dL_undone_124 rfl rfl ?_
        refine j_callSW (l_found (hbC.up (k := 500) (x := (jA 4 9 (jfu S m (sumF K)))) (by decide))  (by omega)) dL_undone_125 jc_L_131 jmS_L_found (fun q => by cases q) rfl rfl (by decide) (jfr_of rfl rfl) (Nat.le_of_ble_eq_true rfl) ⟨Nat.le_of_ble_eq_true rfl, Nat.le_of_ble_eq_true rfl⟩ (show nc10 + 0 + 1 + 600 + 1 ≤ 14200 ∧ ns10 + 0 + 6 + 3600 + 6 ≤ 539700 by omega) (fun r h13 hp9 => ?_)
        obtain ⟨hs9, hq9⟩ := hp9
        rcases hq9 with ⟨rfl, hr9, hC9⟩ | ⟨k9, E9, rfl, hm9, hE9, hC9⟩
        · have hk6 := kTry_6 (K := K) 0 (-1) (-1)
          have hkn := kTry_ne hbC.1.1 (kd := 0) (a := (-1)) (b := (-1)) (by decide)
          have hk1 := kFound_s (K := K) (a := (-1)) (b := (-1)) hr9.1
          generalize hgq : kTry K 0 (-1) (-1) = q9 at *
          refine J.heap (h2 := jup h13 500 (jA 4 9 (jfu S m (sumF K)))) (jup_id ((hs9 500 (by decide)).trans jup_s)) ?_
          have hz9 : ∀ j, 120 ≤ j → j ≠ 500 → h13 j = hb j := fun j j0 j1 => (hs9 j j0).trans (jup_n j1 rfl)
          refine j_if_lt (tgt := 135) dL_undone_128 (by decide) (by omega) (fun c128 => (False.elim (by omega))) (fun c128 => ?_)
          refine j_iconst dL_undone_131 ?_
          refine j_goto (tgt := 136) dL_undone_132 (by decide) ?_
          refine j_istore (L' := [(0, _), (1, _), (2, _), (3, _), (4, _), (5, _), (6, _), (7, _), (8, _), (9, _), (10, _)]) dL_undone_136 (Nat.le_of_ble_eq_true rfl) rfl ?_
          refine j_goto (tgt := 432) dL_undone_138 (by decide) ?_
          refine j_iload dL_undone_432 rfl ?_
          refine j_if_ne (tgt := 450) dL_undone_434 (by decide) (by omega) (fun c434 => ?_) (fun c434 => (False.elim (by omega)))
          refine j_iload_n dL_undone_450 rfl rfl ?_
          refine j_iload dL_undone_451 rfl ?_
          refine j_if_eq (tgt := 460) dL_undone_453 (by decide) (by omega) (fun c453 => (False.elim (by omega))) (fun c453 => ?_)
          refine j_iconst dL_undone_456 ?_
          refine j_goto (tgt := 461) dL_undone_457 (by decide) ?_
          refine j_iadd dL_undone_461 ?_
          refine j_istore_n (L' := [(0, _), (1, _), (2, _), (3, _), (4, _), (5, _), (6, _), (7, _), (8, _), (9, _), (10, _)]) dL_undone_462 rfl (Nat.le_of_ble_eq_true rfl) rfl ?_
          refine j_iinc (L' := [(0, _), (1, _), (2, _), (3, _), (4, _), (5, _), (6, _), (7, _), (8, _), (9, _), (10, _)]) dL_undone_463 rfl (Nat.le_of_ble_eq_true rfl) rfl ?_
          refine j_goto (tgt := 10) dL_undone_466 (by decide) ?_
          refine J.keep [0, 1, 2, 3, 4] (L' := [(0, _), (1, _), (2, _), (3, _), (4, _)]) rfl ?_
          have hps := (j3.s hbC.1.2 hbC.nn (by omega)).2
          refine ih10 (i + 1, m + 1, (jfu S m (sumF K)), q9.2.2.2, (xP n P K), (xN n), (B + 1000), h13, nc10 + 0 + 1 + 600 + 1, ns10 + 0 + 6 + 3600 + 6) ?_ ?_
          · dsimp only
            exact ⟨by omega, by omega, (j3.s hbC.1.2 hbC.nn (by omega)).1, hC9, by omega, (fun j j0 j1 j2 => (hz9 j j0 j1).trans (hbN j j0 j1 (by omega))), by omega, by omega⟩
          · dsimp only
            omega
        · have hke := en_found hm9
          refine J.heap (h2 := jup h13 500 (jA 4 9 (jfu S m (sumF K)))) (jup_id ((hs9 500 (by decide)).trans jup_s)) ?_
          have hz9 : ∀ j, 120 ≤ j → j ≠ 500 → h13 j = hb j := fun j j0 j1 => (hs9 j j0).trans (jup_n j1 rfl)
          refine j_if_lt (tgt := 135) dL_undone_128 (by decide) (by omega) (fun c128 => ?_) (fun c128 => (False.elim (by omega)))
          refine j_iconst dL_undone_135 ?_
          refine j_istore (L' := [(0, _), (1, _), (2, _), (3, _), (4, _), (5, _), (6, _), (7, _), (8, _), (9, _), (10, _)]) dL_undone_136 (Nat.le_of_ble_eq_true rfl) rfl ?_
          refine j_goto (tgt := 432) dL_undone_138 (by decide) ?_
          refine j_iload dL_undone_432 rfl ?_
          refine j_if_ne (tgt := 450) dL_undone_434 (by decide) (by omega) (fun c434 => (False.elim (by omega))) (fun c434 => ?_)
          refine j_aload_n dL_undone_437 rfl rfl ?_
          refine j_callS (m_sum (hC9.up (k := 500) (x := (jA 4 9 (jfu S m (sumF K)))) (by decide))) dL_undone_438 jc_L_267 jmS_L_sum rfl rfl rfl (by decide) (jfr_of rfl rfl) (Nat.le_of_ble_eq_true rfl) ⟨Nat.le_of_ble_eq_true rfl, Nat.le_of_ble_eq_true rfl⟩ (show nc10 + 0 + 1 + 600 + 1 + 600 ≤ 14200 ∧ ns10 + 0 + 6 + 3600 + 6 + 3600 ≤ 539700 by omega) (fun r h14 hp9 => ?_) (fun E h9 q => q.elim)
          obtain ⟨rfl, rfl⟩ := hp9
          refine j_aload_n dL_undone_441 rfl rfl ?_
          refine j_iload_n dL_undone_442 rfl rfl ?_
          refine j_laload (f := (jfu S m (sumF K))) dL_undone_443 jup_s (by omega) (by omega) ?_
          rw [jfu_s]
          refine j_lcmpR dL_undone_444 ?_
          refine j_if_eq (tgt := 450) dL_undone_445 (by decide) (by omega) (fun c445 => ?_) (fun c445 => (False.elim (by omega)))
          refine j_iload_n dL_undone_450 rfl rfl ?_
          refine j_iload dL_undone_451 rfl ?_
          refine j_if_eq (tgt := 460) dL_undone_453 (by decide) (by omega) (fun c453 => ?_) (fun c453 => (False.elim (by omega)))
          refine j_iconst dL_undone_460 ?_
          refine j_iadd dL_undone_461 ?_
          refine j_istore_n (L' := [(0, _), (1, _), (2, _), (3, _), (4, _), (5, _), (6, _), (7, _), (8, _), (9, _), (10, _)]) dL_undone_462 rfl (Nat.le_of_ble_eq_true rfl) rfl ?_
          refine j_iinc (L' := [(0, _), (1, _), (2, _), (3, _), (4, _), (5, _), (6, _), (7, _), (8, _), (9, _), (10, _)]) dL_undone_463 rfl (Nat.le_of_ble_eq_true rfl) rfl ?_
          refine j_goto (tgt := 10) dL_undone_466 (by decide) ?_
          refine J.keep [0, 1, 2, 3, 4] (L' := [(0, _), (1, _), (2, _), (3, _), (4, _)]) rfl ?_
          refine ih10 (i + 1, m + 0, (jfu S m (sumF K)), K, P, n, (B + 1000), h13, nc10 + 0 + 1 + 600 + 1 + 600, ns10 + 0 + 6 + 3600 + 6 + 3600) ?_ ?_
          · dsimp only
            exact ⟨by omega, by omega, (by rw [show m + 0 = m by omega]; exact j3.f), hC9, by omega, (fun j j0 j1 j2 => (hz9 j j0 j1).trans (hbN j j0 j1 (by omega))), by omega, by omega⟩
          · dsimp only
            omega
      by_cases c73 : m12 = 1
      · refine j_tabIn (tgt := 141) 1 dL_undone_73 c73 (by decide) (by decide) (by decide) rfl (by decide) ?_
        refine j_aload_n dL_undone_141 rfl rfl ?_
        refine j_iload dL_undone_142 rfl ?_
        refine j_callSW (l_born (hbC.up (k := 500) (x := (jA 4 9 (jfu S m (sumF K)))) (by decide)) (p := m8) (by omega) (by omega)) dL_undone_144 jc_L_133 jmS_L_born (fun q => by cases q) rfl rfl (by decide) (jfr_of rfl rfl) (Nat.le_of_ble_eq_true rfl) ⟨Nat.le_of_ble_eq_true rfl, Nat.le_of_ble_eq_true rfl⟩ (show nc10 + 0 + 1 + 600 + 1 ≤ 14200 ∧ ns10 + 0 + 6 + 3600 + 6 ≤ 539700 by omega) (fun r h15 hp9 => ?_)
        obtain ⟨hs9, hq9⟩ := hp9
        rcases hq9 with ⟨rfl, hr9, hC9⟩ | ⟨k9, E9, rfl, hm9, hE9, hC9⟩
        · have hk6 := kTry_6 (K := K) 1 m8 (-1)
          have hkn := kTry_ne hbC.1.1 (kd := 1) (a := m8) (b := (-1)) (by decide)
          generalize hgq : kTry K 1 m8 (-1) = q9 at *
          refine J.heap (h2 := jup h15 500 (jA 4 9 (jfu S m (sumF K)))) (jup_id ((hs9 500 (by decide)).trans jup_s)) ?_
          have hz9 : ∀ j, 120 ≤ j → j ≠ 500 → h15 j = hb j := fun j j0 j1 => (hs9 j j0).trans (jup_n j1 rfl)
          refine j_if_lt (tgt := 154) dL_undone_147 (by decide) (by omega) (fun c147 => (False.elim (by omega))) (fun c147 => ?_)
          refine j_iconst dL_undone_150 ?_
          refine j_goto (tgt := 155) dL_undone_151 (by decide) ?_
          refine j_istore (L' := [(0, _), (1, _), (2, _), (3, _), (4, _), (5, _), (6, _), (7, _), (8, _), (9, _), (10, _)]) dL_undone_155 (Nat.le_of_ble_eq_true rfl) rfl ?_
          refine j_goto (tgt := 432) dL_undone_157 (by decide) ?_
          refine j_iload dL_undone_432 rfl ?_
          refine j_if_ne (tgt := 450) dL_undone_434 (by decide) (by omega) (fun c434 => ?_) (fun c434 => (False.elim (by omega)))
          refine j_iload_n dL_undone_450 rfl rfl ?_
          refine j_iload dL_undone_451 rfl ?_
          refine j_if_eq (tgt := 460) dL_undone_453 (by decide) (by omega) (fun c453 => (False.elim (by omega))) (fun c453 => ?_)
          refine j_iconst dL_undone_456 ?_
          refine j_goto (tgt := 461) dL_undone_457 (by decide) ?_
          refine j_iadd dL_undone_461 ?_
          refine j_istore_n (L' := [(0, _), (1, _), (2, _), (3, _), (4, _), (5, _), (6, _), (7, _), (8, _), (9, _), (10, _)]) dL_undone_462 rfl (Nat.le_of_ble_eq_true rfl) rfl ?_
          refine j_iinc (L' := [(0, _), (1, _), (2, _), (3, _), (4, _), (5, _), (6, _), (7, _), (8, _), (9, _), (10, _)]) dL_undone_463 rfl (Nat.le_of_ble_eq_true rfl) rfl ?_
          refine j_goto (tgt := 10) dL_undone_466 (by decide) ?_
          refine J.keep [0, 1, 2, 3, 4] (L' := [(0, _), (1, _), (2, _), (3, _), (4, _)]) rfl ?_
          have hps := (j3.s hbC.1.2 hbC.nn (by omega)).2
          refine ih10 (i + 1, m + 1, (jfu S m (sumF K)), q9.2.2.2, (xP n P K), (xN n), (B + 1000), h15, nc10 + 0 + 1 + 600 + 1, ns10 + 0 + 6 + 3600 + 6) ?_ ?_
          · dsimp only
            exact ⟨by omega, by omega, (j3.s hbC.1.2 hbC.nn (by omega)).1, hC9, by omega, (fun j j0 j1 j2 => (hz9 j j0 j1).trans (hbN j j0 j1 (by omega))), by omega, by omega⟩
          · dsimp only
            omega
        · have hke := en_2 hm9
          refine J.heap (h2 := jup h15 500 (jA 4 9 (jfu S m (sumF K)))) (jup_id ((hs9 500 (by decide)).trans jup_s)) ?_
          have hz9 : ∀ j, 120 ≤ j → j ≠ 500 → h15 j = hb j := fun j j0 j1 => (hs9 j j0).trans (jup_n j1 rfl)
          refine j_if_lt (tgt := 154) dL_undone_147 (by decide) (by omega) (fun c147 => ?_) (fun c147 => (False.elim (by omega)))
          refine j_iconst dL_undone_154 ?_
          refine j_istore (L' := [(0, _), (1, _), (2, _), (3, _), (4, _), (5, _), (6, _), (7, _), (8, _), (9, _), (10, _)]) dL_undone_155 (Nat.le_of_ble_eq_true rfl) rfl ?_
          refine j_goto (tgt := 432) dL_undone_157 (by decide) ?_
          refine j_iload dL_undone_432 rfl ?_
          refine j_if_ne (tgt := 450) dL_undone_434 (by decide) (by omega) (fun c434 => (False.elim (by omega))) (fun c434 => ?_)
          refine j_aload_n dL_undone_437 rfl rfl ?_
          refine j_callS (m_sum (hC9.up (k := 500) (x := (jA 4 9 (jfu S m (sumF K)))) (by decide))) dL_undone_438 jc_L_267 jmS_L_sum rfl rfl rfl (by decide) (jfr_of rfl rfl) (Nat.le_of_ble_eq_true rfl) ⟨Nat.le_of_ble_eq_true rfl, Nat.le_of_ble_eq_true rfl⟩ (show nc10 + 0 + 1 + 600 + 1 + 600 ≤ 14200 ∧ ns10 + 0 + 6 + 3600 + 6 + 3600 ≤ 539700 by omega) (fun r h16 hp9 => ?_) (fun E h9 q => q.elim)
          obtain ⟨rfl, rfl⟩ := hp9
          refine j_aload_n dL_undone_441 rfl rfl ?_
          refine j_iload_n dL_undone_442 rfl rfl ?_
          refine j_laload (f := (jfu S m (sumF K))) dL_undone_443 jup_s (by omega) (by omega) ?_
          rw [jfu_s]
          refine j_lcmpR dL_undone_444 ?_
          refine j_if_eq (tgt := 450) dL_undone_445 (by decide) (by omega) (fun c445 => ?_) (fun c445 => (False.elim (by omega)))
          refine j_iload_n dL_undone_450 rfl rfl ?_
          refine j_iload dL_undone_451 rfl ?_
          refine j_if_eq (tgt := 460) dL_undone_453 (by decide) (by omega) (fun c453 => ?_) (fun c453 => (False.elim (by omega)))
          refine j_iconst dL_undone_460 ?_
          refine j_iadd dL_undone_461 ?_
          refine j_istore_n (L' := [(0, _), (1, _), (2, _), (3, _), (4, _), (5, _), (6, _), (7, _), (8, _), (9, _), (10, _)]) dL_undone_462 rfl (Nat.le_of_ble_eq_true rfl) rfl ?_
          refine j_iinc (L' := [(0, _), (1, _), (2, _), (3, _), (4, _), (5, _), (6, _), (7, _), (8, _), (9, _), (10, _)]) dL_undone_463 rfl (Nat.le_of_ble_eq_true rfl) rfl ?_
          refine j_goto (tgt := 10) dL_undone_466 (by decide) ?_
          refine J.keep [0, 1, 2, 3, 4] (L' := [(0, _), (1, _), (2, _), (3, _), (4, _)]) rfl ?_
          refine ih10 (i + 1, m + 0, (jfu S m (sumF K)), K, P, n, (B + 1000), h15, nc10 + 0 + 1 + 600 + 1 + 600, ns10 + 0 + 6 + 3600 + 6 + 3600) ?_ ?_
          · dsimp only
            exact ⟨by omega, by omega, (by rw [show m + 0 = m by omega]; exact j3.f), hC9, by omega, (fun j j0 j1 j2 => (hz9 j j0 j1).trans (hbN j j0 j1 (by omega))), by omega, by omega⟩
          · dsimp only
            omega
      by_cases c73 : m12 = 2
      · refine j_tabIn (tgt := 160) 2 dL_undone_73 c73 (by decide) (by decide) (by decide) rfl (by decide) ?_
        refine j_aload_n dL_undone_160 rfl rfl ?_
        refine j_iload dL_undone_161 rfl ?_
        refine j_iload dL_undone_163 rfl ?_
        refine j_callSW (l_graft (hbC.up (k := 500) (x := (jA 4 9 (jfu S m (sumF K)))) (by decide)) (p := m8) (o := m10) (by omega) (by omega) (by omega)) dL_undone_165 jc_L_136 jmS_L_graft (fun q => by cases q) rfl rfl (by decide) (jfr_of rfl rfl) (Nat.le_of_ble_eq_true rfl) ⟨Nat.le_of_ble_eq_true rfl, Nat.le_of_ble_eq_true rfl⟩ (show nc10 + 0 + 1 + 600 + 1 ≤ 14200 ∧ ns10 + 0 + 6 + 3600 + 6 ≤ 539700 by omega) (fun r h17 hp9 => ?_)
        obtain ⟨hs9, hq9⟩ := hp9
        rcases hq9 with ⟨rfl, hr9, hC9⟩ | ⟨k9, E9, rfl, hm9, hE9, hC9⟩
        · have hk6 := kTry_6 (K := K) 2 m8 m10
          have hkn := kTry_ne hbC.1.1 (kd := 2) (a := m8) (b := m10) (by decide)
          generalize hgq : kTry K 2 m8 m10 = q9 at *
          refine J.heap (h2 := jup h17 500 (jA 4 9 (jfu S m (sumF K)))) (jup_id ((hs9 500 (by decide)).trans jup_s)) ?_
          have hz9 : ∀ j, 120 ≤ j → j ≠ 500 → h17 j = hb j := fun j j0 j1 => (hs9 j j0).trans (jup_n j1 rfl)
          refine j_if_lt (tgt := 175) dL_undone_168 (by decide) (by omega) (fun c168 => (False.elim (by omega))) (fun c168 => ?_)
          refine j_iconst dL_undone_171 ?_
          refine j_goto (tgt := 176) dL_undone_172 (by decide) ?_
          refine j_istore (L' := [(0, _), (1, _), (2, _), (3, _), (4, _), (5, _), (6, _), (7, _), (8, _), (9, _), (10, _)]) dL_undone_176 (Nat.le_of_ble_eq_true rfl) rfl ?_
          refine j_goto (tgt := 432) dL_undone_178 (by decide) ?_
          refine j_iload dL_undone_432 rfl ?_
          refine j_if_ne (tgt := 450) dL_undone_434 (by decide) (by omega) (fun c434 => ?_) (fun c434 => (False.elim (by omega)))
          refine j_iload_n dL_undone_450 rfl rfl ?_
          refine j_iload dL_undone_451 rfl ?_
          refine j_if_eq (tgt := 460) dL_undone_453 (by decide) (by omega) (fun c453 => (False.elim (by omega))) (fun c453 => ?_)
          refine j_iconst dL_undone_456 ?_
          refine j_goto (tgt := 461) dL_undone_457 (by decide) ?_
          refine j_iadd dL_undone_461 ?_
          refine j_istore_n (L' := [(0, _), (1, _), (2, _), (3, _), (4, _), (5, _), (6, _), (7, _), (8, _), (9, _), (10, _)]) dL_undone_462 rfl (Nat.le_of_ble_eq_true rfl) rfl ?_
          refine j_iinc (L' := [(0, _), (1, _), (2, _), (3, _), (4, _), (5, _), (6, _), (7, _), (8, _), (9, _), (10, _)]) dL_undone_463 rfl (Nat.le_of_ble_eq_true rfl) rfl ?_
          refine j_goto (tgt := 10) dL_undone_466 (by decide) ?_
          refine J.keep [0, 1, 2, 3, 4] (L' := [(0, _), (1, _), (2, _), (3, _), (4, _)]) rfl ?_
          have hps := (j3.s hbC.1.2 hbC.nn (by omega)).2
          refine ih10 (i + 1, m + 1, (jfu S m (sumF K)), q9.2.2.2, (xP n P K), (xN n), (B + 1000), h17, nc10 + 0 + 1 + 600 + 1, ns10 + 0 + 6 + 3600 + 6) ?_ ?_
          · dsimp only
            exact ⟨by omega, by omega, (j3.s hbC.1.2 hbC.nn (by omega)).1, hC9, by omega, (fun j j0 j1 j2 => (hz9 j j0 j1).trans (hbN j j0 j1 (by omega))), by omega, by omega⟩
          · dsimp only
            omega
        · have hke := en_2 hm9
          refine J.heap (h2 := jup h17 500 (jA 4 9 (jfu S m (sumF K)))) (jup_id ((hs9 500 (by decide)).trans jup_s)) ?_
          have hz9 : ∀ j, 120 ≤ j → j ≠ 500 → h17 j = hb j := fun j j0 j1 => (hs9 j j0).trans (jup_n j1 rfl)
          refine j_if_lt (tgt := 175) dL_undone_168 (by decide) (by omega) (fun c168 => ?_) (fun c168 => (False.elim (by omega)))
          refine j_iconst dL_undone_175 ?_
          refine j_istore (L' := [(0, _), (1, _), (2, _), (3, _), (4, _), (5, _), (6, _), (7, _), (8, _), (9, _), (10, _)]) dL_undone_176 (Nat.le_of_ble_eq_true rfl) rfl ?_
          refine j_goto (tgt := 432) dL_undone_178 (by decide) ?_
          refine j_iload dL_undone_432 rfl ?_
          refine j_if_ne (tgt := 450) dL_undone_434 (by decide) (by omega) (fun c434 => (False.elim (by omega))) (fun c434 => ?_)
          refine j_aload_n dL_undone_437 rfl rfl ?_
          refine j_callS (m_sum (hC9.up (k := 500) (x := (jA 4 9 (jfu S m (sumF K)))) (by decide))) dL_undone_438 jc_L_267 jmS_L_sum rfl rfl rfl (by decide) (jfr_of rfl rfl) (Nat.le_of_ble_eq_true rfl) ⟨Nat.le_of_ble_eq_true rfl, Nat.le_of_ble_eq_true rfl⟩ (show nc10 + 0 + 1 + 600 + 1 + 600 ≤ 14200 ∧ ns10 + 0 + 6 + 3600 + 6 + 3600 ≤ 539700 by omega) (fun r h18 hp9 => ?_) (fun E h9 q => q.elim)
          obtain ⟨rfl, rfl⟩ := hp9
          refine j_aload_n dL_undone_441 rfl rfl ?_
          refine j_iload_n dL_undone_442 rfl rfl ?_
          refine j_laload (f := (jfu S m (sumF K))) dL_undone_443 jup_s (by omega) (by omega) ?_
          rw [jfu_s]
          refine j_lcmpR dL_undone_444 ?_
          refine j_if_eq (tgt := 450) dL_undone_445 (by decide) (by omega) (fun c445 => ?_) (fun c445 => (False.elim (by omega)))
          refine j_iload_n dL_undone_450 rfl rfl ?_
          refine j_iload dL_undone_451 rfl ?_
          refine j_if_eq (tgt := 460) dL_undone_453 (by decide) (by omega) (fun c453 => ?_) (fun c453 => (False.elim (by omega)))
          refine j_iconst dL_undone_460 ?_
          refine j_iadd dL_undone_461 ?_
          refine j_istore_n (L' := [(0, _), (1, _), (2, _), (3, _), (4, _), (5, _), (6, _), (7, _), (8, _), (9, _), (10, _)]) dL_undone_462 rfl (Nat.le_of_ble_eq_true rfl) rfl ?_
          refine j_iinc (L' := [(0, _), (1, _), (2, _), (3, _), (4, _), (5, _), (6, _), (7, _), (8, _), (9, _), (10, _)]) dL_undone_463 rfl (Nat.le_of_ble_eq_true rfl) rfl ?_
          refine j_goto (tgt := 10) dL_undone_466 (by decide) ?_
          refine J.keep [0, 1, 2, 3, 4] (L' := [(0, _), (1, _), (2, _), (3, _), (4, _)]) rfl ?_
          refine ih10 (i + 1, m + 0, (jfu S m (sumF K)), K, P, n, (B + 1000), h17, nc10 + 0 + 1 + 600 + 1 + 600, ns10 + 0 + 6 + 3600 + 6 + 3600) ?_ ?_
          · dsimp only
            exact ⟨by omega, by omega, (by rw [show m + 0 = m by omega]; exact j3.f), hC9, by omega, (fun j j0 j1 j2 => (hz9 j j0 j1).trans (hbN j j0 j1 (by omega))), by omega, by omega⟩
          · dsimp only
            omega
      by_cases c73 : m12 = 3
      · refine j_tabIn (tgt := 181) 3 dL_undone_73 c73 (by decide) (by decide) (by decide) rfl (by decide) ?_
        refine j_aload_n dL_undone_181 rfl rfl ?_
        refine j_iload dL_undone_182 rfl ?_
        refine j_callSW (l_cut (hbC.up (k := 500) (x := (jA 4 9 (jfu S m (sumF K)))) (by decide)) (p := m8) (by omega) (by omega)) dL_undone_184 jc_L_139 jmS_L_cut (fun q => by cases q) rfl rfl (by decide) (jfr_of rfl rfl) (Nat.le_of_ble_eq_true rfl) ⟨Nat.le_of_ble_eq_true rfl, Nat.le_of_ble_eq_true rfl⟩ (show nc10 + 0 + 1 + 600 + 1 ≤ 14200 ∧ ns10 + 0 + 6 + 3600 + 6 ≤ 539700 by omega) (fun r h19 hp9 => ?_)
        obtain ⟨hs9, hq9⟩ := hp9
        rcases hq9 with ⟨rfl, hr9, hC9⟩ | ⟨k9, E9, rfl, hm9, hE9, hC9⟩
        · have hk6 := kTry_6 (K := K) 3 m8 (-1)
          have hkn := kTry_ne hbC.1.1 (kd := 3) (a := m8) (b := (-1)) (by decide)
          generalize hgq : kTry K 3 m8 (-1) = q9 at *
          refine J.heap (h2 := jup h19 500 (jA 4 9 (jfu S m (sumF K)))) (jup_id ((hs9 500 (by decide)).trans jup_s)) ?_
          have hz9 : ∀ j, 120 ≤ j → j ≠ 500 → h19 j = hb j := fun j j0 j1 => (hs9 j j0).trans (jup_n j1 rfl)
          refine j_if_lt (tgt := 194) dL_undone_187 (by decide) (by omega) (fun c187 => (False.elim (by omega))) (fun c187 => ?_)
          refine j_iconst dL_undone_190 ?_
          refine j_goto (tgt := 195) dL_undone_191 (by decide) ?_
          refine j_istore (L' := [(0, _), (1, _), (2, _), (3, _), (4, _), (5, _), (6, _), (7, _), (8, _), (9, _), (10, _)]) dL_undone_195 (Nat.le_of_ble_eq_true rfl) rfl ?_
          refine j_goto (tgt := 432) dL_undone_197 (by decide) ?_
          refine j_iload dL_undone_432 rfl ?_
          refine j_if_ne (tgt := 450) dL_undone_434 (by decide) (by omega) (fun c434 => ?_) (fun c434 => (False.elim (by omega)))
          refine j_iload_n dL_undone_450 rfl rfl ?_
          refine j_iload dL_undone_451 rfl ?_
          refine j_if_eq (tgt := 460) dL_undone_453 (by decide) (by omega) (fun c453 => (False.elim (by omega))) (fun c453 => ?_)
          refine j_iconst dL_undone_456 ?_
          refine j_goto (tgt := 461) dL_undone_457 (by decide) ?_
          refine j_iadd dL_undone_461 ?_
          refine j_istore_n (L' := [(0, _), (1, _), (2, _), (3, _), (4, _), (5, _), (6, _), (7, _), (8, _), (9, _), (10, _)]) dL_undone_462 rfl (Nat.le_of_ble_eq_true rfl) rfl ?_
          refine j_iinc (L' := [(0, _), (1, _), (2, _), (3, _), (4, _), (5, _), (6, _), (7, _), (8, _), (9, _), (10, _)]) dL_undone_463 rfl (Nat.le_of_ble_eq_true rfl) rfl ?_
          refine j_goto (tgt := 10) dL_undone_466 (by decide) ?_
          refine J.keep [0, 1, 2, 3, 4] (L' := [(0, _), (1, _), (2, _), (3, _), (4, _)]) rfl ?_
          have hps := (j3.s hbC.1.2 hbC.nn (by omega)).2
          refine ih10 (i + 1, m + 1, (jfu S m (sumF K)), q9.2.2.2, (xP n P K), (xN n), (B + 1000), h19, nc10 + 0 + 1 + 600 + 1, ns10 + 0 + 6 + 3600 + 6) ?_ ?_
          · dsimp only
            exact ⟨by omega, by omega, (j3.s hbC.1.2 hbC.nn (by omega)).1, hC9, by omega, (fun j j0 j1 j2 => (hz9 j j0 j1).trans (hbN j j0 j1 (by omega))), by omega, by omega⟩
          · dsimp only
            omega
        · have hke := en_2 hm9
          refine J.heap (h2 := jup h19 500 (jA 4 9 (jfu S m (sumF K)))) (jup_id ((hs9 500 (by decide)).trans jup_s)) ?_
          have hz9 : ∀ j, 120 ≤ j → j ≠ 500 → h19 j = hb j := fun j j0 j1 => (hs9 j j0).trans (jup_n j1 rfl)
          refine j_if_lt (tgt := 194) dL_undone_187 (by decide) (by omega) (fun c187 => ?_) (fun c187 => (False.elim (by omega)))
          refine j_iconst dL_undone_194 ?_
          refine j_istore (L' := [(0, _), (1, _), (2, _), (3, _), (4, _), (5, _), (6, _), (7, _), (8, _), (9, _), (10, _)]) dL_undone_195 (Nat.le_of_ble_eq_true rfl) rfl ?_
          refine j_goto (tgt := 432) dL_undone_197 (by decide) ?_
          refine j_iload dL_undone_432 rfl ?_
          refine j_if_ne (tgt := 450) dL_undone_434 (by decide) (by omega) (fun c434 => (False.elim (by omega))) (fun c434 => ?_)
          refine j_aload_n dL_undone_437 rfl rfl ?_
          refine j_callS (m_sum (hC9.up (k := 500) (x := (jA 4 9 (jfu S m (sumF K)))) (by decide))) dL_undone_438 jc_L_267 jmS_L_sum rfl rfl rfl (by decide) (jfr_of rfl rfl) (Nat.le_of_ble_eq_true rfl) ⟨Nat.le_of_ble_eq_true rfl, Nat.le_of_ble_eq_true rfl⟩ (show nc10 + 0 + 1 + 600 + 1 + 600 ≤ 14200 ∧ ns10 + 0 + 6 + 3600 + 6 + 3600 ≤ 539700 by omega) (fun r h20 hp9 => ?_) (fun E h9 q => q.elim)
          obtain ⟨rfl, rfl⟩ := hp9
          refine j_aload_n dL_undone_441 rfl rfl ?_
          refine j_iload_n dL_undone_442 rfl rfl ?_
          refine j_laload (f := (jfu S m (sumF K))) dL_undone_443 jup_s (by omega) (by omega) ?_
          rw [jfu_s]
          refine j_lcmpR dL_undone_444 ?_
          refine j_if_eq (tgt := 450) dL_undone_445 (by decide) (by omega) (fun c445 => ?_) (fun c445 => (False.elim (by omega)))
          refine j_iload_n dL_undone_450 rfl rfl ?_
          refine j_iload dL_undone_451 rfl ?_
          refine j_if_eq (tgt := 460) dL_undone_453 (by decide) (by omega) (fun c453 => ?_) (fun c453 => (False.elim (by omega)))
          refine j_iconst dL_undone_460 ?_
          refine j_iadd dL_undone_461 ?_
          refine j_istore_n (L' := [(0, _), (1, _), (2, _), (3, _), (4, _), (5, _), (6, _), (7, _), (8, _), (9, _), (10, _)]) dL_undone_462 rfl (Nat.le_of_ble_eq_true rfl) rfl ?_
          refine j_iinc (L' := [(0, _), (1, _), (2, _), (3, _), (4, _), (5, _), (6, _), (7, _), (8, _), (9, _), (10, _)]) dL_undone_463 rfl (Nat.le_of_ble_eq_true rfl) rfl ?_
          refine j_goto (tgt := 10) dL_undone_466 (by decide) ?_
          refine J.keep [0, 1, 2, 3, 4] (L' := [(0, _), (1, _), (2, _), (3, _), (4, _)]) rfl ?_
          refine ih10 (i + 1, m + 0, (jfu S m (sumF K)), K, P, n, (B + 1000), h19, nc10 + 0 + 1 + 600 + 1 + 600, ns10 + 0 + 6 + 3600 + 6 + 3600) ?_ ?_
          · dsimp only
            exact ⟨by omega, by omega, (by rw [show m + 0 = m by omega]; exact j3.f), hC9, by omega, (fun j j0 j1 j2 => (hz9 j j0 j1).trans (hbN j j0 j1 (by omega))), by omega, by omega⟩
          · dsimp only
            omega
      by_cases c73 : m12 = 4
      · refine j_tabIn (tgt := 200) 4 dL_undone_73 c73 (by decide) (by decide) (by decide) rfl (by decide) ?_
        refine j_aload_n dL_undone_200 rfl rfl ?_
        refine j_iload dL_undone_201 rfl ?_
        refine j_iload dL_undone_203 rfl ?_
        refine j_callSW (l_marry (hbC.up (k := 500) (x := (jA 4 9 (jfu S m (sumF K)))) (by decide)) (p := m8) (o := m10) (by omega) (by omega) (by omega)) dL_undone_205 jc_L_141 jmS_L_marry (fun q => by cases q) rfl rfl (by decide) (jfr_of rfl rfl) (Nat.le_of_ble_eq_true rfl) ⟨Nat.le_of_ble_eq_true rfl, Nat.le_of_ble_eq_true rfl⟩ (show nc10 + 0 + 1 + 600 + 1 ≤ 14200 ∧ ns10 + 0 + 6 + 3600 + 6 ≤ 539700 by omega) (fun r h21 hp9 => ?_)
        obtain ⟨hs9, hq9⟩ := hp9
        rcases hq9 with ⟨rfl, hr9, hC9⟩ | ⟨k9, E9, rfl, hm9, hE9, hC9⟩
        · have hk6 := kTry_6 (K := K) 4 m8 m10
          have hkn := kTry_ne hbC.1.1 (kd := 4) (a := m8) (b := m10) (by decide)
          generalize hgq : kTry K 4 m8 m10 = q9 at *
          refine J.heap (h2 := jup h21 500 (jA 4 9 (jfu S m (sumF K)))) (jup_id ((hs9 500 (by decide)).trans jup_s)) ?_
          have hz9 : ∀ j, 120 ≤ j → j ≠ 500 → h21 j = hb j := fun j j0 j1 => (hs9 j j0).trans (jup_n j1 rfl)
          refine j_if_lt (tgt := 215) dL_undone_208 (by decide) (by omega) (fun c208 => (False.elim (by omega))) (fun c208 => ?_)
          refine j_iconst dL_undone_211 ?_
          refine j_goto (tgt := 216) dL_undone_212 (by decide) ?_
          refine j_istore (L' := [(0, _), (1, _), (2, _), (3, _), (4, _), (5, _), (6, _), (7, _), (8, _), (9, _), (10, _)]) dL_undone_216 (Nat.le_of_ble_eq_true rfl) rfl ?_
          refine j_goto (tgt := 432) dL_undone_218 (by decide) ?_
          refine j_iload dL_undone_432 rfl ?_
          refine j_if_ne (tgt := 450) dL_undone_434 (by decide) (by omega) (fun c434 => ?_) (fun c434 => (False.elim (by omega)))
          refine j_iload_n dL_undone_450 rfl rfl ?_
          refine j_iload dL_undone_451 rfl ?_
          refine j_if_eq (tgt := 460) dL_undone_453 (by decide) (by omega) (fun c453 => (False.elim (by omega))) (fun c453 => ?_)
          refine j_iconst dL_undone_456 ?_
          refine j_goto (tgt := 461) dL_undone_457 (by decide) ?_
          refine j_iadd dL_undone_461 ?_
          refine j_istore_n (L' := [(0, _), (1, _), (2, _), (3, _), (4, _), (5, _), (6, _), (7, _), (8, _), (9, _), (10, _)]) dL_undone_462 rfl (Nat.le_of_ble_eq_true rfl) rfl ?_
          refine j_iinc (L' := [(0, _), (1, _), (2, _), (3, _), (4, _), (5, _), (6, _), (7, _), (8, _), (9, _), (10, _)]) dL_undone_463 rfl (Nat.le_of_ble_eq_true rfl) rfl ?_
          refine j_goto (tgt := 10) dL_undone_466 (by decide) ?_
          refine J.keep [0, 1, 2, 3, 4] (L' := [(0, _), (1, _), (2, _), (3, _), (4, _)]) rfl ?_
          have hps := (j3.s hbC.1.2 hbC.nn (by omega)).2
          refine ih10 (i + 1, m + 1, (jfu S m (sumF K)), q9.2.2.2, (xP n P K), (xN n), (B + 1000), h21, nc10 + 0 + 1 + 600 + 1, ns10 + 0 + 6 + 3600 + 6) ?_ ?_
          · dsimp only
            exact ⟨by omega, by omega, (j3.s hbC.1.2 hbC.nn (by omega)).1, hC9, by omega, (fun j j0 j1 j2 => (hz9 j j0 j1).trans (hbN j j0 j1 (by omega))), by omega, by omega⟩
          · dsimp only
            omega
        · have hke := en_2 hm9
          refine J.heap (h2 := jup h21 500 (jA 4 9 (jfu S m (sumF K)))) (jup_id ((hs9 500 (by decide)).trans jup_s)) ?_
          have hz9 : ∀ j, 120 ≤ j → j ≠ 500 → h21 j = hb j := fun j j0 j1 => (hs9 j j0).trans (jup_n j1 rfl)
          refine j_if_lt (tgt := 215) dL_undone_208 (by decide) (by omega) (fun c208 => ?_) (fun c208 => (False.elim (by omega)))
          refine j_iconst dL_undone_215 ?_
          refine j_istore (L' := [(0, _), (1, _), (2, _), (3, _), (4, _), (5, _), (6, _), (7, _), (8, _), (9, _), (10, _)]) dL_undone_216 (Nat.le_of_ble_eq_true rfl) rfl ?_
          refine j_goto (tgt := 432) dL_undone_218 (by decide) ?_
          refine j_iload dL_undone_432 rfl ?_
          refine j_if_ne (tgt := 450) dL_undone_434 (by decide) (by omega) (fun c434 => (False.elim (by omega))) (fun c434 => ?_)
          refine j_aload_n dL_undone_437 rfl rfl ?_
          refine j_callS (m_sum (hC9.up (k := 500) (x := (jA 4 9 (jfu S m (sumF K)))) (by decide))) dL_undone_438 jc_L_267 jmS_L_sum rfl rfl rfl (by decide) (jfr_of rfl rfl) (Nat.le_of_ble_eq_true rfl) ⟨Nat.le_of_ble_eq_true rfl, Nat.le_of_ble_eq_true rfl⟩ (show nc10 + 0 + 1 + 600 + 1 + 600 ≤ 14200 ∧ ns10 + 0 + 6 + 3600 + 6 + 3600 ≤ 539700 by omega) (fun r h22 hp9 => ?_) (fun E h9 q => q.elim)
          obtain ⟨rfl, rfl⟩ := hp9
          refine j_aload_n dL_undone_441 rfl rfl ?_
          refine j_iload_n dL_undone_442 rfl rfl ?_
          refine j_laload (f := (jfu S m (sumF K))) dL_undone_443 jup_s (by omega) (by omega) ?_
          rw [jfu_s]
          refine j_lcmpR dL_undone_444 ?_
          refine j_if_eq (tgt := 450) dL_undone_445 (by decide) (by omega) (fun c445 => ?_) (fun c445 => (False.elim (by omega)))
          refine j_iload_n dL_undone_450 rfl rfl ?_
          refine j_iload dL_undone_451 rfl ?_
          refine j_if_eq (tgt := 460) dL_undone_453 (by decide) (by omega) (fun c453 => ?_) (fun c453 => (False.elim (by omega)))
          refine j_iconst dL_undone_460 ?_
          refine j_iadd dL_undone_461 ?_
          refine j_istore_n (L' := [(0, _), (1, _), (2, _), (3, _), (4, _), (5, _), (6, _), (7, _), (8, _), (9, _), (10, _)]) dL_undone_462 rfl (Nat.le_of_ble_eq_true rfl) rfl ?_
          refine j_iinc (L' := [(0, _), (1, _), (2, _), (3, _), (4, _), (5, _), (6, _), (7, _), (8, _), (9, _), (10, _)]) dL_undone_463 rfl (Nat.le_of_ble_eq_true rfl) rfl ?_
          refine j_goto (tgt := 10) dL_undone_466 (by decide) ?_
          refine J.keep [0, 1, 2, 3, 4] (L' := [(0, _), (1, _), (2, _), (3, _), (4, _)]) rfl ?_
          refine ih10 (i + 1, m + 0, (jfu S m (sumF K)), K, P, n, (B + 1000), h21, nc10 + 0 + 1 + 600 + 1 + 600, ns10 + 0 + 6 + 3600 + 6 + 3600) ?_ ?_
          · dsimp only
            exact ⟨by omega, by omega, (by rw [show m + 0 = m by omega]; exact j3.f), hC9, by omega, (fun j j0 j1 j2 => (hz9 j j0 j1).trans (hbN j j0 j1 (by omega))), by omega, by omega⟩
          · dsimp only
            omega
      by_cases c73 : m12 = 5
      · refine j_tabIn (tgt := 221) 5 dL_undone_73 c73 (by decide) (by decide) (by decide) rfl (by decide) ?_
        refine j_aload_n dL_undone_221 rfl rfl ?_
        refine j_iload dL_undone_222 rfl ?_
        refine j_callSW (l_part (hbC.up (k := 500) (x := (jA 4 9 (jfu S m (sumF K)))) (by decide)) (p := m8) (by omega) (by omega)) dL_undone_224 jc_L_143 jmS_L_part (fun q => by cases q) rfl rfl (by decide) (jfr_of rfl rfl) (Nat.le_of_ble_eq_true rfl) ⟨Nat.le_of_ble_eq_true rfl, Nat.le_of_ble_eq_true rfl⟩ (show nc10 + 0 + 1 + 600 + 1 ≤ 14200 ∧ ns10 + 0 + 6 + 3600 + 6 ≤ 539700 by omega) (fun r h23 hp9 => ?_)
        obtain ⟨hs9, hq9⟩ := hp9
        rcases hq9 with ⟨rfl, hr9, hC9⟩ | ⟨k9, E9, rfl, hm9, hE9, hC9⟩
        · have hk6 := kTry_6 (K := K) 5 m8 (-1)
          have hkn := kTry_ne hbC.1.1 (kd := 5) (a := m8) (b := (-1)) (by decide)
          generalize hgq : kTry K 5 m8 (-1) = q9 at *
          refine J.heap (h2 := jup h23 500 (jA 4 9 (jfu S m (sumF K)))) (jup_id ((hs9 500 (by decide)).trans jup_s)) ?_
          have hz9 : ∀ j, 120 ≤ j → j ≠ 500 → h23 j = hb j := fun j j0 j1 => (hs9 j j0).trans (jup_n j1 rfl)
          refine j_if_lt (tgt := 234) dL_undone_227 (by decide) (by omega) (fun c227 => (False.elim (by omega))) (fun c227 => ?_)
          refine j_iconst dL_undone_230 ?_
          refine j_goto (tgt := 235) dL_undone_231 (by decide) ?_
          refine j_istore (L' := [(0, _), (1, _), (2, _), (3, _), (4, _), (5, _), (6, _), (7, _), (8, _), (9, _), (10, _)]) dL_undone_235 (Nat.le_of_ble_eq_true rfl) rfl ?_
          refine j_goto (tgt := 432) dL_undone_237 (by decide) ?_
          refine j_iload dL_undone_432 rfl ?_
          refine j_if_ne (tgt := 450) dL_undone_434 (by decide) (by omega) (fun c434 => ?_) (fun c434 => (False.elim (by omega)))
          refine j_iload_n dL_undone_450 rfl rfl ?_
          refine j_iload dL_undone_451 rfl ?_
          refine j_if_eq (tgt := 460) dL_undone_453 (by decide) (by omega) (fun c453 => (False.elim (by omega))) (fun c453 => ?_)
          refine j_iconst dL_undone_456 ?_
          refine j_goto (tgt := 461) dL_undone_457 (by decide) ?_
          refine j_iadd dL_undone_461 ?_
          refine j_istore_n (L' := [(0, _), (1, _), (2, _), (3, _), (4, _), (5, _), (6, _), (7, _), (8, _), (9, _), (10, _)]) dL_undone_462 rfl (Nat.le_of_ble_eq_true rfl) rfl ?_
          refine j_iinc (L' := [(0, _), (1, _), (2, _), (3, _), (4, _), (5, _), (6, _), (7, _), (8, _), (9, _), (10, _)]) dL_undone_463 rfl (Nat.le_of_ble_eq_true rfl) rfl ?_
          refine j_goto (tgt := 10) dL_undone_466 (by decide) ?_
          refine J.keep [0, 1, 2, 3, 4] (L' := [(0, _), (1, _), (2, _), (3, _), (4, _)]) rfl ?_
          have hps := (j3.s hbC.1.2 hbC.nn (by omega)).2
          refine ih10 (i + 1, m + 1, (jfu S m (sumF K)), q9.2.2.2, (xP n P K), (xN n), (B + 1000), h23, nc10 + 0 + 1 + 600 + 1, ns10 + 0 + 6 + 3600 + 6) ?_ ?_
          · dsimp only
            exact ⟨by omega, by omega, (j3.s hbC.1.2 hbC.nn (by omega)).1, hC9, by omega, (fun j j0 j1 j2 => (hz9 j j0 j1).trans (hbN j j0 j1 (by omega))), by omega, by omega⟩
          · dsimp only
            omega
        · have hke := en_2 hm9
          refine J.heap (h2 := jup h23 500 (jA 4 9 (jfu S m (sumF K)))) (jup_id ((hs9 500 (by decide)).trans jup_s)) ?_
          have hz9 : ∀ j, 120 ≤ j → j ≠ 500 → h23 j = hb j := fun j j0 j1 => (hs9 j j0).trans (jup_n j1 rfl)
          refine j_if_lt (tgt := 234) dL_undone_227 (by decide) (by omega) (fun c227 => ?_) (fun c227 => (False.elim (by omega)))
          refine j_iconst dL_undone_234 ?_
          refine j_istore (L' := [(0, _), (1, _), (2, _), (3, _), (4, _), (5, _), (6, _), (7, _), (8, _), (9, _), (10, _)]) dL_undone_235 (Nat.le_of_ble_eq_true rfl) rfl ?_
          refine j_goto (tgt := 432) dL_undone_237 (by decide) ?_
          refine j_iload dL_undone_432 rfl ?_
          refine j_if_ne (tgt := 450) dL_undone_434 (by decide) (by omega) (fun c434 => (False.elim (by omega))) (fun c434 => ?_)
          refine j_aload_n dL_undone_437 rfl rfl ?_
          refine j_callS (m_sum (hC9.up (k := 500) (x := (jA 4 9 (jfu S m (sumF K)))) (by decide))) dL_undone_438 jc_L_267 jmS_L_sum rfl rfl rfl (by decide) (jfr_of rfl rfl) (Nat.le_of_ble_eq_true rfl) ⟨Nat.le_of_ble_eq_true rfl, Nat.le_of_ble_eq_true rfl⟩ (show nc10 + 0 + 1 + 600 + 1 + 600 ≤ 14200 ∧ ns10 + 0 + 6 + 3600 + 6 + 3600 ≤ 539700 by omega) (fun r h24 hp9 => ?_) (fun E h9 q => q.elim)
          obtain ⟨rfl, rfl⟩ := hp9
          refine j_aload_n dL_undone_441 rfl rfl ?_
          refine j_iload_n dL_undone_442 rfl rfl ?_
          refine j_laload (f := (jfu S m (sumF K))) dL_undone_443 jup_s (by omega) (by omega) ?_
          rw [jfu_s]
          refine j_lcmpR dL_undone_444 ?_
          refine j_if_eq (tgt := 450) dL_undone_445 (by decide) (by omega) (fun c445 => ?_) (fun c445 => (False.elim (by omega)))
          refine j_iload_n dL_undone_450 rfl rfl ?_
          refine j_iload dL_undone_451 rfl ?_
          refine j_if_eq (tgt := 460) dL_undone_453 (by decide) (by omega) (fun c453 => ?_) (fun c453 => (False.elim (by omega)))
          refine j_iconst dL_undone_460 ?_
          refine j_iadd dL_undone_461 ?_
          refine j_istore_n (L' := [(0, _), (1, _), (2, _), (3, _), (4, _), (5, _), (6, _), (7, _), (8, _), (9, _), (10, _)]) dL_undone_462 rfl (Nat.le_of_ble_eq_true rfl) rfl ?_
          refine j_iinc (L' := [(0, _), (1, _), (2, _), (3, _), (4, _), (5, _), (6, _), (7, _), (8, _), (9, _), (10, _)]) dL_undone_463 rfl (Nat.le_of_ble_eq_true rfl) rfl ?_
          refine j_goto (tgt := 10) dL_undone_466 (by decide) ?_
          refine J.keep [0, 1, 2, 3, 4] (L' := [(0, _), (1, _), (2, _), (3, _), (4, _)]) rfl ?_
          refine ih10 (i + 1, m + 0, (jfu S m (sumF K)), K, P, n, (B + 1000), h23, nc10 + 0 + 1 + 600 + 1 + 600, ns10 + 0 + 6 + 3600 + 6 + 3600) ?_ ?_
          · dsimp only
            exact ⟨by omega, by omega, (by rw [show m + 0 = m by omega]; exact j3.f), hC9, by omega, (fun j j0 j1 j2 => (hz9 j j0 j1).trans (hbN j j0 j1 (by omega))), by omega, by omega⟩
          · dsimp only
            omega
      by_cases c73 : m12 = 6
      · refine j_tabIn (tgt := 240) 6 dL_undone_73 c73 (by decide) (by decide) (by decide) rfl (by decide) ?_
        refine j_aload_n dL_undone_240 rfl rfl ?_
        refine j_iload dL_undone_241 rfl ?_
        refine j_iload dL_undone_243 rfl ?_
        refine j_callSW (l_quarrel (hbC.up (k := 500) (x := (jA 4 9 (jfu S m (sumF K)))) (by decide)) (p := m8) (o := m10) (by omega) (by omega) (by omega)) dL_undone_245 jc_L_145 jmS_L_quarrel (fun q => by cases q) rfl rfl (by decide) (jfr_of rfl rfl) (Nat.le_of_ble_eq_true rfl) ⟨Nat.le_of_ble_eq_true rfl, Nat.le_of_ble_eq_true rfl⟩ (show nc10 + 0 + 1 + 600 + 1 ≤ 14200 ∧ ns10 + 0 + 6 + 3600 + 6 ≤ 539700 by omega) (fun r h25 hp9 => ?_)
        obtain ⟨hs9, hq9⟩ := hp9
        rcases hq9 with ⟨rfl, hr9, hC9⟩ | ⟨k9, E9, rfl, hm9, hE9, hC9⟩
        · have hk6 := kTry_6 (K := K) 6 m8 m10
          have hkn := kTry_ne hbC.1.1 (kd := 6) (a := m8) (b := m10) (by decide)
          generalize hgq : kTry K 6 m8 m10 = q9 at *
          refine J.heap (h2 := jup h25 500 (jA 4 9 (jfu S m (sumF K)))) (jup_id ((hs9 500 (by decide)).trans jup_s)) ?_
          have hz9 : ∀ j, 120 ≤ j → j ≠ 500 → h25 j = hb j := fun j j0 j1 => (hs9 j j0).trans (jup_n j1 rfl)
          refine j_if_lt (tgt := 255) dL_undone_248 (by decide) (by omega) (fun c248 => (False.elim (by omega))) (fun c248 => ?_)
          refine j_iconst dL_undone_251 ?_
          refine j_goto (tgt := 256) dL_undone_252 (by decide) ?_
          refine j_istore (L' := [(0, _), (1, _), (2, _), (3, _), (4, _), (5, _), (6, _), (7, _), (8, _), (9, _), (10, _)]) dL_undone_256 (Nat.le_of_ble_eq_true rfl) rfl ?_
          refine j_goto (tgt := 432) dL_undone_258 (by decide) ?_
          refine j_iload dL_undone_432 rfl ?_
          refine j_if_ne (tgt := 450) dL_undone_434 (by decide) (by omega) (fun c434 => ?_) (fun c434 => (False.elim (by omega)))
          refine j_iload_n dL_undone_450 rfl rfl ?_
          refine j_iload dL_undone_451 rfl ?_
          refine j_if_eq (tgt := 460) dL_undone_453 (by decide) (by omega) (fun c453 => (False.elim (by omega))) (fun c453 => ?_)
          refine j_iconst dL_undone_456 ?_
          refine j_goto (tgt := 461) dL_undone_457 (by decide) ?_
          refine j_iadd dL_undone_461 ?_
          refine j_istore_n (L' := [(0, _), (1, _), (2, _), (3, _), (4, _), (5, _), (6, _), (7, _), (8, _), (9, _), (10, _)]) dL_undone_462 rfl (Nat.le_of_ble_eq_true rfl) rfl ?_
          refine j_iinc (L' := [(0, _), (1, _), (2, _), (3, _), (4, _), (5, _), (6, _), (7, _), (8, _), (9, _), (10, _)]) dL_undone_463 rfl (Nat.le_of_ble_eq_true rfl) rfl ?_
          refine j_goto (tgt := 10) dL_undone_466 (by decide) ?_
          refine J.keep [0, 1, 2, 3, 4] (L' := [(0, _), (1, _), (2, _), (3, _), (4, _)]) rfl ?_
          have hps := (j3.s hbC.1.2 hbC.nn (by omega)).2
          refine ih10 (i + 1, m + 1, (jfu S m (sumF K)), q9.2.2.2, (xP n P K), (xN n), (B + 1000), h25, nc10 + 0 + 1 + 600 + 1, ns10 + 0 + 6 + 3600 + 6) ?_ ?_
          · dsimp only
            exact ⟨by omega, by omega, (j3.s hbC.1.2 hbC.nn (by omega)).1, hC9, by omega, (fun j j0 j1 j2 => (hz9 j j0 j1).trans (hbN j j0 j1 (by omega))), by omega, by omega⟩
          · dsimp only
            omega
        · have hke := en_2 hm9
          refine J.heap (h2 := jup h25 500 (jA 4 9 (jfu S m (sumF K)))) (jup_id ((hs9 500 (by decide)).trans jup_s)) ?_
          have hz9 : ∀ j, 120 ≤ j → j ≠ 500 → h25 j = hb j := fun j j0 j1 => (hs9 j j0).trans (jup_n j1 rfl)
          refine j_if_lt (tgt := 255) dL_undone_248 (by decide) (by omega) (fun c248 => ?_) (fun c248 => (False.elim (by omega)))
          refine j_iconst dL_undone_255 ?_
          refine j_istore (L' := [(0, _), (1, _), (2, _), (3, _), (4, _), (5, _), (6, _), (7, _), (8, _), (9, _), (10, _)]) dL_undone_256 (Nat.le_of_ble_eq_true rfl) rfl ?_
          refine j_goto (tgt := 432) dL_undone_258 (by decide) ?_
          refine j_iload dL_undone_432 rfl ?_
          refine j_if_ne (tgt := 450) dL_undone_434 (by decide) (by omega) (fun c434 => (False.elim (by omega))) (fun c434 => ?_)
          refine j_aload_n dL_undone_437 rfl rfl ?_
          refine j_callS (m_sum (hC9.up (k := 500) (x := (jA 4 9 (jfu S m (sumF K)))) (by decide))) dL_undone_438 jc_L_267 jmS_L_sum rfl rfl rfl (by decide) (jfr_of rfl rfl) (Nat.le_of_ble_eq_true rfl) ⟨Nat.le_of_ble_eq_true rfl, Nat.le_of_ble_eq_true rfl⟩ (show nc10 + 0 + 1 + 600 + 1 + 600 ≤ 14200 ∧ ns10 + 0 + 6 + 3600 + 6 + 3600 ≤ 539700 by omega) (fun r h26 hp9 => ?_) (fun E h9 q => q.elim)
          obtain ⟨rfl, rfl⟩ := hp9
          refine j_aload_n dL_undone_441 rfl rfl ?_
          refine j_iload_n dL_undone_442 rfl rfl ?_
          refine j_laload (f := (jfu S m (sumF K))) dL_undone_443 jup_s (by omega) (by omega) ?_
          rw [jfu_s]
          refine j_lcmpR dL_undone_444 ?_
          refine j_if_eq (tgt := 450) dL_undone_445 (by decide) (by omega) (fun c445 => ?_) (fun c445 => (False.elim (by omega)))
          refine j_iload_n dL_undone_450 rfl rfl ?_
          refine j_iload dL_undone_451 rfl ?_
          refine j_if_eq (tgt := 460) dL_undone_453 (by decide) (by omega) (fun c453 => ?_) (fun c453 => (False.elim (by omega)))
          refine j_iconst dL_undone_460 ?_
          refine j_iadd dL_undone_461 ?_
          refine j_istore_n (L' := [(0, _), (1, _), (2, _), (3, _), (4, _), (5, _), (6, _), (7, _), (8, _), (9, _), (10, _)]) dL_undone_462 rfl (Nat.le_of_ble_eq_true rfl) rfl ?_
          refine j_iinc (L' := [(0, _), (1, _), (2, _), (3, _), (4, _), (5, _), (6, _), (7, _), (8, _), (9, _), (10, _)]) dL_undone_463 rfl (Nat.le_of_ble_eq_true rfl) rfl ?_
          refine j_goto (tgt := 10) dL_undone_466 (by decide) ?_
          refine J.keep [0, 1, 2, 3, 4] (L' := [(0, _), (1, _), (2, _), (3, _), (4, _)]) rfl ?_
          refine ih10 (i + 1, m + 0, (jfu S m (sumF K)), K, P, n, (B + 1000), h25, nc10 + 0 + 1 + 600 + 1 + 600, ns10 + 0 + 6 + 3600 + 6 + 3600) ?_ ?_
          · dsimp only
            exact ⟨by omega, by omega, (by rw [show m + 0 = m by omega]; exact j3.f), hC9, by omega, (fun j j0 j1 j2 => (hz9 j j0 j1).trans (hbN j j0 j1 (by omega))), by omega, by omega⟩
          · dsimp only
            omega
      by_cases c73 : m12 = 7
      · refine j_tabIn (tgt := 261) 7 dL_undone_73 c73 (by decide) (by decide) (by decide) rfl (by decide) ?_
        refine j_aload_n dL_undone_261 rfl rfl ?_
        refine j_iload dL_undone_262 rfl ?_
        refine j_iload dL_undone_264 rfl ?_
        refine j_bipush dL_undone_266 (by decide +kernel) ?_
        refine j_iushr 10 ⟨by decide, by decide⟩ dL_undone_268 (by decide +kernel) (fun z27 z27a z27b => ?_)
        refine j_sipush dL_undone_269 (by decide +kernel) ?_
        refine j_rem dL_undone_272 (by omega) (by omega) (fun m28a m28b => ?_)
        generalize z27 % 1001 = m28 at m28a m28b ⊢
        refine j_callSW (l_give (hbC.up (k := 500) (x := (jA 4 9 (jfu S m (sumF K)))) (by decide)) (p := m8) (o := m28) (by omega) (by omega) (by omega)) dL_undone_273 jc_L_147 jmS_L_give (fun q => by cases q) rfl rfl (by decide) (jfr_of rfl rfl) (Nat.le_of_ble_eq_true rfl) ⟨Nat.le_of_ble_eq_true rfl, Nat.le_of_ble_eq_true rfl⟩ (show nc10 + 0 + 1 + 600 + 1 ≤ 14200 ∧ ns10 + 0 + 6 + 3600 + 6 ≤ 539700 by omega) (fun r h29 hp9 => ?_)
        obtain ⟨hs9, hq9⟩ := hp9
        rcases hq9 with ⟨rfl, hr9, hC9⟩ | ⟨k9, E9, rfl, hm9, hE9, hC9⟩
        · have hk6 := kTry_6 (K := K) 7 m8 m28
          have hkn := kTry_ne hbC.1.1 (kd := 7) (a := m8) (b := m28) (by decide)
          generalize hgq : kTry K 7 m8 m28 = q9 at *
          refine J.heap (h2 := jup h29 500 (jA 4 9 (jfu S m (sumF K)))) (jup_id ((hs9 500 (by decide)).trans jup_s)) ?_
          have hz9 : ∀ j, 120 ≤ j → j ≠ 500 → h29 j = hb j := fun j j0 j1 => (hs9 j j0).trans (jup_n j1 rfl)
          refine j_if_lt (tgt := 283) dL_undone_276 (by decide) (by omega) (fun c276 => (False.elim (by omega))) (fun c276 => ?_)
          refine j_iconst dL_undone_279 ?_
          refine j_goto (tgt := 284) dL_undone_280 (by decide) ?_
          refine j_istore (L' := [(0, _), (1, _), (2, _), (3, _), (4, _), (5, _), (6, _), (7, _), (8, _), (9, _), (10, _)]) dL_undone_284 (Nat.le_of_ble_eq_true rfl) rfl ?_
          refine j_goto (tgt := 432) dL_undone_286 (by decide) ?_
          refine j_iload dL_undone_432 rfl ?_
          refine j_if_ne (tgt := 450) dL_undone_434 (by decide) (by omega) (fun c434 => ?_) (fun c434 => (False.elim (by omega)))
          refine j_iload_n dL_undone_450 rfl rfl ?_
          refine j_iload dL_undone_451 rfl ?_
          refine j_if_eq (tgt := 460) dL_undone_453 (by decide) (by omega) (fun c453 => (False.elim (by omega))) (fun c453 => ?_)
          refine j_iconst dL_undone_456 ?_
          refine j_goto (tgt := 461) dL_undone_457 (by decide) ?_
          refine j_iadd dL_undone_461 ?_
          refine j_istore_n (L' := [(0, _), (1, _), (2, _), (3, _), (4, _), (5, _), (6, _), (7, _), (8, _), (9, _), (10, _)]) dL_undone_462 rfl (Nat.le_of_ble_eq_true rfl) rfl ?_
          refine j_iinc (L' := [(0, _), (1, _), (2, _), (3, _), (4, _), (5, _), (6, _), (7, _), (8, _), (9, _), (10, _)]) dL_undone_463 rfl (Nat.le_of_ble_eq_true rfl) rfl ?_
          refine j_goto (tgt := 10) dL_undone_466 (by decide) ?_
          refine J.keep [0, 1, 2, 3, 4] (L' := [(0, _), (1, _), (2, _), (3, _), (4, _)]) rfl ?_
          have hps := (j3.s hbC.1.2 hbC.nn (by omega)).2
          refine ih10 (i + 1, m + 1, (jfu S m (sumF K)), q9.2.2.2, (xP n P K), (xN n), (B + 1000), h29, nc10 + 0 + 1 + 600 + 1, ns10 + 0 + 6 + 3600 + 6) ?_ ?_
          · dsimp only
            exact ⟨by omega, by omega, (j3.s hbC.1.2 hbC.nn (by omega)).1, hC9, by omega, (fun j j0 j1 j2 => (hz9 j j0 j1).trans (hbN j j0 j1 (by omega))), by omega, by omega⟩
          · dsimp only
            omega
        · have hke := en_give hm9
          refine J.heap (h2 := jup h29 500 (jA 4 9 (jfu S m (sumF K)))) (jup_id ((hs9 500 (by decide)).trans jup_s)) ?_
          have hz9 : ∀ j, 120 ≤ j → j ≠ 500 → h29 j = hb j := fun j j0 j1 => (hs9 j j0).trans (jup_n j1 rfl)
          refine j_if_lt (tgt := 283) dL_undone_276 (by decide) (by omega) (fun c276 => ?_) (fun c276 => (False.elim (by omega)))
          refine j_iconst dL_undone_283 ?_
          refine j_istore (L' := [(0, _), (1, _), (2, _), (3, _), (4, _), (5, _), (6, _), (7, _), (8, _), (9, _), (10, _)]) dL_undone_284 (Nat.le_of_ble_eq_true rfl) rfl ?_
          refine j_goto (tgt := 432) dL_undone_286 (by decide) ?_
          refine j_iload dL_undone_432 rfl ?_
          refine j_if_ne (tgt := 450) dL_undone_434 (by decide) (by omega) (fun c434 => (False.elim (by omega))) (fun c434 => ?_)
          refine j_aload_n dL_undone_437 rfl rfl ?_
          refine j_callS (m_sum (hC9.up (k := 500) (x := (jA 4 9 (jfu S m (sumF K)))) (by decide))) dL_undone_438 jc_L_267 jmS_L_sum rfl rfl rfl (by decide) (jfr_of rfl rfl) (Nat.le_of_ble_eq_true rfl) ⟨Nat.le_of_ble_eq_true rfl, Nat.le_of_ble_eq_true rfl⟩ (show nc10 + 0 + 1 + 600 + 1 + 600 ≤ 14200 ∧ ns10 + 0 + 6 + 3600 + 6 + 3600 ≤ 539700 by omega) (fun r h30 hp9 => ?_) (fun E h9 q => q.elim)
          obtain ⟨rfl, rfl⟩ := hp9
          refine j_aload_n dL_undone_441 rfl rfl ?_
          refine j_iload_n dL_undone_442 rfl rfl ?_
          refine j_laload (f := (jfu S m (sumF K))) dL_undone_443 jup_s (by omega) (by omega) ?_
          rw [jfu_s]
          refine j_lcmpR dL_undone_444 ?_
          refine j_if_eq (tgt := 450) dL_undone_445 (by decide) (by omega) (fun c445 => ?_) (fun c445 => (False.elim (by omega)))
          refine j_iload_n dL_undone_450 rfl rfl ?_
          refine j_iload dL_undone_451 rfl ?_
          refine j_if_eq (tgt := 460) dL_undone_453 (by decide) (by omega) (fun c453 => ?_) (fun c453 => (False.elim (by omega)))
          refine j_iconst dL_undone_460 ?_
          refine j_iadd dL_undone_461 ?_
          refine j_istore_n (L' := [(0, _), (1, _), (2, _), (3, _), (4, _), (5, _), (6, _), (7, _), (8, _), (9, _), (10, _)]) dL_undone_462 rfl (Nat.le_of_ble_eq_true rfl) rfl ?_
          refine j_iinc (L' := [(0, _), (1, _), (2, _), (3, _), (4, _), (5, _), (6, _), (7, _), (8, _), (9, _), (10, _)]) dL_undone_463 rfl (Nat.le_of_ble_eq_true rfl) rfl ?_
          refine j_goto (tgt := 10) dL_undone_466 (by decide) ?_
          refine J.keep [0, 1, 2, 3, 4] (L' := [(0, _), (1, _), (2, _), (3, _), (4, _)]) rfl ?_
          refine ih10 (i + 1, m + 0, (jfu S m (sumF K)), K, P, n, (B + 1000), h29, nc10 + 0 + 1 + 600 + 1 + 600, ns10 + 0 + 6 + 3600 + 6 + 3600) ?_ ?_
          · dsimp only
            exact ⟨by omega, by omega, (by rw [show m + 0 = m by omega]; exact j3.f), hC9, by omega, (fun j j0 j1 j2 => (hz9 j j0 j1).trans (hbN j j0 j1 (by omega))), by omega, by omega⟩
          · dsimp only
            omega
      by_cases c73 : m12 = 8
      · refine j_tabIn (tgt := 289) 8 dL_undone_73 c73 (by decide) (by decide) (by decide) rfl (by decide) ?_
        refine j_aload_n dL_undone_289 rfl rfl ?_
        refine j_iload dL_undone_290 rfl ?_
        refine j_callSW (l_die (hbC.up (k := 500) (x := (jA 4 9 (jfu S m (sumF K)))) (by decide)) (p := m8) (by omega) (by omega)) dL_undone_292 jc_L_149 jmS_L_die (fun q => by cases q) rfl rfl (by decide) (jfr_of rfl rfl) (Nat.le_of_ble_eq_true rfl) ⟨Nat.le_of_ble_eq_true rfl, Nat.le_of_ble_eq_true rfl⟩ (show nc10 + 0 + 1 + 600 + 1 ≤ 14200 ∧ ns10 + 0 + 6 + 3600 + 6 ≤ 539700 by omega) (fun r h31 hp9 => ?_)
        obtain ⟨hs9, hq9⟩ := hp9
        rcases hq9 with ⟨rfl, hr9, hC9⟩ | ⟨k9, E9, rfl, hm9, hE9, hC9⟩
        · have hk6 := kTry_6 (K := K) 8 m8 (-1)
          generalize hgq : kTry K 8 m8 (-1) = q9 at *
          refine J.heap (h2 := jup h31 500 (jA 4 9 (jfu S m (sumF K)))) (jup_id ((hs9 500 (by decide)).trans jup_s)) ?_
          have hz9 : ∀ j, 120 ≤ j → j ≠ 500 → h31 j = hb j := fun j j0 j1 => (hs9 j j0).trans (jup_n j1 rfl)
          refine j_iconst dL_undone_295 ?_
          refine j_icmp_lt (tgt := 303) dL_undone_296 (by decide) (by omega) (fun c296 => (False.elim (by omega))) (fun c296 => ?_)
          refine j_iconst dL_undone_299 ?_
          refine j_goto (tgt := 304) dL_undone_300 (by decide) ?_
          refine j_istore (L' := [(0, _), (1, _), (2, _), (3, _), (4, _), (5, _), (6, _), (7, _), (8, _), (9, _), (10, _)]) dL_undone_304 (Nat.le_of_ble_eq_true rfl) rfl ?_
          refine j_goto (tgt := 432) dL_undone_306 (by decide) ?_
          refine j_iload dL_undone_432 rfl ?_
          refine j_if_ne (tgt := 450) dL_undone_434 (by decide) (by omega) (fun c434 => ?_) (fun c434 => (False.elim (by omega)))
          refine j_iload_n dL_undone_450 rfl rfl ?_
          refine j_iload dL_undone_451 rfl ?_
          refine j_if_eq (tgt := 460) dL_undone_453 (by decide) (by omega) (fun c453 => (False.elim (by omega))) (fun c453 => ?_)
          refine j_iconst dL_undone_456 ?_
          refine j_goto (tgt := 461) dL_undone_457 (by decide) ?_
          refine j_iadd dL_undone_461 ?_
          refine j_istore_n (L' := [(0, _), (1, _), (2, _), (3, _), (4, _), (5, _), (6, _), (7, _), (8, _), (9, _), (10, _)]) dL_undone_462 rfl (Nat.le_of_ble_eq_true rfl) rfl ?_
          refine j_iinc (L' := [(0, _), (1, _), (2, _), (3, _), (4, _), (5, _), (6, _), (7, _), (8, _), (9, _), (10, _)]) dL_undone_463 rfl (Nat.le_of_ble_eq_true rfl) rfl ?_
          refine j_goto (tgt := 10) dL_undone_466 (by decide) ?_
          refine J.keep [0, 1, 2, 3, 4] (L' := [(0, _), (1, _), (2, _), (3, _), (4, _)]) rfl ?_
          have hps := (j3.s hbC.1.2 hbC.nn (by omega)).2
          refine ih10 (i + 1, m + 1, (jfu S m (sumF K)), q9.2.2.2, (xP n P K), (xN n), (B + 1000), h31, nc10 + 0 + 1 + 600 + 1, ns10 + 0 + 6 + 3600 + 6) ?_ ?_
          · dsimp only
            exact ⟨by omega, by omega, (j3.s hbC.1.2 hbC.nn (by omega)).1, hC9, by omega, (fun j j0 j1 j2 => (hz9 j j0 j1).trans (hbN j j0 j1 (by omega))), by omega, by omega⟩
          · dsimp only
            omega
        · have hke := en_die hm9
          refine J.heap (h2 := jup h31 500 (jA 4 9 (jfu S m (sumF K)))) (jup_id ((hs9 500 (by decide)).trans jup_s)) ?_
          have hz9 : ∀ j, 120 ≤ j → j ≠ 500 → h31 j = hb j := fun j j0 j1 => (hs9 j j0).trans (jup_n j1 rfl)
          refine j_iconst dL_undone_295 ?_
          refine j_icmp_lt (tgt := 303) dL_undone_296 (by decide) (by omega) (fun c296 => ?_) (fun c296 => (False.elim (by omega)))
          refine j_iconst dL_undone_303 ?_
          refine j_istore (L' := [(0, _), (1, _), (2, _), (3, _), (4, _), (5, _), (6, _), (7, _), (8, _), (9, _), (10, _)]) dL_undone_304 (Nat.le_of_ble_eq_true rfl) rfl ?_
          refine j_goto (tgt := 432) dL_undone_306 (by decide) ?_
          refine j_iload dL_undone_432 rfl ?_
          refine j_if_ne (tgt := 450) dL_undone_434 (by decide) (by omega) (fun c434 => (False.elim (by omega))) (fun c434 => ?_)
          refine j_aload_n dL_undone_437 rfl rfl ?_
          refine j_callS (m_sum (hC9.up (k := 500) (x := (jA 4 9 (jfu S m (sumF K)))) (by decide))) dL_undone_438 jc_L_267 jmS_L_sum rfl rfl rfl (by decide) (jfr_of rfl rfl) (Nat.le_of_ble_eq_true rfl) ⟨Nat.le_of_ble_eq_true rfl, Nat.le_of_ble_eq_true rfl⟩ (show nc10 + 0 + 1 + 600 + 1 + 600 ≤ 14200 ∧ ns10 + 0 + 6 + 3600 + 6 + 3600 ≤ 539700 by omega) (fun r h32 hp9 => ?_) (fun E h9 q => q.elim)
          obtain ⟨rfl, rfl⟩ := hp9
          refine j_aload_n dL_undone_441 rfl rfl ?_
          refine j_iload_n dL_undone_442 rfl rfl ?_
          refine j_laload (f := (jfu S m (sumF K))) dL_undone_443 jup_s (by omega) (by omega) ?_
          rw [jfu_s]
          refine j_lcmpR dL_undone_444 ?_
          refine j_if_eq (tgt := 450) dL_undone_445 (by decide) (by omega) (fun c445 => ?_) (fun c445 => (False.elim (by omega)))
          refine j_iload_n dL_undone_450 rfl rfl ?_
          refine j_iload dL_undone_451 rfl ?_
          refine j_if_eq (tgt := 460) dL_undone_453 (by decide) (by omega) (fun c453 => ?_) (fun c453 => (False.elim (by omega)))
          refine j_iconst dL_undone_460 ?_
          refine j_iadd dL_undone_461 ?_
          refine j_istore_n (L' := [(0, _), (1, _), (2, _), (3, _), (4, _), (5, _), (6, _), (7, _), (8, _), (9, _), (10, _)]) dL_undone_462 rfl (Nat.le_of_ble_eq_true rfl) rfl ?_
          refine j_iinc (L' := [(0, _), (1, _), (2, _), (3, _), (4, _), (5, _), (6, _), (7, _), (8, _), (9, _), (10, _)]) dL_undone_463 rfl (Nat.le_of_ble_eq_true rfl) rfl ?_
          refine j_goto (tgt := 10) dL_undone_466 (by decide) ?_
          refine J.keep [0, 1, 2, 3, 4] (L' := [(0, _), (1, _), (2, _), (3, _), (4, _)]) rfl ?_
          refine ih10 (i + 1, m + 0, (jfu S m (sumF K)), K, P, n, (B + 1000), h31, nc10 + 0 + 1 + 600 + 1 + 600, ns10 + 0 + 6 + 3600 + 6 + 3600) ?_ ?_
          · dsimp only
            exact ⟨by omega, by omega, (by rw [show m + 0 = m by omega]; exact j3.f), hC9, by omega, (fun j j0 j1 j2 => (hz9 j j0 j1).trans (hbN j j0 j1 (by omega))), by omega, by omega⟩
          · dsimp only
            omega
      refine j_tabOut (tgt := 309) dL_undone_73 (by omega) (by omega) (by decide) ?_
      refine j_aload_n dL_undone_309 rfl rfl ?_
      refine J.cl fun hclb2 => ?_
      obtain ⟨H0, hH0⟩ : ∃ H0, H0 = (jup hb 500 (jA 4 9 (jfu S m (sumF K)))) := ⟨_, rfl⟩
      have hF0 : ∀ j, 120 ≤ j → j ≠ 500 → (j < 440 ∨ (488 ≤ j ∧ (j < 540 ∨ 540 + 2 * i.toNat ≤ j))) → H0 j = none := fun j j0 j1 j2 => by rw [hH0]; exact (jup_n j1 rfl).trans (hbN j j0 j1 j2)
      have hG0 : tG H0 510 (jup hb 500 (jA 4 9 (jfu S m (sumF K)))) := ⟨fun j _ => by rw [hH0], fun j j0 j1 => by rw [← hH0]; exact hF0 j (by omega) (by omega) (by omega)⟩
      refine j_new (k := 510) (ci := 6) (fs := [.null, iv 0, iv 0, iv 0]) tyJ4 dL_undone_310 wd9h_898 wd9h_193 wd9h_53 rfl tyJ4_ok (fun j hj => match j, hj with | 0, _ => rfl | 1, _ => rfl | 2, _ => rfl | 3, _ => rfl | n9 + 4, hj => absurd hj (by omega)) (jz0_of rfl) (hG0.2 510 (by decide) (by decide)) (by decide) (jfr_of rfl rfl) (show nc10 + 0 + 1 + 600 + 1 ≤ 14200 ∧ ns10 + 0 + 6 + 3600 + 4 ≤ 539700 by omega) ?_
      refine j_dup dL_undone_313 rfl ?_
      refine j_callI (ct_init0 (k := 510) jup_s (jup_n (by decide) (hG0.2 511 (by decide) (by decide))) (jup_n (by decide) (hG0.2 512 (by decide) (by decide)))) dL_undone_314 jc_L_213 jmI_J4_init_da8c8 rfl rfl rfl rfl rfl (by decide) (jfr_of rfl rfl) (Nat.le_of_ble_eq_true rfl) ⟨Nat.le_of_ble_eq_true rfl, Nat.le_of_ble_eq_true rfl⟩ (show nc10 + 0 + 1 + 600 + 1 + 1 ≤ 14200 ∧ ns10 + 0 + 6 + 3600 + 4 + 16 ≤ 539700 by omega) (fun r h33 hp9 => ?_)
      obtain ⟨rfl, hBh33, hxh33⟩ := hp9
      have hGh33 : tG H0 513 h33 := hG0.new (by decide) hxh33
      obtain ⟨lh33, hBh33, hlh33⟩ : ∃ l, jBl 510 l h33 ∧ l.length ≤ 0 := ⟨_, hBh33, Nat.le_refl _⟩
      refine j_ldcTW (i := 6) (by decide) (pNw.of rfl) rfl dL_undone_317 ?_
      obtain ⟨fsh34, hoh34⟩ := hBh33.o
      refine j_callVF (ct_append (r := 412) hBh33 (.inl ⟨6, by decide, rfl, rfl⟩) (by decide) (by decide) (by have := hlh33; have := (show (tL 6).length ≤ 3 by decide); omega)) dL_undone_320 jc_L_216 jmV_J4_append_15ec4 rfl (pNw.of rfl) rfl (pRc.ob (ci := 6) hoh34 rfl) rfl (by decide) (jfr_of rfl rfl) (Nat.le_of_ble_eq_true rfl) ⟨Nat.le_of_ble_eq_true rfl, Nat.le_of_ble_eq_true rfl⟩ (show nc10 + 0 + 1 + 600 + 1 + 1 + 1 ≤ 14200 ∧ ns10 + 0 + 6 + 3600 + 4 + 16 + 34 ≤ 539700 by omega) (fun r h34 hp9 => ?_) (fun E h9 q => q.elim)
      obtain ⟨rfl, hBh34, hxh34⟩ := hp9
      have hGh34 := hGh33.app (k := 510) (by decide) hxh34
      obtain ⟨lh34, hBh34, hlh34⟩ : ∃ l, jBl 510 l h34 ∧ l.length ≤ 3 := ⟨_, hBh34, apl hlh33 (show (tL 6).length ≤ 3 by decide) (by decide)⟩
      refine j_iload dL_undone_323 rfl ?_
      obtain ⟨fsh35, hoh35⟩ := hBh34.o
      refine j_callV (ct_appendI (v := m8) hBh34 (by omega) (by have := hlh34; have := dl_1000 (v := m8) (by omega); omega)) dL_undone_325 jc_L_219 jmV_J4_append_bf812 rfl rfl hoh35 rfl rfl (by decide) (jfr_of rfl rfl) (Nat.le_of_ble_eq_true rfl) ⟨Nat.le_of_ble_eq_true rfl, Nat.le_of_ble_eq_true rfl⟩ (show nc10 + 0 + 1 + 600 + 1 + 1 + 1 + 1 ≤ 14200 ∧ ns10 + 0 + 6 + 3600 + 4 + 16 + 34 + 34 ≤ 539700 by omega) (fun r h35 hp9 => ?_) (fun E h9 q => q.elim)
      obtain ⟨rfl, hBh35, hxh35⟩ := hp9
      have hGh35 := hGh34.app (k := 510) (by decide) hxh35
      obtain ⟨lh35, hBh35, hlh35⟩ : ∃ l, jBl 510 l h35 ∧ l.length ≤ 6 := ⟨_, hBh35, apl hlh34 (dgs_l3 (by omega)) (by decide)⟩
      refine j_ldcTW (i := 7) (by decide) (pNw.of rfl) rfl dL_undone_328 ?_
      obtain ⟨fsh36, hoh36⟩ := hBh35.o
      refine j_callVF (ct_append (r := 414) hBh35 (.inl ⟨7, by decide, rfl, rfl⟩) (by decide) (by decide) (by have := hlh35; have := (show (tL 7).length ≤ 2 by decide); omega)) dL_undone_331 jc_L_216 jmV_J4_append_15ec4 rfl (pNw.of rfl) rfl (pRc.ob (ci := 6) hoh36 rfl) rfl (by decide) (jfr_of rfl rfl) (Nat.le_of_ble_eq_true rfl) ⟨Nat.le_of_ble_eq_true rfl, Nat.le_of_ble_eq_true rfl⟩ (show nc10 + 0 + 1 + 600 + 1 + 1 + 1 + 1 + 1 ≤ 14200 ∧ ns10 + 0 + 6 + 3600 + 4 + 16 + 34 + 34 + 34 ≤ 539700 by omega) (fun r h36 hp9 => ?_) (fun E h9 q => q.elim)
      obtain ⟨rfl, hBh36, hxh36⟩ := hp9
      have hGh36 := hGh35.app (k := 510) (by decide) hxh36
      obtain ⟨lh36, hBh36, hlh36⟩ : ∃ l, jBl 510 l h36 ∧ l.length ≤ 8 := ⟨_, hBh36, apl hlh35 (show (tL 7).length ≤ 2 by decide) (by decide)⟩
      refine j_iload dL_undone_334 rfl ?_
      obtain ⟨fsh37, hoh37⟩ := hBh36.o
      refine j_callV (ct_appendI (v := m10) hBh36 (by omega) (by have := hlh36; have := dl_1000 (v := m10) (by omega); omega)) dL_undone_336 jc_L_219 jmV_J4_append_bf812 rfl rfl hoh37 rfl rfl (by decide) (jfr_of rfl rfl) (Nat.le_of_ble_eq_true rfl) ⟨Nat.le_of_ble_eq_true rfl, Nat.le_of_ble_eq_true rfl⟩ (show nc10 + 0 + 1 + 600 + 1 + 1 + 1 + 1 + 1 + 1 ≤ 14200 ∧ ns10 + 0 + 6 + 3600 + 4 + 16 + 34 + 34 + 34 + 34 ≤ 539700 by omega) (fun r h37 hp9 => ?_) (fun E h9 q => q.elim)
      obtain ⟨rfl, hBh37, hxh37⟩ := hp9
      have hGh37 := hGh36.app (k := 510) (by decide) hxh37
      obtain ⟨lh37, hBh37, hlh37⟩ : ∃ l, jBl 510 l h37 ∧ l.length ≤ 11 := ⟨_, hBh37, apl hlh36 (dgs_l3 (by omega)) (by decide)⟩
      refine j_ldcT (i := 4) (by decide) (pNw.of rfl) rfl dL_undone_339 ?_
      obtain ⟨fsh38, hoh38⟩ := hBh37.o
      refine j_callVF (ct_append (r := 408) hBh37 (.inl ⟨4, by decide, rfl, rfl⟩) (by decide) (by decide) (by have := hlh37; have := (show (tL 4).length ≤ 1 by decide); omega)) dL_undone_341 jc_L_216 jmV_J4_append_15ec4 rfl (pNw.of rfl) rfl (pRc.ob (ci := 6) hoh38 rfl) rfl (by decide) (jfr_of rfl rfl) (Nat.le_of_ble_eq_true rfl) ⟨Nat.le_of_ble_eq_true rfl, Nat.le_of_ble_eq_true rfl⟩ (show nc10 + 0 + 1 + 600 + 1 + 1 + 1 + 1 + 1 + 1 + 1 ≤ 14200 ∧ ns10 + 0 + 6 + 3600 + 4 + 16 + 34 + 34 + 34 + 34 + 34 ≤ 539700 by omega) (fun r h38 hp9 => ?_) (fun E h9 q => q.elim)
      obtain ⟨rfl, hBh38, hxh38⟩ := hp9
      have hGh38 := hGh37.app (k := 510) (by decide) hxh38
      obtain ⟨lh38, hBh38, hlh38⟩ : ∃ l, jBl 510 l h38 ∧ l.length ≤ 12 := ⟨_, hBh38, apl hlh37 (show (tL 4).length ≤ 1 by decide) (by decide)⟩
      refine j_iload dL_undone_344 rfl ?_
      refine j_bipush dL_undone_346 (by decide +kernel) ?_
      refine j_iushr 10 ⟨by decide, by decide⟩ dL_undone_348 (by decide +kernel) (fun z39 z39a z39b => ?_)
      refine j_sipush dL_undone_349 (by decide +kernel) ?_
      refine j_rem dL_undone_352 (by omega) (by omega) (fun m40a m40b => ?_)
      generalize z39 % 1000 = m40 at m40a m40b ⊢
      obtain ⟨fsh41, hoh41⟩ := hBh38.o
      refine j_callV (ct_appendI (v := m40) hBh38 (by omega) (by have := hlh38; have := dl_1000 (v := m40) (by omega); omega)) dL_undone_353 jc_L_219 jmV_J4_append_bf812 rfl rfl hoh41 rfl rfl (by decide) (jfr_of rfl rfl) (Nat.le_of_ble_eq_true rfl) ⟨Nat.le_of_ble_eq_true rfl, Nat.le_of_ble_eq_true rfl⟩ (show nc10 + 0 + 1 + 600 + 1 + 1 + 1 + 1 + 1 + 1 + 1 + 1 ≤ 14200 ∧ ns10 + 0 + 6 + 3600 + 4 + 16 + 34 + 34 + 34 + 34 + 34 + 34 ≤ 539700 by omega) (fun r h41 hp9 => ?_) (fun E h9 q => q.elim)
      obtain ⟨rfl, hBh41, hxh41⟩ := hp9
      have hGh41 := hGh38.app (k := 510) (by decide) hxh41
      obtain ⟨lh41, hBh41, hlh41⟩ : ∃ l, jBl 510 l h41 ∧ l.length ≤ 15 := ⟨_, hBh41, apl hlh38 (dgs_l3 (by omega)) (by decide)⟩
      refine j_iload dL_undone_356 rfl ?_
      refine j_bipush dL_undone_358 (by decide +kernel) ?_
      refine j_rem dL_undone_360 (by omega) (by omega) (fun m42a m42b => ?_)
      generalize z5 % 22 = m42 at m42a m42b ⊢
      refine j_bipush dL_undone_361 (by decide +kernel) ?_
      refine j_icmp_ge (tgt := 371) dL_undone_363 (by decide) (by omega) (fun c363 => ?_) (fun c363 => ?_)
      · refine j_new (k := 513) (ci := 6) (fs := [.null, iv 0, iv 0, iv 0]) tyJ4 dL_undone_371 wd9h_898 wd9h_193 wd9h_53 rfl tyJ4_ok (fun j hj => match j, hj with | 0, _ => rfl | 1, _ => rfl | 2, _ => rfl | 3, _ => rfl | n9 + 4, hj => absurd hj (by omega)) (jz0_of rfl) (hGh41.2 513 (by decide) (by decide)) (by decide) (jfr_of rfl rfl) (show nc10 + 0 + 1 + 600 + 1 + 1 + 1 + 1 + 1 + 1 + 1 + 1 + 1 ≤ 14200 ∧ ns10 + 0 + 6 + 3600 + 4 + 16 + 34 + 34 + 34 + 34 + 34 + 34 + 4 ≤ 539700 by omega) ?_
        refine j_dup dL_undone_374 rfl ?_
        refine j_callI (ct_init0 (k := 513) jup_s (jup_n (by decide) (hGh41.2 514 (by decide) (by decide))) (jup_n (by decide) (hGh41.2 515 (by decide) (by decide)))) dL_undone_375 jc_L_213 jmI_J4_init_da8c8 rfl rfl rfl rfl rfl (by decide) (jfr_of rfl rfl) (Nat.le_of_ble_eq_true rfl) ⟨Nat.le_of_ble_eq_true rfl, Nat.le_of_ble_eq_true rfl⟩ (show nc10 + 0 + 1 + 600 + 1 + 1 + 1 + 1 + 1 + 1 + 1 + 1 + 1 + 1 ≤ 14200 ∧ ns10 + 0 + 6 + 3600 + 4 + 16 + 34 + 34 + 34 + 34 + 34 + 34 + 4 + 16 ≤ 539700 by omega) (fun r h43 hp9 => ?_)
        obtain ⟨rfl, hBh43, hxh43⟩ := hp9
        have hGh43 : tG H0 516 h43 := hGh41.new (by decide) hxh43
        obtain ⟨lh43, hBh43, hlh43⟩ : ∃ l, jBl 513 l h43 ∧ l.length ≤ 0 := ⟨_, hBh43, Nat.le_refl _⟩
        have hBh43_510 := hBh41.eq (fun j j0 j1 => (fun j (hj : j < 513) => (hxh43 j (by omega)).trans (jup_n (by omega) rfl)) j (by omega))
        refine j_ldcTW (i := 8) (by decide) (pNw.of rfl) rfl dL_undone_378 ?_
        obtain ⟨fsh44, hoh44⟩ := hBh43.o
        refine j_callVF (ct_append (r := 416) hBh43 (.inl ⟨8, by decide, rfl, rfl⟩) (by decide) (by decide) (by have := hlh43; have := (show (tL 8).length ≤ 2 by decide); omega)) dL_undone_381 jc_L_216 jmV_J4_append_15ec4 rfl (pNw.of rfl) rfl (pRc.ob (ci := 6) hoh44 rfl) rfl (by decide) (jfr_of rfl rfl) (Nat.le_of_ble_eq_true rfl) ⟨Nat.le_of_ble_eq_true rfl, Nat.le_of_ble_eq_true rfl⟩ (show nc10 + 0 + 1 + 600 + 1 + 1 + 1 + 1 + 1 + 1 + 1 + 1 + 1 + 1 + 1 ≤ 14200 ∧ ns10 + 0 + 6 + 3600 + 4 + 16 + 34 + 34 + 34 + 34 + 34 + 34 + 4 + 16 + 34 ≤ 539700 by omega) (fun r h44 hp9 => ?_) (fun E h9 q => q.elim)
        obtain ⟨rfl, hBh44, hxh44⟩ := hp9
        have hGh44 := hGh43.app (k := 513) (by decide) hxh44
        obtain ⟨lh44, hBh44, hlh44⟩ : ∃ l, jBl 513 l h44 ∧ l.length ≤ 2 := ⟨_, hBh44, apl hlh43 (show (tL 8).length ≤ 2 by decide) (by decide)⟩
        have hBh44_510 := hBh43_510.eq (fun j j0 j1 => hxh44 j (by omega))
        refine j_iload dL_undone_384 rfl ?_
        obtain ⟨fsh45, hoh45⟩ := hBh44.o
        refine j_callV (ct_appendI (v := m8) hBh44 (by omega) (by have := hlh44; have := dl_1000 (v := m8) (by omega); omega)) dL_undone_386 jc_L_219 jmV_J4_append_bf812 rfl rfl hoh45 rfl rfl (by decide) (jfr_of rfl rfl) (Nat.le_of_ble_eq_true rfl) ⟨Nat.le_of_ble_eq_true rfl, Nat.le_of_ble_eq_true rfl⟩ (show nc10 + 0 + 1 + 600 + 1 + 1 + 1 + 1 + 1 + 1 + 1 + 1 + 1 + 1 + 1 + 1 ≤ 14200 ∧ ns10 + 0 + 6 + 3600 + 4 + 16 + 34 + 34 + 34 + 34 + 34 + 34 + 4 + 16 + 34 + 34 ≤ 539700 by omega) (fun r h45 hp9 => ?_) (fun E h9 q => q.elim)
        obtain ⟨rfl, hBh45, hxh45⟩ := hp9
        have hGh45 := hGh44.app (k := 513) (by decide) hxh45
        obtain ⟨lh45, hBh45, hlh45⟩ : ∃ l, jBl 513 l h45 ∧ l.length ≤ 5 := ⟨_, hBh45, apl hlh44 (dgs_l3 (by omega)) (by decide)⟩
        have hBh45_510 := hBh44_510.eq (fun j j0 j1 => hxh45 j (by omega))
        refine j_ldcT (i := 3) (by decide) (pNw.of rfl) rfl dL_undone_389 ?_
        obtain ⟨fsh46, hoh46⟩ := hBh45.o
        refine j_callVF (ct_append (r := 406) hBh45 (.inl ⟨3, by decide, rfl, rfl⟩) (by decide) (by decide) (by have := hlh45; have := (show (tL 3).length ≤ 1 by decide); omega)) dL_undone_391 jc_L_216 jmV_J4_append_15ec4 rfl (pNw.of rfl) rfl (pRc.ob (ci := 6) hoh46 rfl) rfl (by decide) (jfr_of rfl rfl) (Nat.le_of_ble_eq_true rfl) ⟨Nat.le_of_ble_eq_true rfl, Nat.le_of_ble_eq_true rfl⟩ (show nc10 + 0 + 1 + 600 + 1 + 1 + 1 + 1 + 1 + 1 + 1 + 1 + 1 + 1 + 1 + 1 + 1 ≤ 14200 ∧ ns10 + 0 + 6 + 3600 + 4 + 16 + 34 + 34 + 34 + 34 + 34 + 34 + 4 + 16 + 34 + 34 + 34 ≤ 539700 by omega) (fun r h46 hp9 => ?_) (fun E h9 q => q.elim)
        obtain ⟨rfl, hBh46, hxh46⟩ := hp9
        have hGh46 := hGh45.app (k := 513) (by decide) hxh46
        obtain ⟨lh46, hBh46, hlh46⟩ : ∃ l, jBl 513 l h46 ∧ l.length ≤ 6 := ⟨_, hBh46, apl hlh45 (show (tL 3).length ≤ 1 by decide) (by decide)⟩
        have hBh46_510 := hBh45_510.eq (fun j j0 j1 => hxh46 j (by omega))
        refine j_iload dL_undone_394 rfl ?_
        obtain ⟨fsh47, hoh47⟩ := hBh46.o
        refine j_callV (ct_appendI (v := m10) hBh46 (by omega) (by have := hlh46; have := dl_1000 (v := m10) (by omega); omega)) dL_undone_396 jc_L_219 jmV_J4_append_bf812 rfl rfl hoh47 rfl rfl (by decide) (jfr_of rfl rfl) (Nat.le_of_ble_eq_true rfl) ⟨Nat.le_of_ble_eq_true rfl, Nat.le_of_ble_eq_true rfl⟩ (show nc10 + 0 + 1 + 600 + 1 + 1 + 1 + 1 + 1 + 1 + 1 + 1 + 1 + 1 + 1 + 1 + 1 + 1 ≤ 14200 ∧ ns10 + 0 + 6 + 3600 + 4 + 16 + 34 + 34 + 34 + 34 + 34 + 34 + 4 + 16 + 34 + 34 + 34 + 34 ≤ 539700 by omega) (fun r h47 hp9 => ?_) (fun E h9 q => q.elim)
        obtain ⟨rfl, hBh47, hxh47⟩ := hp9
        have hGh47 := hGh46.app (k := 513) (by decide) hxh47
        obtain ⟨lh47, hBh47, hlh47⟩ : ∃ l, jBl 513 l h47 ∧ l.length ≤ 9 := ⟨_, hBh47, apl hlh46 (dgs_l3 (by omega)) (by decide)⟩
        have hBh47_510 := hBh46_510.eq (fun j j0 j1 => hxh47 j (by omega))
        obtain ⟨fsh48, hoh48⟩ := hBh47.o
        refine j_callVF (ct_toString (r := 516) hBh47 (hGh47.2 516 (by decide) (by decide)) (hGh47.2 517 (by decide) (by decide)) (by decide) (by decide)) dL_undone_399 jc_L_226 jmV_J4_toString_0e30d rfl (pNw.of rfl) rfl (pRc.ob (ci := 6) hoh48 rfl) rfl (by decide) (jfr_of rfl rfl) (Nat.le_of_ble_eq_true rfl) ⟨Nat.le_of_ble_eq_true rfl, Nat.le_of_ble_eq_true rfl⟩ (show nc10 + 0 + 1 + 600 + 1 + 1 + 1 + 1 + 1 + 1 + 1 + 1 + 1 + 1 + 1 + 1 + 1 + 1 + 2 ≤ 14200 ∧ ns10 + 0 + 6 + 3600 + 4 + 16 + 34 + 34 + 34 + 34 + 34 + 34 + 4 + 16 + 34 + 34 + 34 + 34 + 38 ≤ 539700 by omega) (fun r h48 hp9 => ?_) (fun E h9 q => q.elim)
        obtain ⟨rfl, hSh48, hyh48⟩ := hp9
        have hGh48 : tG H0 518 h48 := hGh47.str (by decide) hyh48
        have hBh48 := hBh47_510.eq (fun j j0 j1 => hyh48 j (by omega) (by omega))
        obtain ⟨fsh49, hoh49⟩ := hBh48.o
        refine j_callVF (ct_append (r := 516) hBh48 (.inr hSh48) (by decide) (by decide) (by have := hlh41; have := hlh47; omega)) dL_undone_402 jc_L_216 jmV_J4_append_15ec4 rfl (pNw.of rfl) rfl (pRc.ob (ci := 6) hoh49 rfl) rfl (by decide) (jfr_of rfl rfl) (Nat.le_of_ble_eq_true rfl) ⟨Nat.le_of_ble_eq_true rfl, Nat.le_of_ble_eq_true rfl⟩ (show nc10 + 0 + 1 + 600 + 1 + 1 + 1 + 1 + 1 + 1 + 1 + 1 + 1 + 1 + 1 + 1 + 1 + 1 + 2 + 1 ≤ 14200 ∧ ns10 + 0 + 6 + 3600 + 4 + 16 + 34 + 34 + 34 + 34 + 34 + 34 + 4 + 16 + 34 + 34 + 34 + 34 + 38 + 34 ≤ 539700 by omega) (fun r h49 hp9 => ?_) (fun E h9 q => q.elim)
        obtain ⟨rfl, hBh49, hxh49⟩ := hp9
        have hGh49 := hGh48.app (k := 510) (by decide) hxh49
        obtain ⟨lh49, hBh49, hlh49⟩ : ∃ l, jBl 510 l h49 ∧ l.length ≤ 24 := ⟨_, hBh49, apl hlh41 hlh47 (by decide)⟩
        refine j_ldcTW (i := 9) (by decide) (pNw.of rfl) rfl dL_undone_405 ?_
        obtain ⟨fsh50, hoh50⟩ := hBh49.o
        refine j_callVF (ct_append (r := 418) hBh49 (.inl ⟨9, by decide, rfl, rfl⟩) (by decide) (by decide) (by have := hlh49; have := (show (tL 9).length ≤ 2 by decide); omega)) dL_undone_408 jc_L_216 jmV_J4_append_15ec4 rfl (pNw.of rfl) rfl (pRc.ob (ci := 6) hoh50 rfl) rfl (by decide) (jfr_of rfl rfl) (Nat.le_of_ble_eq_true rfl) ⟨Nat.le_of_ble_eq_true rfl, Nat.le_of_ble_eq_true rfl⟩ (show nc10 + 0 + 1 + 600 + 1 + 1 + 1 + 1 + 1 + 1 + 1 + 1 + 1 + 1 + 1 + 1 + 1 + 1 + 2 + 1 + 1 ≤ 14200 ∧ ns10 + 0 + 6 + 3600 + 4 + 16 + 34 + 34 + 34 + 34 + 34 + 34 + 4 + 16 + 34 + 34 + 34 + 34 + 38 + 34 + 34 ≤ 539700 by omega) (fun r h50 hp9 => ?_) (fun E h9 q => q.elim)
        obtain ⟨rfl, hBh50, hxh50⟩ := hp9
        have hGh50 := hGh49.app (k := 510) (by decide) hxh50
        obtain ⟨lh50, hBh50, hlh50⟩ : ∃ l, jBl 510 l h50 ∧ l.length ≤ 26 := ⟨_, hBh50, apl hlh49 (show (tL 9).length ≤ 2 by decide) (by decide)⟩
        refine j_iload dL_undone_411 rfl ?_
        obtain ⟨fsh51, hoh51⟩ := hBh50.o
        refine j_callV (ct_appendI (v := m10) hBh50 (by omega) (by have := hlh50; have := dl_1000 (v := m10) (by omega); omega)) dL_undone_413 jc_L_219 jmV_J4_append_bf812 rfl rfl hoh51 rfl rfl (by decide) (jfr_of rfl rfl) (Nat.le_of_ble_eq_true rfl) ⟨Nat.le_of_ble_eq_true rfl, Nat.le_of_ble_eq_true rfl⟩ (show nc10 + 0 + 1 + 600 + 1 + 1 + 1 + 1 + 1 + 1 + 1 + 1 + 1 + 1 + 1 + 1 + 1 + 1 + 2 + 1 + 1 + 1 ≤ 14200 ∧ ns10 + 0 + 6 + 3600 + 4 + 16 + 34 + 34 + 34 + 34 + 34 + 34 + 4 + 16 + 34 + 34 + 34 + 34 + 38 + 34 + 34 + 34 ≤ 539700 by omega) (fun r h51 hp9 => ?_) (fun E h9 q => q.elim)
        obtain ⟨rfl, hBh51, hxh51⟩ := hp9
        have hGh51 := hGh50.app (k := 510) (by decide) hxh51
        obtain ⟨lh51, hBh51, hlh51⟩ : ∃ l, jBl 510 l h51 ∧ l.length ≤ 29 := ⟨_, hBh51, apl hlh50 (dgs_l3 (by omega)) (by decide)⟩
        obtain ⟨r, hr, hr4⟩ : ∃ r : Nat, r = 540 + 2 * i.toNat ∧ (540 ≤ r ∧ r ≤ 570) := ⟨_, rfl, by omega⟩
        have hr0 : H0 r = none := hF0 r (by omega) (by omega) (by omega)
        have hr1 : H0 (r + 1) = none := hF0 (r + 1) (by omega) (by omega) (by omega)
        obtain ⟨fsh52, hoh52⟩ := hBh51.o
        refine j_callVF (ct_toString (r := r) hBh51 ((hGh51.1 r (by omega)).trans hr0) ((hGh51.1 (r + 1) (by omega)).trans hr1) (by omega) (by omega)) dL_undone_416 jc_L_226 jmV_J4_toString_0e30d rfl (pNw.of rfl) rfl (pRc.ob (ci := 6) hoh52 rfl) rfl (nwU_r hr4) (jfr_v hr4.1 rfl rfl) (Nat.le_of_ble_eq_true rfl) ⟨Nat.le_of_ble_eq_true rfl, Nat.le_of_ble_eq_true rfl⟩ (show nc10 + 0 + 1 + 600 + 1 + 1 + 1 + 1 + 1 + 1 + 1 + 1 + 1 + 1 + 1 + 1 + 1 + 1 + 2 + 1 + 1 + 1 + 2 ≤ 14200 ∧ ns10 + 0 + 6 + 3600 + 4 + 16 + 34 + 34 + 34 + 34 + 34 + 34 + 4 + 16 + 34 + 34 + 34 + 34 + 38 + 34 + 34 + 34 + 38 ≤ 539700 by omega) (fun r9 h52 hp9 => ?_) (fun E h9 q => q.elim)
        obtain ⟨rfl, hSt, hy9⟩ := hp9
        obtain ⟨hd, hd1, hd2, hd3, hd4⟩ := t_drop2 (a := 510) (b := 530) (by rw [hH0]; exact hclb2) (fun j j0 j1 => hF0 j (by omega) (by omega) (by omega)) hr0 hr1 (by omega) (fun j j0 j1 j2 => (hy9 j j1 j2).trans (hGh51.1 j j0)) hSt
        refine J.drop (h' := hd) hd1 hd2 ?_
        have hd5 : ∀ j, j ≠ r → j ≠ r + 1 → hd j = (jup hb 500 (jA 4 9 (jfu S m (sumF K)))) j := fun j j0 j1 => by rw [← hH0]; exact hd4 j j0 j1
        have hdC := ((hbC.up (k := 500) (x := (jA 4 9 (jfu S m (sumF K)))) (by decide))).eq (fun j hj => hd5 j (by omega) (by omega)) ((hd5 300 (by omega) (by omega)).trans ((hbC.up (k := 500) (x := (jA 4 9 (jfu S m (sumF K)))) (by decide))).2.2.2)
        refine j_callSF (m_run hdC (by omega) hd3 (by have := hlh51; omega) (by omega)) dL_undone_419 jc_L_279 jmS_L_run rfl (pNw.of rfl) rfl rfl (by decide) (jfr_of rfl rfl) (Nat.le_of_ble_eq_true rfl) ⟨Nat.le_of_ble_eq_true rfl, Nat.le_of_ble_eq_true rfl⟩ (show nc10 + 0 + 1 + 600 + 1 + 1 + 1 + 1 + 1 + 1 + 1 + 1 + 1 + 1 + 1 + 1 + 1 + 1 + 2 + 1 + 1 + 1 + 2 + 70 ≤ 14200 ∧ ns10 + 0 + 6 + 3600 + 4 + 16 + 34 + 34 + 34 + 34 + 34 + 34 + 4 + 16 + 34 + 34 + 34 + 34 + 38 + 34 + 34 + 34 + 38 + 420 ≤ 539700 by omega) (fun r9 hz hp9 => ?_) (fun E h9 q => q.elim)
        obtain ⟨hs9, hq9⟩ := hp9
        have hs5 : hz 500 = some (jA 4 9 (jfu S m (sumF K))) := (hs9 500 (by decide)).trans ((hd5 500 (by omega) (by omega)).trans jup_s)
        have hz9 : ∀ j, 120 ≤ j → j ≠ 500 → j ≠ r → j ≠ r + 1 → hz j = hb j := fun j j0 j1 j2 j3 => (hs9 j j0).trans ((hd5 j j2 j3).trans (jup_n j1 rfl))
        rcases hq9 with ⟨v9, K9, rfl, hv9, hC9⟩ | ⟨v9, rfl, hv9, hC9⟩
        · refine J.heap (h2 := jup hz 500 (jA 4 9 (jfu S m (sumF K)))) (jup_id hs5) ?_
          refine j_if_lt (tgt := 429) dL_undone_422 (by decide) (by omega) (fun c422 => (False.elim (by omega))) (fun c422 => ?_)
          refine j_iconst dL_undone_425 ?_
          refine j_goto (tgt := 430) dL_undone_426 (by decide) ?_
          refine j_istore (L' := [(0, _), (1, _), (2, _), (3, _), (4, _), (5, _), (6, _), (7, _), (8, _), (9, _), (10, _)]) dL_undone_430 (Nat.le_of_ble_eq_true rfl) rfl ?_
          refine j_iload dL_undone_432 rfl ?_
          refine j_if_ne (tgt := 450) dL_undone_434 (by decide) (by omega) (fun c434 => ?_) (fun c434 => (False.elim (by omega)))
          refine j_iload_n dL_undone_450 rfl rfl ?_
          refine j_iload dL_undone_451 rfl ?_
          refine j_if_eq (tgt := 460) dL_undone_453 (by decide) (by omega) (fun c453 => (False.elim (by omega))) (fun c453 => ?_)
          refine j_iconst dL_undone_456 ?_
          refine j_goto (tgt := 461) dL_undone_457 (by decide) ?_
          refine j_iadd dL_undone_461 ?_
          refine j_istore_n (L' := [(0, _), (1, _), (2, _), (3, _), (4, _), (5, _), (6, _), (7, _), (8, _), (9, _), (10, _)]) dL_undone_462 rfl (Nat.le_of_ble_eq_true rfl) rfl ?_
          refine j_iinc (L' := [(0, _), (1, _), (2, _), (3, _), (4, _), (5, _), (6, _), (7, _), (8, _), (9, _), (10, _)]) dL_undone_463 rfl (Nat.le_of_ble_eq_true rfl) rfl ?_
          refine j_goto (tgt := 10) dL_undone_466 (by decide) ?_
          refine J.keep [0, 1, 2, 3, 4] (L' := [(0, _), (1, _), (2, _), (3, _), (4, _)]) rfl ?_
          have hps := (j3.s hbC.1.2 hbC.nn (by omega)).2
          refine ih10 (i + 1, m + 1, (jfu S m (sumF K)), K9, (xP n P K), (xN n), (B + 61000), hz, nc10 + 0 + 1 + 600 + 1 + 1 + 1 + 1 + 1 + 1 + 1 + 1 + 1 + 1 + 1 + 1 + 1 + 1 + 2 + 1 + 1 + 1 + 2 + 70, ns10 + 0 + 6 + 3600 + 4 + 16 + 34 + 34 + 34 + 34 + 34 + 34 + 4 + 16 + 34 + 34 + 34 + 34 + 38 + 34 + 34 + 34 + 38 + 420) ?_ ?_
          · dsimp only
            exact ⟨by omega, by omega, (j3.s hbC.1.2 hbC.nn (by omega)).1, hC9, by omega, (fun j j0 j1 j2 => (hz9 j j0 j1 (by omega) (by omega)).trans (hbN j j0 j1 (by omega))), by omega, by omega⟩
          · dsimp only
            omega
        · refine J.heap (h2 := jup hz 500 (jA 4 9 (jfu S m (sumF K)))) (jup_id hs5) ?_
          refine j_if_lt (tgt := 429) dL_undone_422 (by decide) (by omega) (fun c422 => ?_) (fun c422 => (False.elim (by omega)))
          refine j_iconst dL_undone_429 ?_
          refine j_istore (L' := [(0, _), (1, _), (2, _), (3, _), (4, _), (5, _), (6, _), (7, _), (8, _), (9, _), (10, _)]) dL_undone_430 (Nat.le_of_ble_eq_true rfl) rfl ?_
          refine j_iload dL_undone_432 rfl ?_
          refine j_if_ne (tgt := 450) dL_undone_434 (by decide) (by omega) (fun c434 => (False.elim (by omega))) (fun c434 => ?_)
          refine j_aload_n dL_undone_437 rfl rfl ?_
          refine j_callS (m_sum (hC9.up (k := 500) (x := (jA 4 9 (jfu S m (sumF K)))) (by decide))) dL_undone_438 jc_L_267 jmS_L_sum rfl rfl rfl (by decide) (jfr_of rfl rfl) (Nat.le_of_ble_eq_true rfl) ⟨Nat.le_of_ble_eq_true rfl, Nat.le_of_ble_eq_true rfl⟩ (show nc10 + 0 + 1 + 600 + 1 + 1 + 1 + 1 + 1 + 1 + 1 + 1 + 1 + 1 + 1 + 1 + 1 + 1 + 2 + 1 + 1 + 1 + 2 + 70 + 600 ≤ 14200 ∧ ns10 + 0 + 6 + 3600 + 4 + 16 + 34 + 34 + 34 + 34 + 34 + 34 + 4 + 16 + 34 + 34 + 34 + 34 + 38 + 34 + 34 + 34 + 38 + 420 + 3600 ≤ 539700 by omega) (fun r h53 hp9 => ?_) (fun E h9 q => q.elim)
          obtain ⟨rfl, rfl⟩ := hp9
          refine j_aload_n dL_undone_441 rfl rfl ?_
          refine j_iload_n dL_undone_442 rfl rfl ?_
          refine j_laload (f := (jfu S m (sumF K))) dL_undone_443 jup_s (by omega) (by omega) ?_
          rw [jfu_s]
          refine j_lcmpR dL_undone_444 ?_
          refine j_if_eq (tgt := 450) dL_undone_445 (by decide) (by omega) (fun c445 => ?_) (fun c445 => (False.elim (by omega)))
          refine j_iload_n dL_undone_450 rfl rfl ?_
          refine j_iload dL_undone_451 rfl ?_
          refine j_if_eq (tgt := 460) dL_undone_453 (by decide) (by omega) (fun c453 => ?_) (fun c453 => (False.elim (by omega)))
          refine j_iconst dL_undone_460 ?_
          refine j_iadd dL_undone_461 ?_
          refine j_istore_n (L' := [(0, _), (1, _), (2, _), (3, _), (4, _), (5, _), (6, _), (7, _), (8, _), (9, _), (10, _)]) dL_undone_462 rfl (Nat.le_of_ble_eq_true rfl) rfl ?_
          refine j_iinc (L' := [(0, _), (1, _), (2, _), (3, _), (4, _), (5, _), (6, _), (7, _), (8, _), (9, _), (10, _)]) dL_undone_463 rfl (Nat.le_of_ble_eq_true rfl) rfl ?_
          refine j_goto (tgt := 10) dL_undone_466 (by decide) ?_
          refine J.keep [0, 1, 2, 3, 4] (L' := [(0, _), (1, _), (2, _), (3, _), (4, _)]) rfl ?_
          refine ih10 (i + 1, m + 0, (jfu S m (sumF K)), K, P, n, (B + 61000), hz, nc10 + 0 + 1 + 600 + 1 + 1 + 1 + 1 + 1 + 1 + 1 + 1 + 1 + 1 + 1 + 1 + 1 + 1 + 2 + 1 + 1 + 1 + 2 + 70 + 600, ns10 + 0 + 6 + 3600 + 4 + 16 + 34 + 34 + 34 + 34 + 34 + 34 + 4 + 16 + 34 + 34 + 34 + 34 + 38 + 34 + 34 + 34 + 38 + 420 + 3600) ?_ ?_
          · dsimp only
            exact ⟨by omega, by omega, (by rw [show m + 0 = m by omega]; exact j3.f), hC9, by omega, (fun j j0 j1 j2 => (hz9 j j0 j1 (by omega) (by omega)).trans (hbN j j0 j1 (by omega))), by omega, by omega⟩
          · dsimp only
            omega
      · refine j_ldcT (i := 1) (by decide) (pNw.of rfl) rfl dL_undone_366 ?_
        refine j_goto (tgt := 402) dL_undone_368 (by decide) ?_
        obtain ⟨fsh54, hoh54⟩ := hBh41.o
        refine j_callVF (ct_append (r := 402) hBh41 (.inl ⟨1, by decide, rfl, rfl⟩) (by decide) (by decide) (by have := hlh41; have := (show (tL 1).length ≤ 0 by decide); omega)) dL_undone_402 jc_L_216 jmV_J4_append_15ec4 rfl (pNw.of rfl) rfl (pRc.ob (ci := 6) hoh54 rfl) rfl (by decide) (jfr_of rfl rfl) (Nat.le_of_ble_eq_true rfl) ⟨Nat.le_of_ble_eq_true rfl, Nat.le_of_ble_eq_true rfl⟩ (show nc10 + 0 + 1 + 600 + 1 + 1 + 1 + 1 + 1 + 1 + 1 + 1 + 1 ≤ 14200 ∧ ns10 + 0 + 6 + 3600 + 4 + 16 + 34 + 34 + 34 + 34 + 34 + 34 + 34 ≤ 539700 by omega) (fun r h54 hp9 => ?_) (fun E h9 q => q.elim)
        obtain ⟨rfl, hBh54, hxh54⟩ := hp9
        have hGh54 := hGh41.app (k := 510) (by decide) hxh54
        obtain ⟨lh54, hBh54, hlh54⟩ : ∃ l, jBl 510 l h54 ∧ l.length ≤ 15 := ⟨_, hBh54, apl hlh41 (show (tL 1).length ≤ 0 by decide) (by decide)⟩
        refine j_ldcTW (i := 9) (by decide) (pNw.of rfl) rfl dL_undone_405 ?_
        obtain ⟨fsh55, hoh55⟩ := hBh54.o
        refine j_callVF (ct_append (r := 418) hBh54 (.inl ⟨9, by decide, rfl, rfl⟩) (by decide) (by decide) (by have := hlh54; have := (show (tL 9).length ≤ 2 by decide); omega)) dL_undone_408 jc_L_216 jmV_J4_append_15ec4 rfl (pNw.of rfl) rfl (pRc.ob (ci := 6) hoh55 rfl) rfl (by decide) (jfr_of rfl rfl) (Nat.le_of_ble_eq_true rfl) ⟨Nat.le_of_ble_eq_true rfl, Nat.le_of_ble_eq_true rfl⟩ (show nc10 + 0 + 1 + 600 + 1 + 1 + 1 + 1 + 1 + 1 + 1 + 1 + 1 + 1 ≤ 14200 ∧ ns10 + 0 + 6 + 3600 + 4 + 16 + 34 + 34 + 34 + 34 + 34 + 34 + 34 + 34 ≤ 539700 by omega) (fun r h55 hp9 => ?_) (fun E h9 q => q.elim)
        obtain ⟨rfl, hBh55, hxh55⟩ := hp9
        have hGh55 := hGh54.app (k := 510) (by decide) hxh55
        obtain ⟨lh55, hBh55, hlh55⟩ : ∃ l, jBl 510 l h55 ∧ l.length ≤ 17 := ⟨_, hBh55, apl hlh54 (show (tL 9).length ≤ 2 by decide) (by decide)⟩
        refine j_iload dL_undone_411 rfl ?_
        obtain ⟨fsh56, hoh56⟩ := hBh55.o
        refine j_callV (ct_appendI (v := m10) hBh55 (by omega) (by have := hlh55; have := dl_1000 (v := m10) (by omega); omega)) dL_undone_413 jc_L_219 jmV_J4_append_bf812 rfl rfl hoh56 rfl rfl (by decide) (jfr_of rfl rfl) (Nat.le_of_ble_eq_true rfl) ⟨Nat.le_of_ble_eq_true rfl, Nat.le_of_ble_eq_true rfl⟩ (show nc10 + 0 + 1 + 600 + 1 + 1 + 1 + 1 + 1 + 1 + 1 + 1 + 1 + 1 + 1 ≤ 14200 ∧ ns10 + 0 + 6 + 3600 + 4 + 16 + 34 + 34 + 34 + 34 + 34 + 34 + 34 + 34 + 34 ≤ 539700 by omega) (fun r h56 hp9 => ?_) (fun E h9 q => q.elim)
        obtain ⟨rfl, hBh56, hxh56⟩ := hp9
        have hGh56 := hGh55.app (k := 510) (by decide) hxh56
        obtain ⟨lh56, hBh56, hlh56⟩ : ∃ l, jBl 510 l h56 ∧ l.length ≤ 20 := ⟨_, hBh56, apl hlh55 (dgs_l3 (by omega)) (by decide)⟩
        obtain ⟨r, hr, hr4⟩ : ∃ r : Nat, r = 540 + 2 * i.toNat ∧ (540 ≤ r ∧ r ≤ 570) := ⟨_, rfl, by omega⟩
        have hr0 : H0 r = none := hF0 r (by omega) (by omega) (by omega)
        have hr1 : H0 (r + 1) = none := hF0 (r + 1) (by omega) (by omega) (by omega)
        obtain ⟨fsh57, hoh57⟩ := hBh56.o
        refine j_callVF (ct_toString (r := r) hBh56 ((hGh56.1 r (by omega)).trans hr0) ((hGh56.1 (r + 1) (by omega)).trans hr1) (by omega) (by omega)) dL_undone_416 jc_L_226 jmV_J4_toString_0e30d rfl (pNw.of rfl) rfl (pRc.ob (ci := 6) hoh57 rfl) rfl (nwU_r hr4) (jfr_v hr4.1 rfl rfl) (Nat.le_of_ble_eq_true rfl) ⟨Nat.le_of_ble_eq_true rfl, Nat.le_of_ble_eq_true rfl⟩ (show nc10 + 0 + 1 + 600 + 1 + 1 + 1 + 1 + 1 + 1 + 1 + 1 + 1 + 1 + 1 + 2 ≤ 14200 ∧ ns10 + 0 + 6 + 3600 + 4 + 16 + 34 + 34 + 34 + 34 + 34 + 34 + 34 + 34 + 34 + 38 ≤ 539700 by omega) (fun r9 h57 hp9 => ?_) (fun E h9 q => q.elim)
        obtain ⟨rfl, hSt, hy9⟩ := hp9
        obtain ⟨hd, hd1, hd2, hd3, hd4⟩ := t_drop2 (a := 510) (b := 530) (by rw [hH0]; exact hclb2) (fun j j0 j1 => hF0 j (by omega) (by omega) (by omega)) hr0 hr1 (by omega) (fun j j0 j1 j2 => (hy9 j j1 j2).trans (hGh56.1 j j0)) hSt
        refine J.drop (h' := hd) hd1 hd2 ?_
        have hd5 : ∀ j, j ≠ r → j ≠ r + 1 → hd j = (jup hb 500 (jA 4 9 (jfu S m (sumF K)))) j := fun j j0 j1 => by rw [← hH0]; exact hd4 j j0 j1
        have hdC := ((hbC.up (k := 500) (x := (jA 4 9 (jfu S m (sumF K)))) (by decide))).eq (fun j hj => hd5 j (by omega) (by omega)) ((hd5 300 (by omega) (by omega)).trans ((hbC.up (k := 500) (x := (jA 4 9 (jfu S m (sumF K)))) (by decide))).2.2.2)
        refine j_callSF (m_run hdC (by omega) hd3 (by have := hlh56; omega) (by omega)) dL_undone_419 jc_L_279 jmS_L_run rfl (pNw.of rfl) rfl rfl (by decide) (jfr_of rfl rfl) (Nat.le_of_ble_eq_true rfl) ⟨Nat.le_of_ble_eq_true rfl, Nat.le_of_ble_eq_true rfl⟩ (show nc10 + 0 + 1 + 600 + 1 + 1 + 1 + 1 + 1 + 1 + 1 + 1 + 1 + 1 + 1 + 2 + 70 ≤ 14200 ∧ ns10 + 0 + 6 + 3600 + 4 + 16 + 34 + 34 + 34 + 34 + 34 + 34 + 34 + 34 + 34 + 38 + 420 ≤ 539700 by omega) (fun r9 hz hp9 => ?_) (fun E h9 q => q.elim)
        obtain ⟨hs9, hq9⟩ := hp9
        have hs5 : hz 500 = some (jA 4 9 (jfu S m (sumF K))) := (hs9 500 (by decide)).trans ((hd5 500 (by omega) (by omega)).trans jup_s)
        have hz9 : ∀ j, 120 ≤ j → j ≠ 500 → j ≠ r → j ≠ r + 1 → hz j = hb j := fun j j0 j1 j2 j3 => (hs9 j j0).trans ((hd5 j j2 j3).trans (jup_n j1 rfl))
        rcases hq9 with ⟨v9, K9, rfl, hv9, hC9⟩ | ⟨v9, rfl, hv9, hC9⟩
        · refine J.heap (h2 := jup hz 500 (jA 4 9 (jfu S m (sumF K)))) (jup_id hs5) ?_
          refine j_if_lt (tgt := 429) dL_undone_422 (by decide) (by omega) (fun c422 => (False.elim (by omega))) (fun c422 => ?_)
          refine j_iconst dL_undone_425 ?_
          refine j_goto (tgt := 430) dL_undone_426 (by decide) ?_
          refine j_istore (L' := [(0, _), (1, _), (2, _), (3, _), (4, _), (5, _), (6, _), (7, _), (8, _), (9, _), (10, _)]) dL_undone_430 (Nat.le_of_ble_eq_true rfl) rfl ?_
          refine j_iload dL_undone_432 rfl ?_
          refine j_if_ne (tgt := 450) dL_undone_434 (by decide) (by omega) (fun c434 => ?_) (fun c434 => (False.elim (by omega)))
          refine j_iload_n dL_undone_450 rfl rfl ?_
          refine j_iload dL_undone_451 rfl ?_
          refine j_if_eq (tgt := 460) dL_undone_453 (by decide) (by omega) (fun c453 => (False.elim (by omega))) (fun c453 => ?_)
          refine j_iconst dL_undone_456 ?_
          refine j_goto (tgt := 461) dL_undone_457 (by decide) ?_
          refine j_iadd dL_undone_461 ?_
          refine j_istore_n (L' := [(0, _), (1, _), (2, _), (3, _), (4, _), (5, _), (6, _), (7, _), (8, _), (9, _), (10, _)]) dL_undone_462 rfl (Nat.le_of_ble_eq_true rfl) rfl ?_
          refine j_iinc (L' := [(0, _), (1, _), (2, _), (3, _), (4, _), (5, _), (6, _), (7, _), (8, _), (9, _), (10, _)]) dL_undone_463 rfl (Nat.le_of_ble_eq_true rfl) rfl ?_
          refine j_goto (tgt := 10) dL_undone_466 (by decide) ?_
          refine J.keep [0, 1, 2, 3, 4] (L' := [(0, _), (1, _), (2, _), (3, _), (4, _)]) rfl ?_
          have hps := (j3.s hbC.1.2 hbC.nn (by omega)).2
          refine ih10 (i + 1, m + 1, (jfu S m (sumF K)), K9, (xP n P K), (xN n), (B + 61000), hz, nc10 + 0 + 1 + 600 + 1 + 1 + 1 + 1 + 1 + 1 + 1 + 1 + 1 + 1 + 1 + 2 + 70, ns10 + 0 + 6 + 3600 + 4 + 16 + 34 + 34 + 34 + 34 + 34 + 34 + 34 + 34 + 34 + 38 + 420) ?_ ?_
          · dsimp only
            exact ⟨by omega, by omega, (j3.s hbC.1.2 hbC.nn (by omega)).1, hC9, by omega, (fun j j0 j1 j2 => (hz9 j j0 j1 (by omega) (by omega)).trans (hbN j j0 j1 (by omega))), by omega, by omega⟩
          · dsimp only
            omega
        · refine J.heap (h2 := jup hz 500 (jA 4 9 (jfu S m (sumF K)))) (jup_id hs5) ?_
          refine j_if_lt (tgt := 429) dL_undone_422 (by decide) (by omega) (fun c422 => ?_) (fun c422 => (False.elim (by omega)))
          refine j_iconst dL_undone_429 ?_
          refine j_istore (L' := [(0, _), (1, _), (2, _), (3, _), (4, _), (5, _), (6, _), (7, _), (8, _), (9, _), (10, _)]) dL_undone_430 (Nat.le_of_ble_eq_true rfl) rfl ?_
          refine j_iload dL_undone_432 rfl ?_
          refine j_if_ne (tgt := 450) dL_undone_434 (by decide) (by omega) (fun c434 => (False.elim (by omega))) (fun c434 => ?_)
          refine j_aload_n dL_undone_437 rfl rfl ?_
          refine j_callS (m_sum (hC9.up (k := 500) (x := (jA 4 9 (jfu S m (sumF K)))) (by decide))) dL_undone_438 jc_L_267 jmS_L_sum rfl rfl rfl (by decide) (jfr_of rfl rfl) (Nat.le_of_ble_eq_true rfl) ⟨Nat.le_of_ble_eq_true rfl, Nat.le_of_ble_eq_true rfl⟩ (show nc10 + 0 + 1 + 600 + 1 + 1 + 1 + 1 + 1 + 1 + 1 + 1 + 1 + 1 + 1 + 2 + 70 + 600 ≤ 14200 ∧ ns10 + 0 + 6 + 3600 + 4 + 16 + 34 + 34 + 34 + 34 + 34 + 34 + 34 + 34 + 34 + 38 + 420 + 3600 ≤ 539700 by omega) (fun r h58 hp9 => ?_) (fun E h9 q => q.elim)
          obtain ⟨rfl, rfl⟩ := hp9
          refine j_aload_n dL_undone_441 rfl rfl ?_
          refine j_iload_n dL_undone_442 rfl rfl ?_
          refine j_laload (f := (jfu S m (sumF K))) dL_undone_443 jup_s (by omega) (by omega) ?_
          rw [jfu_s]
          refine j_lcmpR dL_undone_444 ?_
          refine j_if_eq (tgt := 450) dL_undone_445 (by decide) (by omega) (fun c445 => ?_) (fun c445 => (False.elim (by omega)))
          refine j_iload_n dL_undone_450 rfl rfl ?_
          refine j_iload dL_undone_451 rfl ?_
          refine j_if_eq (tgt := 460) dL_undone_453 (by decide) (by omega) (fun c453 => ?_) (fun c453 => (False.elim (by omega)))
          refine j_iconst dL_undone_460 ?_
          refine j_iadd dL_undone_461 ?_
          refine j_istore_n (L' := [(0, _), (1, _), (2, _), (3, _), (4, _), (5, _), (6, _), (7, _), (8, _), (9, _), (10, _)]) dL_undone_462 rfl (Nat.le_of_ble_eq_true rfl) rfl ?_
          refine j_iinc (L' := [(0, _), (1, _), (2, _), (3, _), (4, _), (5, _), (6, _), (7, _), (8, _), (9, _), (10, _)]) dL_undone_463 rfl (Nat.le_of_ble_eq_true rfl) rfl ?_
          refine j_goto (tgt := 10) dL_undone_466 (by decide) ?_
          refine J.keep [0, 1, 2, 3, 4] (L' := [(0, _), (1, _), (2, _), (3, _), (4, _)]) rfl ?_
          refine ih10 (i + 1, m + 0, (jfu S m (sumF K)), K, P, n, (B + 61000), hz, nc10 + 0 + 1 + 600 + 1 + 1 + 1 + 1 + 1 + 1 + 1 + 1 + 1 + 1 + 1 + 2 + 70 + 600, ns10 + 0 + 6 + 3600 + 4 + 16 + 34 + 34 + 34 + 34 + 34 + 34 + 34 + 34 + 34 + 38 + 420 + 3600) ?_ ?_
          · dsimp only
            exact ⟨by omega, by omega, (by rw [show m + 0 = m by omega]; exact j3.f), hC9, by omega, (fun j j0 j1 j2 => (hz9 j j0 j1 (by omega) (by omega)).trans (hbN j j0 j1 (by omega))), by omega, by omega⟩
          · dsimp only
            omega
  · dsimp only
    exact ⟨by omega, by have := hC.nn; omega, fun i a b => by omega, hC, by omega, fun j j0 j1 j2 => hN j j0 (by omega), by omega, by omega⟩
