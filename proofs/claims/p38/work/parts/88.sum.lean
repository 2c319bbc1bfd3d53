/-! THE LAW'S SUM: a number of the families alone -/
theorem wd88_1310 : (Jvm.Cond.constantLong "FamilyOaksLaw" (257 : Nat) (7 : Int64)) ∈ jWL := jw_mem 1310 (by decide +kernel) (by decide +kernel)
theorem wd88_1311 : (Jvm.Cond.constantLong "FamilyOaksLaw" (259 : Nat) (31 : Int64)) ∈ jWL := jw_mem 1311 (by decide +kernel) (by decide +kernel)
theorem wd88_1312 : (Jvm.Cond.constantLong "FamilyOaksLaw" (261 : Nat) (37 : Int64)) ∈ jWL := jw_mem 1312 (by decide +kernel) (by decide +kernel)
theorem wd88_1313 : (Jvm.Cond.constantLong "FamilyOaksLaw" (263 : Nat) (41 : Int64)) ∈ jWL := jw_mem 1313 (by decide +kernel) (by decide +kernel)
theorem wd88_1314 : (Jvm.Cond.constantLong "FamilyOaksLaw" (265 : Nat) (30 : Int64)) ∈ jWL := jw_mem 1314 (by decide +kernel) (by decide +kernel)
noncomputable def sA (K : fS) : Nat → Int
  | 0 => 7
  | k + 1 => 31 * sA K k + nz (acc K k)
theorem sA_s {K : fS} {w : Int} (h : 0 ≤ w) : sA K (w + 1).toNat = 31 * sA K w.toNat + nz (acc K w) := by
  rw [show (w + 1).toNat = w.toNat + 1 by omega]
  show 31 * sA K w.toNat + nz (acc K (w.toNat : Int)) = _
  rw [Int.toNat_of_nonneg h]
noncomputable def sQ (K : fS) (p : Int) : Nat → Int → Int
  | 0, a => a
  | k + 1, a => 37 * sQ K p k a + nz (zz (y_personOf K p k) (-11) (-12))
theorem sQ_s {K : fS} {p w a : Int} (h : 0 ≤ w) : sQ K p (w + 1).toNat a = 37 * sQ K p w.toNat a + nz (zz (y_personOf K p w) (-11) (-12)) := by
  rw [show (w + 1).toNat = w.toNat + 1 by omega]
  show 37 * sQ K p w.toNat a + nz (zz (y_personOf K p (w.toNat : Int)) (-11) (-12)) = _
  rw [Int.toNat_of_nonneg h]
noncomputable def sP (K : fS) : Nat → Int
  | 0 => sA K 10
  | p + 1 => sQ K p 10 (sP K p)
theorem sP_s {K : fS} {p w : Int} (h : 0 ≤ p) (hw : w = 10) : sP K (p + 1).toNat = sQ K p w.toNat (sP K p.toNat) := by
  subst hw
  rw [show (p + 1).toNat = p.toNat + 1 by omega]
  show sQ K (p.toNat : Int) 10 (sP K p.toNat) = _
  rw [Int.toNat_of_nonneg h]
  rfl
noncomputable def sK (K : fS) : Nat → Int
  | 0 => sP K (K 6 0).toNat
  | k + 1 => 41 * sK K k + 30 * nz (K 4 k) + nz (K 5 k)
theorem sK_s {K : fS} {k : Int} (h : 0 ≤ k) : sK K (k + 1).toNat = 41 * sK K k.toNat + 30 * nz (K 4 k) + nz (K 5 k) := by
  rw [show (k + 1).toNat = k.toNat + 1 by omega]
  show 41 * sK K k.toNat + 30 * nz (K 4 (k.toNat : Int)) + nz (K 5 (k.toNat : Int)) = _
  rw [Int.toNat_of_nonneg h]
noncomputable def sumF (K : fS) : Int := sK K (K 7 0).toNat
set_option maxHeartbeats 4000000 in
theorem m_sum {B : Int} {K : fS} {P : Int → fS} {n : Int} {h : jH} (hC : lC B K P n h) : jM mL_sum 9 600 3600 [300] [.ref 0] h (jRet (jl (sumF K)) h) jno := by
  have hn := hC.n
  have hq := hC.O.q
  obtain ⟨fs, hO0⟩ := hC.o
  refine j_method (by decide +kernel) rfl (fun _ _ _ => trivial) (Nat.le_of_ble_eq_true rfl) ?_
  generalize hZ : jZ [300] 600 3600 _ _ = Z
  show J mL_sum (jR 9 600 3600) [300] Z 0 [(0, .ref 0)] [] h 0 0
  refine j_ldc2 (x := 7) dL_sum_0 rfl wd88_1310 ?_
  refine j_lstore_n (L' := [(0, _), (1, _)]) dL_sum_3 rfl (Nat.le_of_ble_eq_true rfl) rfl ?_
  refine j_iconst dL_sum_4 ?_
  refine j_istore_n (L' := [(0, _), (1, _), (3, _)]) dL_sum_5 rfl (Nat.le_of_ble_eq_true rfl) rfl ?_
  refine jloop (P := fun z9 : Int × Int × Nat × Nat => J mL_sum (jR 9 600 3600) [300] Z 6 [(0, .ref 0), (1, jl z9.2.1), (3, iv z9.1)] [] h z9.2.2.1 z9.2.2.2) (fun z9 => (0 ≤ z9.1 ∧ z9.1 ≤ 10) ∧ z9.2.1 = sA K z9.1.toNat ∧ (z9.2.2.1 : Int) + 1 * (10 - z9.1) ≤ 10 ∧ z9.2.2.2 ≤ 6 * z9.2.2.1) (fun z9 => (10 - z9.1).toNat) ?_ (0, 7, 0, 0) ?_
  · rintro ⟨w, a, nc6, ns6⟩ hinv6 ih6
    dsimp only at hinv6 ih6 ⊢
    obtain ⟨i1, i2, b1, b2⟩ := hinv6
    refine j_iload_n dL_sum_6 rfl rfl ?_
    refine j_bipush dL_sum_7 (by decide +kernel) ?_
    refine j_icmp_ge (tgt := 31) dL_sum_9 (by decide) (by omega) (fun c9 => ?_) (fun c9 => ?_)
    · have e10 : w = 10 := by omega
      refine j_iconst dL_sum_31 ?_
      refine j_istore_n (L' := [(0, _), (1, _), (3, _)]) dL_sum_32 rfl (Nat.le_of_ble_eq_true rfl) rfl ?_
      refine jloop (P := fun z9 : Int × Int × Nat × Nat => J mL_sum (jR 9 600 3600) [300] Z 33 [(0, .ref 0), (1, jl z9.2.1), (3, iv z9.1)] [] h z9.2.2.1 z9.2.2.2) (fun z9 => (0 ≤ z9.1 ∧ z9.1 ≤ K 6 0) ∧ z9.2.1 = sP K z9.1.toNat ∧ (z9.2.2.1 : Int) + 21 * (24 - z9.1) ≤ 514 ∧ z9.2.2.2 ≤ 6 * z9.2.2.1) (fun z9 => (24 - z9.1).toNat) ?_ (0, a, nc6, ns6) ?_
      · rintro ⟨p, a, nc33, ns33⟩ hinv33 ih33
        dsimp only at hinv33 ih33 ⊢
        obtain ⟨j1, j2, b1, b2⟩ := hinv33
        refine j_iload_n dL_sum_33 rfl rfl ?_
        refine j_aload_n dL_sum_34 rfl rfl ?_
        refine j_iconst dL_sum_35 ?_
        refine j_callV ((l_account hC (w := 0) (by decide)).is acc_0) dL_sum_36 jc_L_128 jmV_X4_account rfl rfl hO0 rfl rfl (by simp) jfr_nil (Nat.le_of_ble_eq_true rfl) ⟨Nat.le_of_ble_eq_true rfl, Nat.le_of_ble_eq_true rfl⟩ (show nc33 + 1 ≤ 600 ∧ ns33 + 6 ≤ 3600 by omega) (fun r h1 hp9 => ?_) (fun E h9 q => q.elim)
        obtain ⟨rfl, rfl⟩ := hp9
        refine j_icmp_ge (tgt := 79) dL_sum_39 (by decide) (by omega) (fun c39 => ?_) (fun c39 => ?_)
        · have e9 : p = K 6 0 := by omega
          refine j_iconst dL_sum_79 ?_
          refine j_istore_n (L' := [(0, _), (1, _), (3, _)]) dL_sum_80 rfl (Nat.le_of_ble_eq_true rfl) rfl ?_
          refine jloop (P := fun z9 : Int × Int × Nat × Nat => J mL_sum (jR 9 600 3600) [300] Z 81 [(0, .ref 0), (1, jl z9.2.1), (3, iv z9.1)] [] h z9.2.2.1 z9.2.2.2) (fun z9 => (0 ≤ z9.1 ∧ z9.1 ≤ K 7 0) ∧ z9.2.1 = sK K z9.1.toNat ∧ (z9.2.2.1 : Int) + 3 * (20 - z9.1) ≤ 515 + 60 ∧ z9.2.2.2 ≤ 6 * z9.2.2.1) (fun z9 => (20 - z9.1).toNat) ?_ (0, a, nc33 + 1, ns33 + 6) ?_
          · rintro ⟨k, a, nc81, ns81⟩ hinv81 ih81
            dsimp only at hinv81 ih81 ⊢
            obtain ⟨m1, m2, b1, b2⟩ := hinv81
            refine j_iload_n dL_sum_81 rfl rfl ?_
            refine j_aload_n dL_sum_82 rfl rfl ?_
            refine j_iconst dL_sum_83 ?_
            refine j_callV ((l_account hC (w := 4) (by decide)).is acc_4) dL_sum_84 jc_L_128 jmV_X4_account rfl rfl hO0 rfl rfl (by simp) jfr_nil (Nat.le_of_ble_eq_true rfl) ⟨Nat.le_of_ble_eq_true rfl, Nat.le_of_ble_eq_true rfl⟩ (show nc81 + 1 ≤ 600 ∧ ns81 + 6 ≤ 3600 by omega) (fun r h2 hp9 => ?_) (fun E h9 q => q.elim)
            obtain ⟨rfl, rfl⟩ := hp9
            refine j_icmp_ge (tgt := 122) dL_sum_87 (by decide) (by omega) (fun c87 => ?_) (fun c87 => ?_)
            · have e8 : k = K 7 0 := by omega
              refine j_lload_n dL_sum_122 rfl rfl ?_
              subst hZ
              exact j_lreturn dL_sum_123 rfl ⟨by rw [m2, e8]; rfl, rfl⟩ (show nc81 + 1 ≤ 600 by omega) (show ns81 + 6 ≤ 3600 by omega)
            · refine j_ldc2 (x := 41) dL_sum_90 rfl wd88_1313 ?_
              refine j_lload_n dL_sum_93 rfl rfl ?_
              refine j_lmul dL_sum_94 ?_
              refine j_ldc2 (x := 30) dL_sum_95 rfl wd88_1314 ?_
              refine j_aload_n dL_sum_98 rfl rfl ?_
              refine j_iload_n dL_sum_99 rfl rfl ?_
              refine j_iconst dL_sum_100 ?_
              refine j_callSW (jM.nz (l_quarrelAt0 hC (p := k) (by omega))) dL_sum_101 jc_L_185 jmS_L_quarrelAt (fun q => by cases q) rfl rfl (by decide) (jfr_of rfl rfl) (Nat.le_of_ble_eq_true rfl) ⟨Nat.le_of_ble_eq_true rfl, Nat.le_of_ble_eq_true rfl⟩ (show nc81 + 1 + 1 ≤ 600 ∧ ns81 + 6 + 6 ≤ 3600 by omega) (fun r h3 hp9 => ?_)
              obtain ⟨rfl, rfl⟩ := hp9
              refine j_i2l dL_sum_104 (nz_r _) ?_
              refine j_lmul dL_sum_105 ?_
              refine j_ladd dL_sum_106 ?_
              refine j_aload_n dL_sum_107 rfl rfl ?_
              refine j_iload_n dL_sum_108 rfl rfl ?_
              refine j_iconst dL_sum_109 ?_
              refine j_callSW (jM.nz (l_quarrelAt1 hC (p := k) (by omega))) dL_sum_110 jc_L_185 jmS_L_quarrelAt (fun q => by cases q) rfl rfl (by decide) (jfr_of rfl rfl) (Nat.le_of_ble_eq_true rfl) ⟨Nat.le_of_ble_eq_true rfl, Nat.le_of_ble_eq_true rfl⟩ (show nc81 + 1 + 1 + 1 ≤ 600 ∧ ns81 + 6 + 6 + 6 ≤ 3600 by omega) (fun r h4 hp9 => ?_)
              obtain ⟨rfl, rfl⟩ := hp9
              refine j_i2l dL_sum_113 (nz_r _) ?_
              refine j_ladd dL_sum_114 ?_
              refine j_lstore_n (L' := [(0, _), (1, _), (3, _)]) dL_sum_115 rfl (Nat.le_of_ble_eq_true rfl) rfl ?_
              refine j_iinc (L' := [(0, _), (1, _), (3, _)]) dL_sum_116 rfl (Nat.le_of_ble_eq_true rfl) rfl ?_
              refine j_goto (tgt := 81) dL_sum_119 (by decide) ?_
              refine ih81 (k + 1, ((41 * a) + (30 * (nz (K 4 k)))) + (nz (K 5 k)), nc81 + 1 + 1 + 1, ns81 + 6 + 6 + 6) ?_ ?_
              · dsimp only
                exact ⟨by omega, by rw [m2]; exact (sK_s m1.1).symm, by omega, by omega⟩
              · dsimp only
                omega
          · dsimp only
            exact ⟨⟨by decide, by omega⟩, by rw [j2, e9]; rfl, by omega, by omega⟩
        · refine j_iconst dL_sum_42 ?_
          refine j_istore (L' := [(0, _), (1, _), (3, _), (4, _)]) dL_sum_43 (Nat.le_of_ble_eq_true rfl) rfl ?_
          refine jloop (P := fun z9 : Int × Int × Nat × Nat => J mL_sum (jR 9 600 3600) [300] Z 45 [(0, .ref 0), (1, jl z9.2.1), (3, iv p), (4, iv z9.1)] [] h z9.2.2.1 z9.2.2.2) (fun z9 => (0 ≤ z9.1 ∧ z9.1 ≤ 10) ∧ z9.2.1 = sQ K p z9.1.toNat a ∧ (z9.2.2.1 : Int) + 2 * (10 - z9.1) ≤ nc33 + 21 ∧ z9.2.2.2 ≤ 6 * z9.2.2.1) (fun z9 => (10 - z9.1).toNat) ?_ (0, a, nc33 + 1, ns33 + 6) ?_
          · rintro ⟨w2, a2, nc45, ns45⟩ hinv45 ih45
            dsimp only at hinv45 ih45 ⊢
            obtain ⟨k1, k2, b3, b4⟩ := hinv45
            refine j_iload dL_sum_45 rfl ?_
            refine j_bipush dL_sum_47 (by decide +kernel) ?_
            refine j_icmp_ge (tgt := 73) dL_sum_49 (by decide) (by omega) (fun c49 => ?_) (fun c49 => ?_)
            · refine j_iinc (L' := [(0, _), (1, _), (3, _), (4, _)]) dL_sum_73 rfl (Nat.le_of_ble_eq_true rfl) rfl ?_
              refine j_goto (tgt := 33) dL_sum_76 (by decide) ?_
              refine J.keep [0, 1, 3] (L' := [(0, _), (1, _), (3, _)]) rfl ?_
              refine ih33 (p + 1, a2, nc45, ns45) ?_ ?_
              · dsimp only
                exact ⟨by omega, by rw [k2, j2]; exact (sP_s j1.1 (by omega)).symm, by omega, by omega⟩
              · dsimp only
                omega
            · refine j_ldc2 (x := 37) dL_sum_52 rfl wd88_1312 ?_
              refine j_lload_n dL_sum_55 rfl rfl ?_
              refine j_lmul dL_sum_56 ?_
              refine j_aload_n dL_sum_57 rfl rfl ?_
              refine j_iload_n dL_sum_58 rfl rfl ?_
              refine j_iload dL_sum_59 rfl ?_
              refine j_callSW (jM.nz (l_of hC (p := p) (w := w2) (by omega) (by omega))) dL_sum_61 jc_L_151 jmS_L_of (fun q => by cases q) rfl rfl (by decide) (jfr_of rfl rfl) (Nat.le_of_ble_eq_true rfl) ⟨Nat.le_of_ble_eq_true rfl, Nat.le_of_ble_eq_true rfl⟩ (show nc45 + 2 ≤ 600 ∧ ns45 + 12 ≤ 3600 by omega) (fun r h5 hp9 => ?_)
              obtain ⟨rfl, rfl⟩ := hp9
              refine j_i2l dL_sum_64 (nz_r _) ?_
              refine j_ladd dL_sum_65 ?_
              refine j_lstore_n (L' := [(0, _), (1, _), (3, _), (4, _)]) dL_sum_66 rfl (Nat.le_of_ble_eq_true rfl) rfl ?_
              refine j_iinc (L' := [(0, _), (1, _), (3, _), (4, _)]) dL_sum_67 rfl (Nat.le_of_ble_eq_true rfl) rfl ?_
              refine j_goto (tgt := 45) dL_sum_70 (by decide) ?_
              refine ih45 (w2 + 1, (37 * a2) + (nz (zz (y_personOf K p w2) (-11) (-12))), nc45 + 2, ns45 + 12) ?_ ?_
              · dsimp only
                exact ⟨by omega, by rw [k2]; exact (sQ_s k1.1).symm, by omega, by omega⟩
              · dsimp only
                omega
          · dsimp only
            exact ⟨by decide, rfl, by omega, by omega⟩
      · dsimp only
        exact ⟨⟨by decide, by omega⟩, by rw [i2, e10]; rfl, by omega, by omega⟩
    · refine j_ldc2 (x := 31) dL_sum_12 rfl wd88_1311 ?_
      refine j_lload_n dL_sum_15 rfl rfl ?_
      refine j_lmul dL_sum_16 ?_
      refine j_aload_n dL_sum_17 rfl rfl ?_
      refine j_iload_n dL_sum_18 rfl rfl ?_
      refine j_callV (jM.nz (l_account hC (w := w) (by omega))) dL_sum_19 jc_L_128 jmV_X4_account rfl rfl hO0 rfl rfl (by simp) jfr_nil (Nat.le_of_ble_eq_true rfl) ⟨Nat.le_of_ble_eq_true rfl, Nat.le_of_ble_eq_true rfl⟩ (show nc6 + 1 ≤ 600 ∧ ns6 + 6 ≤ 3600 by omega) (fun r h6 hp9 => ?_) (fun E h9 q => q.elim)
      obtain ⟨rfl, rfl⟩ := hp9
      refine j_i2l dL_sum_22 (nz_r _) ?_
      refine j_ladd dL_sum_23 ?_
      refine j_lstore_n (L' := [(0, _), (1, _), (3, _)]) dL_sum_24 rfl (Nat.le_of_ble_eq_true rfl) rfl ?_
      refine j_iinc (L' := [(0, _), (1, _), (3, _)]) dL_sum_25 rfl (Nat.le_of_ble_eq_true rfl) rfl ?_
      refine j_goto (tgt := 6) dL_sum_28 (by decide) ?_
      refine ih6 (w + 1, (31 * a) + (nz (acc K w)), nc6 + 1, ns6 + 6) ?_ ?_
      · dsimp only
        exact ⟨by omega, by rw [i2]; exact (sA_s i1.1).symm, by omega, by omega⟩
      · dsimp only
        omega
  · dsimp only
    exact ⟨by decide, rfl, by decide, by decide⟩
