theorem wd94_132 : (Jvm.Cond.arrayClass Jvm.ClassFile.FieldType.int) ∈ jWL := jw_mem 132 (by decide +kernel) (by decide +kernel)
/-! THE LAW'S HOUSES -/
set_option maxHeartbeats 8000000 in
theorem m_houses {B : Int} {K : fS} {P : Int → fS} {n : Int} {h : jH} (hC : lC B K P n h) (hN : ∀ j, 120 ≤ j ∧ j < 400 → h j = none) : jM mL_houses 9 4000 24100 [300, 301, 302] [.ref 0] h (fun r h' => r = some (.ref 301) ∧ ∃ H, h' = jup h 301 (jA 0 (K 6 0).toNat H) ∧ ∀ q, 0 ≤ q → q < K 6 0 → H q = fho K q) jno := by
  have hn := hC.n
  have hO := hC.O
  have hS : kSy K := hC.1.1.2.2.1
  obtain ⟨fs, hO0⟩ := hC.o
  refine j_method (by decide +kernel) rfl (fun _ _ _ => trivial) (Nat.le_of_ble_eq_true rfl) ?_
  generalize hZ : jZ [300, 301, 302] 4000 24100 _ _ = Z
  show J mL_houses (jR 9 4000 24100) [300, 301, 302] Z 0 [(0, .ref 0)] [] h 0 0
  refine J.cl fun hcl => ?_
  refine j_aload_n dL_houses_0 rfl rfl ?_
  refine j_iconst dL_houses_1 ?_
  refine j_callV ((l_account hC (w := 0) (by decide)).is acc_0) dL_houses_2 jc_L_128 jmV_X4_account rfl rfl hO0 rfl rfl (by simp) jfr_nil (Nat.le_of_ble_eq_true rfl) ⟨Nat.le_of_ble_eq_true rfl, Nat.le_of_ble_eq_true rfl⟩ (show 0 + 1 ≤ 4000 ∧ 0 + 6 ≤ 24100 by omega) (fun r h1 hp9 => ?_) (fun E h9 q => q.elim)
  obtain ⟨rfl, rfl⟩ := hp9
  refine j_istore_n (L' := [(0, _), (1, _)]) dL_houses_5 rfl (Nat.le_of_ble_eq_true rfl) rfl ?_
  refine j_iload_n dL_houses_6 rfl rfl ?_
  refine j_newarrayI (t := 0) (k := 301) (n := ((K 6 0).toNat)) (by omega) rfl dL_houses_7 rfl (by decide) wd94_132 (by omega) (hN 301 (by decide)) (by decide) (jfr_of rfl rfl) (show 0 + 1 + 1 ≤ 4000 ∧ 0 + 6 + ((K 6 0).toNat) ≤ 24100 by omega) ?_
  refine j_astore_n (L' := [(0, _), (1, _), (2, _)]) dL_houses_9 rfl (Nat.le_of_ble_eq_true rfl) rfl ?_
  refine j_iconst dL_houses_10 ?_
  refine j_istore_n (L' := [(0, _), (1, _), (2, _), (3, _)]) dL_houses_11 rfl (Nat.le_of_ble_eq_true rfl) rfl ?_
  refine jloop (P := fun z9 : Int × (Int → Int) × Nat × Nat => J mL_houses (jR 9 4000 24100) [300, 301, 302] Z 12 [(0, .ref 0), (1, iv (K 6 0)), (2, .ref 301), (3, iv z9.1)] [] (jup h 301 (jA 0 ((K 6 0).toNat) z9.2.1)) z9.2.2.1 z9.2.2.2) (fun z9 => (0 ≤ z9.1 ∧ z9.1 ≤ K 6 0) ∧ (∀ x, 0 ≤ x → x < z9.1 → z9.2.1 x = -1) ∧ z9.2.2.1 ≤ 2 ∧ z9.2.2.2 ≤ 30) (fun z9 => (K 6 0 - z9.1).toNat) ?_ (0, fun _ => 0, 0 + 1 + 1, 0 + 6 + ((K 6 0).toNat)) ?_
  · rintro ⟨i, H, nc12, ns12⟩ hinv12 ih12
    dsimp only at hinv12 ih12 ⊢
    obtain ⟨i1, i2, b1, b2⟩ := hinv12
    refine j_iload_n dL_houses_12 rfl rfl ?_
    refine j_iload_n dL_houses_13 rfl rfl ?_
    refine j_icmp_ge (tgt := 27) dL_houses_14 (by decide) (by omega) (fun c14 => ?_) (fun c14 => ?_)
    · have hH0 : ∀ x, 0 ≤ x → x < K 6 0 → H x = -1 := fun x a b => i2 x a (by omega)
      have hg0 := ngs_all (by omega) hH0
      refine j_iconst dL_houses_27 ?_
      refine j_iload_n dL_houses_28 rfl rfl ?_
      refine j_imul dL_houses_29 ?_
      refine j_iconst dL_houses_30 ?_
      refine j_iadd dL_houses_31 ?_
      refine j_newarrayI (t := 0) (k := 302) (n := ((2 * K 6 0 + 2).toNat)) (by omega) rfl dL_houses_32 rfl (by decide) wd94_132 (by omega) (jup_n (by decide) (hN 302 (by decide))) (by decide) (jfr_of rfl rfl) (show nc12 + 1 ≤ 4000 ∧ ns12 + ((2 * K 6 0 + 2).toNat) ≤ 24100 by omega) ?_
      refine j_astore_n (L' := [(0, _), (1, _), (2, _), (3, _)]) dL_houses_34 rfl (Nat.le_of_ble_eq_true rfl) rfl ?_
      refine j_iconst dL_houses_35 ?_
      refine j_istore (L' := [(0, _), (1, _), (2, _), (3, _), (4, _)]) dL_houses_36 (Nat.le_of_ble_eq_true rfl) rfl ?_
      refine jloop (P := fun z9 : Int × (Int → Int) × (Int → Int) × Nat × Nat => J mL_houses (jR 9 4000 24100) [300, 301, 302] Z 38 [(0, .ref 0), (1, iv (K 6 0)), (2, .ref 301), (3, .ref 302), (4, iv z9.1)] [] (jup (jup h 301 (jA 0 ((K 6 0).toNat) z9.2.1)) 302 (jA 0 ((2 * K 6 0 + 2).toNat) z9.2.2.1)) z9.2.2.2.1 z9.2.2.2.2) (fun z9 => (0 ≤ z9.1 ∧ z9.1 ≤ K 6 0) ∧ hOu K z9.1 z9.2.1 ∧ (z9.2.2.2.1 : Int) + 144 * ngs K z9.2.1 ≤ 3 + 3456 ∧ z9.2.2.2.2 ≤ 6 * z9.2.2.2.1 + 80) (fun z9 => (K 6 0 - z9.1).toNat) ?_ (0, H, fun _ => 0, nc12 + 1, ns12 + ((2 * K 6 0 + 2).toNat)) ?_
      · rintro ⟨p, H1, S, nc38, ns38⟩ hinv38 ih38
        dsimp only at hinv38 ih38 ⊢
        obtain ⟨j1, j2, b3, b4⟩ := hinv38
        refine j_iload dL_houses_38 rfl ?_
        refine j_iload_n dL_houses_40 rfl rfl ?_
        refine j_icmp_ge (tgt := 165) dL_houses_41 (by decide) (by omega) (fun c41 => ?_) (fun c41 => ?_)
        · refine J.drop (h' := jup h 301 (jA 0 (K 6 0).toNat H1)) (drop_b (hN 302 (by decide)) (by decide)) (jCl.arr hcl) ?_
          have hgr4 := ngs_rg (K := K) (H := H1) (by omega)
          have hret : ∀ q, 0 ≤ q → q < K 6 0 → H1 q = fho K q := fun q a b => by
            have := fho_rg hO ⟨a, b⟩
            rcases j2 q a b with ⟨u, v⟩ | ⟨u, v⟩
            · exact v
            · omega
          refine j_aload_n dL_houses_165 rfl rfl ?_
          subst hZ
          exact j_areturn dL_houses_166 rfl (Or.inr ⟨_, rfl⟩) ⟨rfl, H1, rfl, hret⟩ (show nc38 ≤ 4000 by omega) (show ns38 ≤ 24100 by omega)
        · have hp : 0 ≤ p ∧ p < K 6 0 := by omega
          have hb1 := j2.b hO hp
          refine j_iconst dL_houses_44 ?_
          refine j_istore (L' := [(0, _), (1, _), (2, _), (3, _), (4, _), (5, _)]) dL_houses_45 (Nat.le_of_ble_eq_true rfl) rfl ?_
          have hgr := ngs_rg (K := K) (H := H1) (by omega)
          refine j_aload_n dL_houses_47 rfl rfl ?_
          refine j_iload dL_houses_48 rfl ?_
          refine j_iaload (f := H1) dL_houses_50 (jup_n (by decide) jup_s) (by omega) (by omega) ?_
          refine j_if_ge (tgt := 69) dL_houses_51 (by decide) (by omega) (fun c51 => ?_) (fun c51 => ?_)
          · refine jloop (P := fun z9 : Int × (Int → Int) × (Int → Int) × Nat × Nat => J mL_houses (jR 9 4000 24100) [300, 301, 302] Z 69 [(0, .ref 0), (1, iv (K 6 0)), (2, .ref 301), (3, .ref 302), (4, iv p), (5, iv z9.1)] [] (jup (jup h 301 (jA 0 ((K 6 0).toNat) z9.2.1)) 302 (jA 0 ((2 * K 6 0 + 2).toNat) z9.2.2.1)) z9.2.2.2.1 z9.2.2.2.2) (fun z9 => hFl K p z9.2.1 z9.2.2.1 z9.1 (-1) ∧ z9.1 + ngs K z9.2.1 ≤ K 6 0 ∧ (z9.2.2.2.1 : Int) + 144 * (z9.1 + ngs K z9.2.1) ≤ 3 + 3456 ∧ z9.2.2.2.2 ≤ 6 * z9.2.2.2.1 + 80) (fun z9 => (2 * ngs K z9.2.1 + z9.1).toNat) ?_ (0, H1, S, nc38, ns38) ?_
            · rintro ⟨m, H2, S2, nc69, ns69⟩ hinv69 ih69
              dsimp only at hinv69 ih69 ⊢
              obtain ⟨f1, f2, b5, b6⟩ := hinv69
              have hm0 : 0 ≤ m := f1.2.2.2.2
              have hm1 := ngs_rg (K := K) (H := H2) (by omega)
              refine j_iload dL_houses_69 rfl ?_
              refine j_if_le (tgt := 159) dL_houses_71 (by decide) (by omega) (fun c71 => ?_) (fun c71 => ?_)
              · have f4 : m ≤ 0 := by omega
                refine j_iinc (L' := [(0, _), (1, _), (2, _), (3, _), (4, _), (5, _)]) dL_houses_159 rfl (Nat.le_of_ble_eq_true rfl) rfl ?_
                refine j_goto (tgt := 38) dL_houses_162 (by decide) ?_
                refine J.keep [0, 1, 2, 3, 4] (L' := [(0, _), (1, _), (2, _), (3, _), (4, _)]) rfl ?_
                refine ih38 (p + 1, H2, S2, nc69, ns69) ?_ ?_
                · dsimp only
                  exact ⟨by omega, f1.done hO hS f4 hp, by omega, by omega⟩
                · dsimp only
                  omega
              · have hgr2 := ngs_rg (K := K) (H := H2) (by omega)
                have ha := f1.2.1 (m - 1) (by omega) (by omega)
                have hfp := f1.pop (by omega)
                refine j_iinc (L' := [(0, _), (1, _), (2, _), (3, _), (4, _), (5, _)]) dL_houses_74 rfl (Nat.le_of_ble_eq_true rfl) rfl ?_
                refine j_aload_n dL_houses_77 rfl rfl ?_
                refine j_iload dL_houses_78 rfl ?_
                refine j_iaload (f := S2) dL_houses_80 jup_s (by omega) (by omega) ?_
                refine j_istore (L' := [(0, _), (1, _), (2, _), (3, _), (4, _), (5, _), (6, _)]) dL_houses_81 (Nat.le_of_ble_eq_true rfl) rfl ?_
                refine j_iconst dL_houses_83 ?_
                refine j_istore (L' := [(0, _), (1, _), (2, _), (3, _), (4, _), (5, _), (6, _), (7, _)]) dL_houses_84 (Nat.le_of_ble_eq_true rfl) rfl ?_
                refine jloop (P := fun z9 : Int × Int × (Int → Int) × (Int → Int) × Nat × Nat => J mL_houses (jR 9 4000 24100) [300, 301, 302] Z 86 [(0, .ref 0), (1, iv (K 6 0)), (2, .ref 301), (3, .ref 302), (4, iv p), (5, iv z9.2.1), (6, iv (S2 (m - 1))), (7, iv z9.1)] [] (jup (jup h 301 (jA 0 ((K 6 0).toNat) z9.2.2.1)) 302 (jA 0 ((2 * K 6 0 + 2).toNat) z9.2.2.2.1)) z9.2.2.2.2.1 z9.2.2.2.2.2) (fun z9 => (0 ≤ z9.1 ∧ z9.1 ≤ K 6 0) ∧ hFl K p z9.2.2.1 z9.2.2.2.1 z9.2.1 (S2 (m - 1)) ∧ z9.2.2.1 (S2 (m - 1)) = p ∧ (∀ z, 0 ≤ z → z < z9.1 → adj K z (S2 (m - 1)) → z9.2.2.1 z = p) ∧ z9.2.1 + ngs K z9.2.2.1 ≤ K 6 0 - 1 ∧ 2 * ngs K z9.2.2.1 + z9.2.1 ≤ 2 * ngs K H2 + m - 1 ∧ (z9.2.2.2.2.1 : Int) + 6 * (K 6 0 - z9.1) + 144 * (z9.2.1 + ngs K z9.2.2.1) ≤ 3 + 3456 ∧ z9.2.2.2.2.2 ≤ 6 * z9.2.2.2.2.1 + 80) (fun z9 => (K 6 0 - z9.1).toNat) ?_ (0, m + (-1), H2, S2, nc69, ns69) ?_
                · rintro ⟨q, m3, H3, S3, nc86, ns86⟩ hinv86 ih86
                  dsimp only at hinv86 ih86 ⊢
                  obtain ⟨k0, k1, k2, k4, k5, k6, b7, b8⟩ := hinv86
                  refine j_iload dL_houses_86 rfl ?_
                  refine j_iload_n dL_houses_88 rfl rfl ?_
                  refine j_icmp_ge (tgt := 156) dL_houses_89 (by decide) (by omega) (fun c89 => ?_) (fun c89 => ?_)
                  · refine j_goto (tgt := 69) dL_houses_156 (by decide) ?_
                    refine J.keep [0, 1, 2, 3, 4, 5] (L' := [(0, _), (1, _), (2, _), (3, _), (4, _), (5, _)]) rfl ?_
                    refine ih69 (m3, H3, S3, nc86, ns86) ?_ ?_
                    · dsimp only
                      exact ⟨k1.next (fun z z0 z1 z2 => k4 z z0 (by omega) z2), by omega, by omega, by omega⟩
                    · dsimp only
                      (have := ngs_rg (K := K) (H := H3) (by omega); have := f1.2.2.2.2; omega)
                  · have hq9 : 0 ≤ q ∧ q < K 6 0 := by omega
                    have hb2 := k1.b hO hq9
                    have hb3 := hO.p q
                    have hb4 := hO.p (S2 (m - 1))
                    have hb5 := hO.s (S2 (m - 1))
                    have hm3 := k1.2.2.2.2
                    have hgr3 := ngs_rg (K := K) (H := H3) (by omega)
                    refine j_aload_n dL_houses_92 rfl rfl ?_
                    refine j_iload dL_houses_93 rfl ?_
                    refine j_iaload (f := H3) dL_houses_95 (jup_n (by decide) jup_s) (by omega) (by omega) ?_
                    refine j_if_ge (tgt := 150) dL_houses_96 (by decide) (by omega) (fun c96 => ?_) (fun c96 => ?_)
                    · refine j_iinc (L' := [(0, _), (1, _), (2, _), (3, _), (4, _), (5, _), (6, _), (7, _)]) dL_houses_150 rfl (Nat.le_of_ble_eq_true rfl) rfl ?_
                      refine j_goto (tgt := 86) dL_houses_153 (by decide) ?_
                      refine ih86 (q + 1, m3, H3, S3, nc86, ns86) ?_ ?_
                      · dsimp only
                        exact ⟨by omega, k1, k2, all_s k4 (fun z2 => k1.ge hO ha.1 k2 hp hq9 (by omega) z2), by omega, by omega, by omega, by omega⟩
                      · dsimp only
                        omega
                    · refine j_aload_n dL_houses_99 rfl rfl ?_
                      refine j_iload dL_houses_100 rfl ?_
                      refine j_iconst dL_houses_102 ?_
                      refine j_callSW (l_of0 ((hC.up (k := 301) (x := (jA 0 ((K 6 0).toNat) H3)) (by decide)).up (k := 302) (x := (jA 0 ((2 * K 6 0 + 2).toNat) S3)) (by decide)) (p := q) (by omega)) dL_houses_103 jc_L_151 jmS_L_of (fun q => by cases q) rfl rfl (by decide) (jfr_of rfl rfl) (Nat.le_of_ble_eq_true rfl) ⟨Nat.le_of_ble_eq_true rfl, Nat.le_of_ble_eq_true rfl⟩ (show nc86 + 2 ≤ 4000 ∧ ns86 + 12 ≤ 24100 by omega) (fun r h2 hp9 => ?_)
                      obtain ⟨rfl, rfl⟩ := hp9
                      refine j_iload dL_houses_106 rfl ?_
                      refine j_icmp_eq (tgt := 135) dL_houses_108 (by decide) (by omega) (fun c108 => ?_) (fun c108 => ?_)
                      · have hj9 : adj K q (S2 (m - 1)) := .inl (by omega)
                        have hg9 := ngs_u hq9 (show H3 q < 0 by omega) (show 0 ≤ p by omega)
                        refine j_aload_n dL_houses_135 rfl rfl ?_
                        refine j_iload dL_houses_136 rfl ?_
                        refine j_iload dL_houses_138 rfl ?_
                        refine j_iastore (f := H3) dL_houses_140 (jup_n (by decide) jup_s) (by omega) (by omega) ?_
                        refine J.heap (h2 := (jup (jup h 301 (jA 0 ((K 6 0).toNat) (jfu H3 q p))) 302 (jA 0 ((2 * K 6 0 + 2).toNat) S3))) (jup_u2 (by decide)).symm ?_
                        refine j_aload_n dL_houses_141 rfl rfl ?_
                        refine j_iload dL_houses_142 rfl ?_
                        refine j_iload dL_houses_144 rfl ?_
                        refine j_iastore (f := S3) dL_houses_146 jup_s (by omega) (by omega) ?_
                        refine J.heap (h2 := (jup (jup h 301 (jA 0 ((K 6 0).toNat) (jfu H3 q p))) 302 (jA 0 ((2 * K 6 0 + 2).toNat) (jfu S3 m3 q)))) jup_up.symm ?_
                        refine j_iinc (L' := [(0, _), (1, _), (2, _), (3, _), (4, _), (5, _), (6, _), (7, _)]) dL_houses_147 rfl (Nat.le_of_ble_eq_true rfl) rfl ?_
                        refine j_iinc (L' := [(0, _), (1, _), (2, _), (3, _), (4, _), (5, _), (6, _), (7, _)]) dL_houses_150 rfl (Nat.le_of_ble_eq_true rfl) rfl ?_
                        refine j_goto (tgt := 86) dL_houses_153 (by decide) ?_
                        refine ih86 (q + 1, m3 + 1, (jfu H3 q p), (jfu S3 m3 q), nc86 + 2, ns86 + 12) ?_ ?_
                        · dsimp only
                          exact ⟨by omega, k1.push hO hS ha.1 k2 hp hq9 (by omega) hj9, jfu_k k2, all_s (fun z z0 z1 z2 => jfu_k (k4 z z0 z1 z2)) (fun _ => jfu_s), by rw [hg9]; omega, by rw [hg9]; omega, by rw [hg9]; omega, by omega⟩
                        · dsimp only
                          omega
                      · refine j_aload_n dL_houses_111 rfl rfl ?_
                        refine j_iload dL_houses_112 rfl ?_
                        refine j_iconst dL_houses_114 ?_
                        refine j_callSW (l_of0 ((hC.up (k := 301) (x := (jA 0 ((K 6 0).toNat) H3)) (by decide)).up (k := 302) (x := (jA 0 ((2 * K 6 0 + 2).toNat) S3)) (by decide)) (p := S2 (m - 1)) (by omega)) dL_houses_115 jc_L_151 jmS_L_of (fun q => by cases q) rfl rfl (by decide) (jfr_of rfl rfl) (Nat.le_of_ble_eq_true rfl) ⟨Nat.le_of_ble_eq_true rfl, Nat.le_of_ble_eq_true rfl⟩ (show nc86 + 2 + 2 ≤ 4000 ∧ ns86 + 12 + 12 ≤ 24100 by omega) (fun r h3 hp9 => ?_)
                        obtain ⟨rfl, rfl⟩ := hp9
                        refine j_iload dL_houses_118 rfl ?_
                        refine j_icmp_eq (tgt := 135) dL_houses_120 (by decide) (by omega) (fun c120 => ?_) (fun c120 => ?_)
                        · have hj9 : adj K q (S2 (m - 1)) := .inr (.inl (by omega))
                          have hg9 := ngs_u hq9 (show H3 q < 0 by omega) (show 0 ≤ p by omega)
                          refine j_aload_n dL_houses_135 rfl rfl ?_
                          refine j_iload dL_houses_136 rfl ?_
                          refine j_iload dL_houses_138 rfl ?_
                          refine j_iastore (f := H3) dL_houses_140 (jup_n (by decide) jup_s) (by omega) (by omega) ?_
                          refine J.heap (h2 := (jup (jup h 301 (jA 0 ((K 6 0).toNat) (jfu H3 q p))) 302 (jA 0 ((2 * K 6 0 + 2).toNat) S3))) (jup_u2 (by decide)).symm ?_
                          refine j_aload_n dL_houses_141 rfl rfl ?_
                          refine j_iload dL_houses_142 rfl ?_
                          refine j_iload dL_houses_144 rfl ?_
                          refine j_iastore (f := S3) dL_houses_146 jup_s (by omega) (by omega) ?_
                          refine J.heap (h2 := (jup (jup h 301 (jA 0 ((K 6 0).toNat) (jfu H3 q p))) 302 (jA 0 ((2 * K 6 0 + 2).toNat) (jfu S3 m3 q)))) jup_up.symm ?_
                          refine j_iinc (L' := [(0, _), (1, _), (2, _), (3, _), (4, _), (5, _), (6, _), (7, _)]) dL_houses_147 rfl (Nat.le_of_ble_eq_true rfl) rfl ?_
                          refine j_iinc (L' := [(0, _), (1, _), (2, _), (3, _), (4, _), (5, _), (6, _), (7, _)]) dL_houses_150 rfl (Nat.le_of_ble_eq_true rfl) rfl ?_
                          refine j_goto (tgt := 86) dL_houses_153 (by decide) ?_
                          refine ih86 (q + 1, m3 + 1, (jfu H3 q p), (jfu S3 m3 q), nc86 + 2 + 2, ns86 + 12 + 12) ?_ ?_
                          · dsimp only
                            exact ⟨by omega, k1.push hO hS ha.1 k2 hp hq9 (by omega) hj9, jfu_k k2, all_s (fun z z0 z1 z2 => jfu_k (k4 z z0 z1 z2)) (fun _ => jfu_s), by rw [hg9]; omega, by rw [hg9]; omega, by rw [hg9]; omega, by omega⟩
                          · dsimp only
                            omega
                        · refine j_aload_n dL_houses_123 rfl rfl ?_
                          refine j_iload dL_houses_124 rfl ?_
                          refine j_iconst dL_houses_126 ?_
                          refine j_callSW (l_of4 ((hC.up (k := 301) (x := (jA 0 ((K 6 0).toNat) H3)) (by decide)).up (k := 302) (x := (jA 0 ((2 * K 6 0 + 2).toNat) S3)) (by decide)) (p := S2 (m - 1)) (by omega)) dL_houses_127 jc_L_151 jmS_L_of (fun q => by cases q) rfl rfl (by decide) (jfr_of rfl rfl) (Nat.le_of_ble_eq_true rfl) ⟨Nat.le_of_ble_eq_true rfl, Nat.le_of_ble_eq_true rfl⟩ (show nc86 + 2 + 2 + 2 ≤ 4000 ∧ ns86 + 12 + 12 + 12 ≤ 24100 by omega) (fun r h4 hp9 => ?_)
                          obtain ⟨rfl, rfl⟩ := hp9
                          refine j_iload dL_houses_130 rfl ?_
                          refine j_icmp_ne (tgt := 150) dL_houses_132 (by decide) (by omega) (fun c132 => ?_) (fun c132 => ?_)
                          · refine j_iinc (L' := [(0, _), (1, _), (2, _), (3, _), (4, _), (5, _), (6, _), (7, _)]) dL_houses_150 rfl (Nat.le_of_ble_eq_true rfl) rfl ?_
                            refine j_goto (tgt := 86) dL_houses_153 (by decide) ?_
                            have hna : ¬ adj K q (S2 (m - 1)) := fun z => z.elim (fun z => by omega) fun z => z.elim (fun z => by omega) (fun z => by omega)
                            refine ih86 (q + 1, m3, H3, S3, nc86 + 2 + 2 + 2, ns86 + 12 + 12 + 12) ?_ ?_
                            · dsimp only
                              exact ⟨by omega, k1, k2, all_s k4 (fun z2 => absurd z2 hna), by omega, by omega, by omega, by omega⟩
                            · dsimp only
                              omega
                          · have hj9 : adj K q (S2 (m - 1)) := .inr (.inr (by omega))
                            have hg9 := ngs_u hq9 (show H3 q < 0 by omega) (show 0 ≤ p by omega)
                            refine j_aload_n dL_houses_135 rfl rfl ?_
                            refine j_iload dL_houses_136 rfl ?_
                            refine j_iload dL_houses_138 rfl ?_
                            refine j_iastore (f := H3) dL_houses_140 (jup_n (by decide) jup_s) (by omega) (by omega) ?_
                            refine J.heap (h2 := (jup (jup h 301 (jA 0 ((K 6 0).toNat) (jfu H3 q p))) 302 (jA 0 ((2 * K 6 0 + 2).toNat) S3))) (jup_u2 (by decide)).symm ?_
                            refine j_aload_n dL_houses_141 rfl rfl ?_
                            refine j_iload dL_houses_142 rfl ?_
                            refine j_iload dL_houses_144 rfl ?_
                            refine j_iastore (f := S3) dL_houses_146 jup_s (by omega) (by omega) ?_
                            refine J.heap (h2 := (jup (jup h 301 (jA 0 ((K 6 0).toNat) (jfu H3 q p))) 302 (jA 0 ((2 * K 6 0 + 2).toNat) (jfu S3 m3 q)))) jup_up.symm ?_
                            refine j_iinc (L' := [(0, _), (1, _), (2, _), (3, _), (4, _), (5, _), (6, _), (7, _)]) dL_houses_147 rfl (Nat.le_of_ble_eq_true rfl) rfl ?_
                            refine j_iinc (L' := [(0, _), (1, _), (2, _), (3, _), (4, _), (5, _), (6, _), (7, _)]) dL_houses_150 rfl (Nat.le_of_ble_eq_true rfl) rfl ?_
                            refine j_goto (tgt := 86) dL_houses_153 (by decide) ?_
                            refine ih86 (q + 1, m3 + 1, (jfu H3 q p), (jfu S3 m3 q), nc86 + 2 + 2 + 2, ns86 + 12 + 12 + 12) ?_ ?_
                            · dsimp only
                              exact ⟨by omega, k1.push hO hS ha.1 k2 hp hq9 (by omega) hj9, jfu_k k2, all_s (fun z z0 z1 z2 => jfu_k (k4 z z0 z1 z2)) (fun _ => jfu_s), by rw [hg9]; omega, by rw [hg9]; omega, by rw [hg9]; omega, by omega⟩
                            · dsimp only
                              omega
                · dsimp only
                  exact ⟨by omega, hfp, ha.2, fun z a b => by omega, by omega, by omega, by omega, by omega⟩
            · dsimp only
              exact ⟨j2.t hO hp (by omega), by omega, by omega, by omega⟩
          · refine j_aload_n dL_houses_54 rfl rfl ?_
            refine j_iload dL_houses_55 rfl ?_
            refine j_iload dL_houses_57 rfl ?_
            refine j_iastore (f := H1) dL_houses_59 (jup_n (by decide) jup_s) (by omega) (by omega) ?_
            refine J.heap (h2 := (jup (jup h 301 (jA 0 ((K 6 0).toNat) (jfu H1 p p))) 302 (jA 0 ((2 * K 6 0 + 2).toNat) S))) (jup_u2 (by decide)).symm ?_
            refine j_aload_n dL_houses_60 rfl rfl ?_
            refine j_iload dL_houses_61 rfl ?_
            refine j_iload dL_houses_63 rfl ?_
            refine j_iastore (f := S) dL_houses_65 jup_s (by omega) (by omega) ?_
            refine J.heap (h2 := (jup (jup h 301 (jA 0 ((K 6 0).toNat) (jfu H1 p p))) 302 (jA 0 ((2 * K 6 0 + 2).toNat) (jfu S 0 p)))) jup_up.symm ?_
            refine j_iinc (L' := [(0, _), (1, _), (2, _), (3, _), (4, _), (5, _)]) dL_houses_66 rfl (Nat.le_of_ble_eq_true rfl) rfl ?_
            refine jloop (P := fun z9 : Int × (Int → Int) × (Int → Int) × Nat × Nat => J mL_houses (jR 9 4000 24100) [300, 301, 302] Z 69 [(0, .ref 0), (1, iv (K 6 0)), (2, .ref 301), (3, .ref 302), (4, iv p), (5, iv z9.1)] [] (jup (jup h 301 (jA 0 ((K 6 0).toNat) z9.2.1)) 302 (jA 0 ((2 * K 6 0 + 2).toNat) z9.2.2.1)) z9.2.2.2.1 z9.2.2.2.2) (fun z9 => hFl K p z9.2.1 z9.2.2.1 z9.1 (-1) ∧ z9.1 + ngs K z9.2.1 ≤ K 6 0 ∧ (z9.2.2.2.1 : Int) + 144 * (z9.1 + ngs K z9.2.1) ≤ 3 + 3456 ∧ z9.2.2.2.2 ≤ 6 * z9.2.2.2.1 + 80) (fun z9 => (2 * ngs K z9.2.1 + z9.1).toNat) ?_ (1, (jfu H1 p p), (jfu S 0 p), nc38, ns38) ?_
            · rintro ⟨m, H2, S2, nc69, ns69⟩ hinv69 ih69
              dsimp only at hinv69 ih69 ⊢
              obtain ⟨f1, f2, b5, b6⟩ := hinv69
              have hm0 : 0 ≤ m := f1.2.2.2.2
              have hm1 := ngs_rg (K := K) (H := H2) (by omega)
              refine j_iload dL_houses_69 rfl ?_
              refine j_if_le (tgt := 159) dL_houses_71 (by decide) (by omega) (fun c71 => ?_) (fun c71 => ?_)
              · have f4 : m ≤ 0 := by omega
                refine j_iinc (L' := [(0, _), (1, _), (2, _), (3, _), (4, _), (5, _)]) dL_houses_159 rfl (Nat.le_of_ble_eq_true rfl) rfl ?_
                refine j_goto (tgt := 38) dL_houses_162 (by decide) ?_
                refine J.keep [0, 1, 2, 3, 4] (L' := [(0, _), (1, _), (2, _), (3, _), (4, _)]) rfl ?_
                refine ih38 (p + 1, H2, S2, nc69, ns69) ?_ ?_
                · dsimp only
                  exact ⟨by omega, f1.done hO hS f4 hp, by omega, by omega⟩
                · dsimp only
                  omega
              · have hgr2 := ngs_rg (K := K) (H := H2) (by omega)
                have ha := f1.2.1 (m - 1) (by omega) (by omega)
                have hfp := f1.pop (by omega)
                refine j_iinc (L' := [(0, _), (1, _), (2, _), (3, _), (4, _), (5, _)]) dL_houses_74 rfl (Nat.le_of_ble_eq_true rfl) rfl ?_
                refine j_aload_n dL_houses_77 rfl rfl ?_
                refine j_iload dL_houses_78 rfl ?_
                refine j_iaload (f := S2) dL_houses_80 jup_s (by omega) (by omega) ?_
                refine j_istore (L' := [(0, _), (1, _), (2, _), (3, _), (4, _), (5, _), (6, _)]) dL_houses_81 (Nat.le_of_ble_eq_true rfl) rfl ?_
                refine j_iconst dL_houses_83 ?_
                refine j_istore (L' := [(0, _), (1, _), (2, _), (3, _), (4, _), (5, _), (6, _), (7, _)]) dL_houses_84 (Nat.le_of_ble_eq_true rfl) rfl ?_
                refine jloop (P := fun z9 : Int × Int × (Int → Int) × (Int → Int) × Nat × Nat => J mL_houses (jR 9 4000 24100) [300, 301, 302] Z 86 [(0, .ref 0), (1, iv (K 6 0)), (2, .ref 301), (3, .ref 302), (4, iv p), (5, iv z9.2.1), (6, iv (S2 (m - 1))), (7, iv z9.1)] [] (jup (jup h 301 (jA 0 ((K 6 0).toNat) z9.2.2.1)) 302 (jA 0 ((2 * K 6 0 + 2).toNat) z9.2.2.2.1)) z9.2.2.2.2.1 z9.2.2.2.2.2) (fun z9 => (0 ≤ z9.1 ∧ z9.1 ≤ K 6 0) ∧ hFl K p z9.2.2.1 z9.2.2.2.1 z9.2.1 (S2 (m - 1)) ∧ z9.2.2.1 (S2 (m - 1)) = p ∧ (∀ z, 0 ≤ z → z < z9.1 → adj K z (S2 (m - 1)) → z9.2.2.1 z = p) ∧ z9.2.1 + ngs K z9.2.2.1 ≤ K 6 0 - 1 ∧ 2 * ngs K z9.2.2.1 + z9.2.1 ≤ 2 * ngs K H2 + m - 1 ∧ (z9.2.2.2.2.1 : Int) + 6 * (K 6 0 - z9.1) + 144 * (z9.2.1 + ngs K z9.2.2.1) ≤ 3 + 3456 ∧ z9.2.2.2.2.2 ≤ 6 * z9.2.2.2.2.1 + 80) (fun z9 => (K 6 0 - z9.1).toNat) ?_ (0, m + (-1), H2, S2, nc69, ns69) ?_
                · rintro ⟨q, m3, H3, S3, nc86, ns86⟩ hinv86 ih86
                  dsimp only at hinv86 ih86 ⊢
                  obtain ⟨k0, k1, k2, k4, k5, k6, b7, b8⟩ := hinv86
                  refine j_iload dL_houses_86 rfl ?_
                  refine j_iload_n dL_houses_88 rfl rfl ?_
                  refine j_icmp_ge (tgt := 156) dL_houses_89 (by decide) (by omega) (fun c89 => ?_) (fun c89 => ?_)
                  · refine j_goto (tgt := 69) dL_houses_156 (by decide) ?_
                    refine J.keep [0, 1, 2, 3, 4, 5] (L' := [(0, _), (1, _), (2, _), (3, _), (4, _), (5, _)]) rfl ?_
                    refine ih69 (m3, H3, S3, nc86, ns86) ?_ ?_
                    · dsimp only
                      exact ⟨k1.next (fun z z0 z1 z2 => k4 z z0 (by omega) z2), by omega, by omega, by omega⟩
                    · dsimp only
                      (have := ngs_rg (K := K) (H := H3) (by omega); have := f1.2.2.2.2; omega)
                  · have hq9 : 0 ≤ q ∧ q < K 6 0 := by omega
                    have hb2 := k1.b hO hq9
                    have hb3 := hO.p q
                    have hb4 := hO.p (S2 (m - 1))
                    have hb5 := hO.s (S2 (m - 1))
                    have hm3 := k1.2.2.2.2
                    have hgr3 := ngs_rg (K := K) (H := H3) (by omega)
                    refine j_aload_n dL_houses_92 rfl rfl ?_
                    refine j_iload dL_houses_93 rfl ?_
                    refine j_iaload (f := H3) dL_houses_95 (jup_n (by decide) jup_s) (by omega) (by omega) ?_
                    refine j_if_ge (tgt := 150) dL_houses_96 (by decide) (by omega) (fun c96 => ?_) (fun c96 => ?_)
                    · refine j_iinc (L' := [(0, _), (1, _), (2, _), (3, _), (4, _), (5, _), (6, _), (7, _)]) dL_houses_150 rfl (Nat.le_of_ble_eq_true rfl) rfl ?_
                      refine j_goto (tgt := 86) dL_houses_153 (by decide) ?_
                      refine ih86 (q + 1, m3, H3, S3, nc86, ns86) ?_ ?_
                      · dsimp only
                        exact ⟨by omega, k1, k2, all_s k4 (fun z2 => k1.ge hO ha.1 k2 hp hq9 (by omega) z2), by omega, by omega, by omega, by omega⟩
                      · dsimp only
                        omega
                    · refine j_aload_n dL_houses_99 rfl rfl ?_
                      refine j_iload dL_houses_100 rfl ?_
                      refine j_iconst dL_houses_102 ?_
                      refine j_callSW (l_of0 ((hC.up (k := 301) (x := (jA 0 ((K 6 0).toNat) H3)) (by decide)).up (k := 302) (x := (jA 0 ((2 * K 6 0 + 2).toNat) S3)) (by decide)) (p := q) (by omega)) dL_houses_103 jc_L_151 jmS_L_of (fun q => by cases q) rfl rfl (by decide) (jfr_of rfl rfl) (Nat.le_of_ble_eq_true rfl) ⟨Nat.le_of_ble_eq_true rfl, Nat.le_of_ble_eq_true rfl⟩ (show nc86 + 2 ≤ 4000 ∧ ns86 + 12 ≤ 24100 by omega) (fun r h5 hp9 => ?_)
                      obtain ⟨rfl, rfl⟩ := hp9
                      refine j_iload dL_houses_106 rfl ?_
                      refine j_icmp_eq (tgt := 135) dL_houses_108 (by decide) (by omega) (fun c108 => ?_) (fun c108 => ?_)
                      · have hj9 : adj K q (S2 (m - 1)) := .inl (by omega)
                        have hg9 := ngs_u hq9 (show H3 q < 0 by omega) (show 0 ≤ p by omega)
                        refine j_aload_n dL_houses_135 rfl rfl ?_
                        refine j_iload dL_houses_136 rfl ?_
                        refine j_iload dL_houses_138 rfl ?_
                        refine j_iastore (f := H3) dL_houses_140 (jup_n (by decide) jup_s) (by omega) (by omega) ?_
                        refine J.heap (h2 := (jup (jup h 301 (jA 0 ((K 6 0).toNat) (jfu H3 q p))) 302 (jA 0 ((2 * K 6 0 + 2).toNat) S3))) (jup_u2 (by decide)).symm ?_
                        refine j_aload_n dL_houses_141 rfl rfl ?_
                        refine j_iload dL_houses_142 rfl ?_
                        refine j_iload dL_houses_144 rfl ?_
                        refine j_iastore (f := S3) dL_houses_146 jup_s (by omega) (by omega) ?_
                        refine J.heap (h2 := (jup (jup h 301 (jA 0 ((K 6 0).toNat) (jfu H3 q p))) 302 (jA 0 ((2 * K 6 0 + 2).toNat) (jfu S3 m3 q)))) jup_up.symm ?_
                        refine j_iinc (L' := [(0, _), (1, _), (2, _), (3, _), (4, _), (5, _), (6, _), (7, _)]) dL_houses_147 rfl (Nat.le_of_ble_eq_true rfl) rfl ?_
                        refine j_iinc (L' := [(0, _), (1, _), (2, _), (3, _), (4, _), (5, _), (6, _), (7, _)]) dL_houses_150 rfl (Nat.le_of_ble_eq_true rfl) rfl ?_
                        refine j_goto (tgt := 86) dL_houses_153 (by decide) ?_
                        refine ih86 (q + 1, m3 + 1, (jfu H3 q p), (jfu S3 m3 q), nc86 + 2, ns86 + 12) ?_ ?_
                        · dsimp only
                          exact ⟨by omega, k1.push hO hS ha.1 k2 hp hq9 (by omega) hj9, jfu_k k2, all_s (fun z z0 z1 z2 => jfu_k (k4 z z0 z1 z2)) (fun _ => jfu_s), by rw [hg9]; omega, by rw [hg9]; omega, by rw [hg9]; omega, by omega⟩
                        · dsimp only
                          omega
                      · refine j_aload_n dL_houses_111 rfl rfl ?_
                        refine j_iload dL_houses_112 rfl ?_
                        refine j_iconst dL_houses_114 ?_
                        refine j_callSW (l_of0 ((hC.up (k := 301) (x := (jA 0 ((K 6 0).toNat) H3)) (by decide)).up (k := 302) (x := (jA 0 ((2 * K 6 0 + 2).toNat) S3)) (by decide)) (p := S2 (m - 1)) (by omega)) dL_houses_115 jc_L_151 jmS_L_of (fun q => by cases q) rfl rfl (by decide) (jfr_of rfl rfl) (Nat.le_of_ble_eq_true rfl) ⟨Nat.le_of_ble_eq_true rfl, Nat.le_of_ble_eq_true rfl⟩ (show nc86 + 2 + 2 ≤ 4000 ∧ ns86 + 12 + 12 ≤ 24100 by omega) (fun r h6 hp9 => ?_)
                        obtain ⟨rfl, rfl⟩ := hp9
                        refine j_iload dL_houses_118 rfl ?_
                        refine j_icmp_eq (tgt := 135) dL_houses_120 (by decide) (by omega) (fun c120 => ?_) (fun c120 => ?_)
                        · have hj9 : adj K q (S2 (m - 1)) := .inr (.inl (by omega))
                          have hg9 := ngs_u hq9 (show H3 q < 0 by omega) (show 0 ≤ p by omega)
                          refine j_aload_n dL_houses_135 rfl rfl ?_
                          refine j_iload dL_houses_136 rfl ?_
                          refine j_iload dL_houses_138 rfl ?_
                          refine j_iastore (f := H3) dL_houses_140 (jup_n (by decide) jup_s) (by omega) (by omega) ?_
                          refine J.heap (h2 := (jup (jup h 301 (jA 0 ((K 6 0).toNat) (jfu H3 q p))) 302 (jA 0 ((2 * K 6 0 + 2).toNat) S3))) (jup_u2 (by decide)).symm ?_
                          refine j_aload_n dL_houses_141 rfl rfl ?_
                          refine j_iload dL_houses_142 rfl ?_
                          refine j_iload dL_houses_144 rfl ?_
                          refine j_iastore (f := S3) dL_houses_146 jup_s (by omega) (by omega) ?_
                          refine J.heap (h2 := (jup (jup h 301 (jA 0 ((K 6 0).toNat) (jfu H3 q p))) 302 (jA 0 ((2 * K 6 0 + 2).toNat) (jfu S3 m3 q)))) jup_up.symm ?_
                          refine j_iinc (L' := [(0, _), (1, _), (2, _), (3, _), (4, _), (5, _), (6, _), (7, _)]) dL_houses_147 rfl (Nat.le_of_ble_eq_true rfl) rfl ?_
                          refine j_iinc (L' := [(0, _), (1, _), (2, _), (3, _), (4, _), (5, _), (6, _), (7, _)]) dL_houses_150 rfl (Nat.le_of_ble_eq_true rfl) rfl ?_
                          refine j_goto (tgt := 86) dL_houses_153 (by decide) ?_
                          refine ih86 (q + 1, m3 + 1, (jfu H3 q p), (jfu S3 m3 q), nc86 + 2 + 2, ns86 + 12 + 12) ?_ ?_
                          · dsimp only
                            exact ⟨by omega, k1.push hO hS ha.1 k2 hp hq9 (by omega) hj9, jfu_k k2, all_s (fun z z0 z1 z2 => jfu_k (k4 z z0 z1 z2)) (fun _ => jfu_s), by rw [hg9]; omega, by rw [hg9]; omega, by rw [hg9]; omega, by omega⟩
                          · dsimp only
                            omega
                        · refine j_aload_n dL_houses_123 rfl rfl ?_
                          refine j_iload dL_houses_124 rfl ?_
                          refine j_iconst dL_houses_126 ?_
                          refine j_callSW (l_of4 ((hC.up (k := 301) (x := (jA 0 ((K 6 0).toNat) H3)) (by decide)).up (k := 302) (x := (jA 0 ((2 * K 6 0 + 2).toNat) S3)) (by decide)) (p := S2 (m - 1)) (by omega)) dL_houses_127 jc_L_151 jmS_L_of (fun q => by cases q) rfl rfl (by decide) (jfr_of rfl rfl) (Nat.le_of_ble_eq_true rfl) ⟨Nat.le_of_ble_eq_true rfl, Nat.le_of_ble_eq_true rfl⟩ (show nc86 + 2 + 2 + 2 ≤ 4000 ∧ ns86 + 12 + 12 + 12 ≤ 24100 by omega) (fun r h7 hp9 => ?_)
                          obtain ⟨rfl, rfl⟩ := hp9
                          refine j_iload dL_houses_130 rfl ?_
                          refine j_icmp_ne (tgt := 150) dL_houses_132 (by decide) (by omega) (fun c132 => ?_) (fun c132 => ?_)
                          · refine j_iinc (L' := [(0, _), (1, _), (2, _), (3, _), (4, _), (5, _), (6, _), (7, _)]) dL_houses_150 rfl (Nat.le_of_ble_eq_true rfl) rfl ?_
                            refine j_goto (tgt := 86) dL_houses_153 (by decide) ?_
                            have hna : ¬ adj K q (S2 (m - 1)) := fun z => z.elim (fun z => by omega) fun z => z.elim (fun z => by omega) (fun z => by omega)
                            refine ih86 (q + 1, m3, H3, S3, nc86 + 2 + 2 + 2, ns86 + 12 + 12 + 12) ?_ ?_
                            · dsimp only
                              exact ⟨by omega, k1, k2, all_s k4 (fun z2 => absurd z2 hna), by omega, by omega, by omega, by omega⟩
                            · dsimp only
                              omega
                          · have hj9 : adj K q (S2 (m - 1)) := .inr (.inr (by omega))
                            have hg9 := ngs_u hq9 (show H3 q < 0 by omega) (show 0 ≤ p by omega)
                            refine j_aload_n dL_houses_135 rfl rfl ?_
                            refine j_iload dL_houses_136 rfl ?_
                            refine j_iload dL_houses_138 rfl ?_
                            refine j_iastore (f := H3) dL_houses_140 (jup_n (by decide) jup_s) (by omega) (by omega) ?_
                            refine J.heap (h2 := (jup (jup h 301 (jA 0 ((K 6 0).toNat) (jfu H3 q p))) 302 (jA 0 ((2 * K 6 0 + 2).toNat) S3))) (jup_u2 (by decide)).symm ?_
                            refine j_aload_n dL_houses_141 rfl rfl ?_
                            refine j_iload dL_houses_142 rfl ?_
                            refine j_iload dL_houses_144 rfl ?_
                            refine j_iastore (f := S3) dL_houses_146 jup_s (by omega) (by omega) ?_
                            refine J.heap (h2 := (jup (jup h 301 (jA 0 ((K 6 0).toNat) (jfu H3 q p))) 302 (jA 0 ((2 * K 6 0 + 2).toNat) (jfu S3 m3 q)))) jup_up.symm ?_
                            refine j_iinc (L' := [(0, _), (1, _), (2, _), (3, _), (4, _), (5, _), (6, _), (7, _)]) dL_houses_147 rfl (Nat.le_of_ble_eq_true rfl) rfl ?_
                            refine j_iinc (L' := [(0, _), (1, _), (2, _), (3, _), (4, _), (5, _), (6, _), (7, _)]) dL_houses_150 rfl (Nat.le_of_ble_eq_true rfl) rfl ?_
                            refine j_goto (tgt := 86) dL_houses_153 (by decide) ?_
                            refine ih86 (q + 1, m3 + 1, (jfu H3 q p), (jfu S3 m3 q), nc86 + 2 + 2 + 2, ns86 + 12 + 12 + 12) ?_ ?_
                            · dsimp only
                              exact ⟨by omega, k1.push hO hS ha.1 k2 hp hq9 (by omega) hj9, jfu_k k2, all_s (fun z z0 z1 z2 => jfu_k (k4 z z0 z1 z2)) (fun _ => jfu_s), by rw [hg9]; omega, by rw [hg9]; omega, by rw [hg9]; omega, by omega⟩
                            · dsimp only
                              omega
                · dsimp only
                  exact ⟨by omega, hfp, ha.2, fun z a b => by omega, by omega, by omega, by omega, by omega⟩
            · dsimp only
              exact ⟨j2.f hO hp (by omega), by rw [ngs_u hp (by omega) hp.1]; omega, by rw [ngs_u hp (by omega) hp.1]; omega, by omega⟩
      · dsimp only
        exact ⟨by omega, hOu.z hO hH0, by omega, by omega⟩
    · refine j_aload_n dL_houses_17 rfl rfl ?_
      refine j_iload_n dL_houses_18 rfl rfl ?_
      refine j_iconst dL_houses_19 ?_
      refine j_iastore (f := H) dL_houses_20 jup_s (by omega) (by omega) ?_
      refine J.heap (h2 := (jup h 301 (jA 0 ((K 6 0).toNat) (jfu H i (-1))))) jup_up.symm ?_
      refine j_iinc (L' := [(0, _), (1, _), (2, _), (3, _)]) dL_houses_21 rfl (Nat.le_of_ble_eq_true rfl) rfl ?_
      refine j_goto (tgt := 12) dL_houses_24 (by decide) ?_
      refine ih12 (i + 1, jfu H i (-1), nc12, ns12) ?_ ?_
      · dsimp only
        exact ⟨by omega, all_s (fun x a b => jfu_k (i2 x a b)) jfu_s, by omega, by omega⟩
      · dsimp only
        omega
  · dsimp only
    exact ⟨by omega, fun x a b => by omega, by omega, by omega⟩
