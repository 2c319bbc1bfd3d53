theorem xTr.eq {X : fS} {q q' : kR} {h h' : jH} {r : Option Value} (e : q = q') (w : xTr X q' h r h') : xTr X q h r h' := e ▸ w
theorem kTry_no {K : fS} {kd u v : Int} (h0 : kd ≠ 0) (h : ¬ (0 ≤ u ∧ u < K 6 0) ∨ ((kd = 2 ∨ kd = 4 ∨ kd = 6) ∧ ¬ (0 ≤ v ∧ v < K 6 0))) : kTry K kd u v = kNo K := by
  unfold kTry
  rw [if_neg h0]
  split
  · unfold kBorn; rw [if_neg (by omega)]
  split
  · unfold kGraft; rw [if_neg (by omega)]
  split
  · unfold kCut; rw [if_neg (by omega)]
  split
  · unfold kMarry; rw [if_neg (by omega)]
  split
  · unfold kPartR; rw [if_neg (by omega)]
  split
  · unfold kQuarrel; rw [if_neg (by omega)]
  split
  · unfold kGiveR; rw [if_neg (by omega)]
  · unfold kDieR; rw [if_neg (by omega)]
set_option maxHeartbeats 4000000 in
/-- FamilyOaks.attempt -/
theorem x_attempt {X K : fS} {B : Int} {h : jH} (hS : xS X K h) (hI : kI B K) (hB : B + 1000 ≤ 20000000) {kd u v : Int} (hk : 0 ≤ kd ∧ kd < 9) (hu : -2147483648 ≤ u ∧ u ≤ 2147483647) (hv : -2147483648 ≤ v ∧ v ≤ 2147483647) : jM mX4_attempt 8 0 0 [] [.ref 0, iv kd, iv u, iv v] h (xTr X (kTry K kd u v) h) jno := by
  refine j_method (by decide +kernel) rfl (fun _ _ _ => trivial) (Nat.le_of_ble_eq_true rfl) ?_
  generalize hZ : jZ [] 0 0 _ _ = Z
  show J mX4_attempt (jR 8 0 0) [] Z 0 [(0, .ref 0), (1, iv kd), (2, iv u), (3, iv v)] [] h 0 0
  have hS0 := hS
  obtain ⟨a, b, E, H, hX, hF, hL, hG, hq, hE9, hH⟩ := hS
  have hO := hI.1
  have hA := hI.2.1
  have hn := hO.n
  have hqn := hO.q
  have hE0 : jEx 0 14 h h := jEx.rf
  refine j_iload_n dX4_attempt_0 rfl rfl ?_
  refine j_if_ne (tgt := 9) dX4_attempt_1 (by decide) (by omega) (fun c1 => ?_) (fun c1 => ?_)
  · refine j_iload_n dX4_attempt_9 rfl rfl ?_
    refine j_iconst dX4_attempt_10 ?_
    refine j_icmp_eq (tgt := 25) dX4_attempt_11 (by decide) (by omega) (fun c2 => ?_) (fun c2 => ?_)
    · refine j_iconst dX4_attempt_25 ?_
      refine j_goto (tgt := 30) dX4_attempt_26 (by decide) ?_
      refine j_istore (L' := [(0, _), (1, _), (2, _), (3, _), (4, _)]) dX4_attempt_30 (by decide) rfl ?_
      refine j_aload_n dX4_attempt_32 rfl rfl ?_
      refine j_getfield (v := .ref 1) dX4_attempt_33 jf_X4_10 hX.1 rfl ?_
      refine j_iload_n dX4_attempt_36 rfl rfl ?_
      refine j_callV (k_has hF hq hO  (by omega)) dX4_attempt_37 jc_X4_320 jmV_X1_has rfl rfl hF.1 rfl rfl (by simp) jfr_nil (Nat.le_of_ble_eq_true rfl) ⟨Nat.le_of_ble_eq_true rfl, Nat.le_of_ble_eq_true rfl⟩ ⟨Nat.le_of_ble_eq_true rfl, Nat.le_of_ble_eq_true rfl⟩ (fun r h3 hp9 => ?_) (fun E h9 q => q.elim)
      obtain ⟨rfl, rfl⟩ := hp9
      refine j_if_eq (tgt := 59) dX4_attempt_40 (by decide) (bi_r32 _) (fun c4 => ?_) (fun c4 => ?_)
      · have qc4 := bi_z c4
        refine j_bipush dX4_attempt_59 (by decide +kernel) ?_
        subst hZ
        exact j_ireturn dX4_attempt_61 rfl rfl (xTr.ok (q := kTry K kd u v) (kTry_no (by omega) (by omega)) (by omega) ⟨a, b, _, _, hX, hF, hL, hG, hq, hE9, hH⟩ hE0) (Nat.le_refl _) (Nat.le_refl _)
      · have qc4 := bi_nz c4
        refine j_iload dX4_attempt_43 rfl ?_
        refine j_if_eq (tgt := 62) dX4_attempt_45 (by decide) (by omega) (fun c5 => absurd c5 (by decide)) (fun c5 => ?_)
        refine j_aload_n dX4_attempt_48 rfl rfl ?_
        refine j_getfield (v := .ref 1) dX4_attempt_49 jf_X4_10 hX.1 rfl ?_
        refine j_iload_n dX4_attempt_52 rfl rfl ?_
        refine j_callV (k_has hF hq hO  (by omega)) dX4_attempt_53 jc_X4_320 jmV_X1_has rfl rfl hF.1 rfl rfl (by simp) jfr_nil (Nat.le_of_ble_eq_true rfl) ⟨Nat.le_of_ble_eq_true rfl, Nat.le_of_ble_eq_true rfl⟩ ⟨Nat.le_of_ble_eq_true rfl, Nat.le_of_ble_eq_true rfl⟩ (fun r h6 hp9 => ?_) (fun E h9 q => q.elim)
        obtain ⟨rfl, rfl⟩ := hp9
        refine j_if_ne (tgt := 62) dX4_attempt_56 (by decide) (bi_r32 _) (fun c7 => ?_) (fun c7 => ?_)
        · have qc7 := bi_nz c7
          refine j_iload_n dX4_attempt_62 rfl rfl ?_
          refine j_tabIn (tgt := 110) 2 dX4_attempt_63 (show kd = 2 by omega) (by decide) (by decide) (by decide) rfl (by decide) ?_
          refine j_aload_n dX4_attempt_110 rfl rfl ?_
          refine j_iload_n dX4_attempt_111 rfl rfl ?_
          refine j_iload_n dX4_attempt_112 rfl rfl ?_
          refine j_callV (x_tryGraft hS0 hI hB (p := u) (o := v) (by omega) (by omega)) dX4_attempt_113 jc_X4_348 jmV_X4_tryGraft rfl rfl hX.1 rfl rfl (by simp) jfr_nil (Nat.le_of_ble_eq_true rfl) ⟨Nat.le_of_ble_eq_true rfl, Nat.le_of_ble_eq_true rfl⟩ ⟨Nat.le_of_ble_eq_true rfl, Nat.le_of_ble_eq_true rfl⟩ (fun r h8 hp9 => ?_) (fun E h9 q => q.elim)
          have hp8 := hp9
          obtain ⟨rfl, _, _⟩ := hp9
          subst hZ
          exact j_ireturn dX4_attempt_116 rfl rfl (xTr.eq (by unfold kTry; repeat (first | rw [if_pos (by omega)] | rw [if_neg (by omega)])) hp8) (Nat.le_refl _) (Nat.le_refl _)
        · have qc7 := bi_z c7
          refine j_bipush dX4_attempt_59 (by decide +kernel) ?_
          subst hZ
          exact j_ireturn dX4_attempt_61 rfl rfl (xTr.ok (q := kTry K kd u v) (kTry_no (by omega) (by omega)) (by omega) ⟨a, b, _, _, hX, hF, hL, hG, hq, hE9, hH⟩ hE0) (Nat.le_refl _) (Nat.le_refl _)
    · refine j_iload_n dX4_attempt_14 rfl rfl ?_
      refine j_iconst dX4_attempt_15 ?_
      refine j_icmp_eq (tgt := 25) dX4_attempt_16 (by decide) (by omega) (fun c9 => ?_) (fun c9 => ?_)
      · refine j_iconst dX4_attempt_25 ?_
        refine j_goto (tgt := 30) dX4_attempt_26 (by decide) ?_
        refine j_istore (L' := [(0, _), (1, _), (2, _), (3, _), (4, _)]) dX4_attempt_30 (by decide) rfl ?_
        refine j_aload_n dX4_attempt_32 rfl rfl ?_
        refine j_getfield (v := .ref 1) dX4_attempt_33 jf_X4_10 hX.1 rfl ?_
        refine j_iload_n dX4_attempt_36 rfl rfl ?_
        refine j_callV (k_has hF hq hO  (by omega)) dX4_attempt_37 jc_X4_320 jmV_X1_has rfl rfl hF.1 rfl rfl (by simp) jfr_nil (Nat.le_of_ble_eq_true rfl) ⟨Nat.le_of_ble_eq_true rfl, Nat.le_of_ble_eq_true rfl⟩ ⟨Nat.le_of_ble_eq_true rfl, Nat.le_of_ble_eq_true rfl⟩ (fun r h10 hp9 => ?_) (fun E h9 q => q.elim)
        obtain ⟨rfl, rfl⟩ := hp9
        refine j_if_eq (tgt := 59) dX4_attempt_40 (by decide) (bi_r32 _) (fun c11 => ?_) (fun c11 => ?_)
        · have qc11 := bi_z c11
          refine j_bipush dX4_attempt_59 (by decide +kernel) ?_
          subst hZ
          exact j_ireturn dX4_attempt_61 rfl rfl (xTr.ok (q := kTry K kd u v) (kTry_no (by omega) (by omega)) (by omega) ⟨a, b, _, _, hX, hF, hL, hG, hq, hE9, hH⟩ hE0) (Nat.le_refl _) (Nat.le_refl _)
        · have qc11 := bi_nz c11
          refine j_iload dX4_attempt_43 rfl ?_
          refine j_if_eq (tgt := 62) dX4_attempt_45 (by decide) (by omega) (fun c12 => absurd c12 (by decide)) (fun c12 => ?_)
          refine j_aload_n dX4_attempt_48 rfl rfl ?_
          refine j_getfield (v := .ref 1) dX4_attempt_49 jf_X4_10 hX.1 rfl ?_
          refine j_iload_n dX4_attempt_52 rfl rfl ?_
          refine j_callV (k_has hF hq hO  (by omega)) dX4_attempt_53 jc_X4_320 jmV_X1_has rfl rfl hF.1 rfl rfl (by simp) jfr_nil (Nat.le_of_ble_eq_true rfl) ⟨Nat.le_of_ble_eq_true rfl, Nat.le_of_ble_eq_true rfl⟩ ⟨Nat.le_of_ble_eq_true rfl, Nat.le_of_ble_eq_true rfl⟩ (fun r h13 hp9 => ?_) (fun E h9 q => q.elim)
          obtain ⟨rfl, rfl⟩ := hp9
          refine j_if_ne (tgt := 62) dX4_attempt_56 (by decide) (bi_r32 _) (fun c14 => ?_) (fun c14 => ?_)
          · have qc14 := bi_nz c14
            refine j_iload_n dX4_attempt_62 rfl rfl ?_
            refine j_tabIn (tgt := 123) 4 dX4_attempt_63 (show kd = 4 by omega) (by decide) (by decide) (by decide) rfl (by decide) ?_
            refine j_aload_n dX4_attempt_123 rfl rfl ?_
            refine j_iload_n dX4_attempt_124 rfl rfl ?_
            refine j_iload_n dX4_attempt_125 rfl rfl ?_
            refine j_callV (x_tryMarry hS0 hI hB (p := u) (o := v) (by omega) (by omega)) dX4_attempt_126 jc_X4_354 jmV_X4_tryMarry rfl rfl hX.1 rfl rfl (by simp) jfr_nil (Nat.le_of_ble_eq_true rfl) ⟨Nat.le_of_ble_eq_true rfl, Nat.le_of_ble_eq_true rfl⟩ ⟨Nat.le_of_ble_eq_true rfl, Nat.le_of_ble_eq_true rfl⟩ (fun r h15 hp9 => ?_) (fun E h9 q => q.elim)
            have hp8 := hp9
            obtain ⟨rfl, _, _⟩ := hp9
            subst hZ
            exact j_ireturn dX4_attempt_129 rfl rfl (xTr.eq (by unfold kTry; repeat (first | rw [if_pos (by omega)] | rw [if_neg (by omega)])) hp8) (Nat.le_refl _) (Nat.le_refl _)
          · have qc14 := bi_z c14
            refine j_bipush dX4_attempt_59 (by decide +kernel) ?_
            subst hZ
            exact j_ireturn dX4_attempt_61 rfl rfl (xTr.ok (q := kTry K kd u v) (kTry_no (by omega) (by omega)) (by omega) ⟨a, b, _, _, hX, hF, hL, hG, hq, hE9, hH⟩ hE0) (Nat.le_refl _) (Nat.le_refl _)
      · refine j_iload_n dX4_attempt_19 rfl rfl ?_
        refine j_bipush dX4_attempt_20 (by decide +kernel) ?_
        refine j_icmp_ne (tgt := 29) dX4_attempt_22 (by decide) (by omega) (fun c16 => ?_) (fun c16 => ?_)
        · refine j_iconst dX4_attempt_29 ?_
          refine j_istore (L' := [(0, _), (1, _), (2, _), (3, _), (4, _)]) dX4_attempt_30 (by decide) rfl ?_
          refine j_aload_n dX4_attempt_32 rfl rfl ?_
          refine j_getfield (v := .ref 1) dX4_attempt_33 jf_X4_10 hX.1 rfl ?_
          refine j_iload_n dX4_attempt_36 rfl rfl ?_
          refine j_callV (k_has hF hq hO  (by omega)) dX4_attempt_37 jc_X4_320 jmV_X1_has rfl rfl hF.1 rfl rfl (by simp) jfr_nil (Nat.le_of_ble_eq_true rfl) ⟨Nat.le_of_ble_eq_true rfl, Nat.le_of_ble_eq_true rfl⟩ ⟨Nat.le_of_ble_eq_true rfl, Nat.le_of_ble_eq_true rfl⟩ (fun r h17 hp9 => ?_) (fun E h9 q => q.elim)
          obtain ⟨rfl, rfl⟩ := hp9
          refine j_if_eq (tgt := 59) dX4_attempt_40 (by decide) (bi_r32 _) (fun c18 => ?_) (fun c18 => ?_)
          · have qc18 := bi_z c18
            refine j_bipush dX4_attempt_59 (by decide +kernel) ?_
            subst hZ
            exact j_ireturn dX4_attempt_61 rfl rfl (xTr.ok (q := kTry K kd u v) (kTry_no (by omega) (by omega)) (by omega) ⟨a, b, _, _, hX, hF, hL, hG, hq, hE9, hH⟩ hE0) (Nat.le_refl _) (Nat.le_refl _)
          · have qc18 := bi_nz c18
            refine j_iload dX4_attempt_43 rfl ?_
            refine j_if_eq (tgt := 62) dX4_attempt_45 (by decide) (by omega) (fun c19 => ?_) (fun c19 => absurd (by decide) c19)
            refine j_iload_n dX4_attempt_62 rfl rfl ?_
            by_cases c20 : kd = 1
            · refine j_tabIn (tgt := 104) 1 dX4_attempt_63 c20 (by decide) (by decide) (by decide) rfl (by decide) ?_
              refine j_aload_n dX4_attempt_104 rfl rfl ?_
              refine j_iload_n dX4_attempt_105 rfl rfl ?_
              refine j_callV (x_tryBorn hS0 hI hB (p := u) (by omega)) dX4_attempt_106 jc_X4_345 jmV_X4_tryBorn rfl rfl hX.1 rfl rfl (by simp) jfr_nil (Nat.le_of_ble_eq_true rfl) ⟨Nat.le_of_ble_eq_true rfl, Nat.le_of_ble_eq_true rfl⟩ ⟨Nat.le_of_ble_eq_true rfl, Nat.le_of_ble_eq_true rfl⟩ (fun r h21 hp9 => ?_) (fun E h9 q => q.elim)
              have hp8 := hp9
              obtain ⟨rfl, _, _⟩ := hp9
              subst hZ
              exact j_ireturn dX4_attempt_109 rfl rfl (xTr.eq (by unfold kTry; repeat (first | rw [if_pos (by omega)] | rw [if_neg (by omega)])) hp8) (Nat.le_refl _) (Nat.le_refl _)
            by_cases c22 : kd = 3
            · refine j_tabIn (tgt := 117) 3 dX4_attempt_63 c22 (by decide) (by decide) (by decide) rfl (by decide) ?_
              refine j_aload_n dX4_attempt_117 rfl rfl ?_
              refine j_iload_n dX4_attempt_118 rfl rfl ?_
              refine j_callV (x_tryCut hS0 hI hB (p := u) (by omega)) dX4_attempt_119 jc_X4_351 jmV_X4_tryCut rfl rfl hX.1 rfl rfl (by simp) jfr_nil (Nat.le_of_ble_eq_true rfl) ⟨Nat.le_of_ble_eq_true rfl, Nat.le_of_ble_eq_true rfl⟩ ⟨Nat.le_of_ble_eq_true rfl, Nat.le_of_ble_eq_true rfl⟩ (fun r h23 hp9 => ?_) (fun E h9 q => q.elim)
              have hp8 := hp9
              obtain ⟨rfl, _, _⟩ := hp9
              subst hZ
              exact j_ireturn dX4_attempt_122 rfl rfl (xTr.eq (by unfold kTry; repeat (first | rw [if_pos (by omega)] | rw [if_neg (by omega)])) hp8) (Nat.le_refl _) (Nat.le_refl _)
            by_cases c24 : kd = 5
            · refine j_tabIn (tgt := 130) 5 dX4_attempt_63 c24 (by decide) (by decide) (by decide) rfl (by decide) ?_
              refine j_aload_n dX4_attempt_130 rfl rfl ?_
              refine j_iload_n dX4_attempt_131 rfl rfl ?_
              refine j_callV (x_tryPart hS0 hI hB (p := u) (by omega)) dX4_attempt_132 jc_X4_357 jmV_X4_tryPart rfl rfl hX.1 rfl rfl (by simp) jfr_nil (Nat.le_of_ble_eq_true rfl) ⟨Nat.le_of_ble_eq_true rfl, Nat.le_of_ble_eq_true rfl⟩ ⟨Nat.le_of_ble_eq_true rfl, Nat.le_of_ble_eq_true rfl⟩ (fun r h25 hp9 => ?_) (fun E h9 q => q.elim)
              have hp8 := hp9
              obtain ⟨rfl, _, _⟩ := hp9
              subst hZ
              exact j_ireturn dX4_attempt_135 rfl rfl (xTr.eq (by unfold kTry; repeat (first | rw [if_pos (by omega)] | rw [if_neg (by omega)])) hp8) (Nat.le_refl _) (Nat.le_refl _)
            by_cases c26 : kd = 7
            · refine j_tabIn (tgt := 143) 7 dX4_attempt_63 c26 (by decide) (by decide) (by decide) rfl (by decide) ?_
              refine j_aload_n dX4_attempt_143 rfl rfl ?_
              refine j_iload_n dX4_attempt_144 rfl rfl ?_
              refine j_iload_n dX4_attempt_145 rfl rfl ?_
              refine j_callV (x_tryGive hS0 hI hB (p := u) (v := v) (by omega) (by omega)) dX4_attempt_146 jc_X4_363 jmV_X4_tryGive rfl rfl hX.1 rfl rfl (by simp) jfr_nil (Nat.le_of_ble_eq_true rfl) ⟨Nat.le_of_ble_eq_true rfl, Nat.le_of_ble_eq_true rfl⟩ ⟨Nat.le_of_ble_eq_true rfl, Nat.le_of_ble_eq_true rfl⟩ (fun r h27 hp9 => ?_) (fun E h9 q => q.elim)
              have hp8 := hp9
              obtain ⟨rfl, _, _⟩ := hp9
              subst hZ
              exact j_ireturn dX4_attempt_149 rfl rfl (xTr.eq (by unfold kTry; repeat (first | rw [if_pos (by omega)] | rw [if_neg (by omega)])) hp8) (Nat.le_refl _) (Nat.le_refl _)
            refine j_tabOut (tgt := 150) dX4_attempt_63 (by omega) (by omega) (by decide) ?_
            refine j_aload_n dX4_attempt_150 rfl rfl ?_
            refine j_iload_n dX4_attempt_151 rfl rfl ?_
            refine j_callV (x_tryDie hS0 hI hB (p := u) (by omega)) dX4_attempt_152 jc_X4_366 jmV_X4_tryDie rfl rfl hX.1 rfl rfl (by simp) jfr_nil (Nat.le_of_ble_eq_true rfl) ⟨Nat.le_of_ble_eq_true rfl, Nat.le_of_ble_eq_true rfl⟩ ⟨Nat.le_of_ble_eq_true rfl, Nat.le_of_ble_eq_true rfl⟩ (fun r h28 hp9 => ?_) (fun E h9 q => q.elim)
            have hp8 := hp9
            obtain ⟨rfl, _, _⟩ := hp9
            subst hZ
            exact j_ireturn dX4_attempt_155 rfl rfl (xTr.eq (by unfold kTry; repeat (first | rw [if_pos (by omega)] | rw [if_neg (by omega)])) hp8) (Nat.le_refl _) (Nat.le_refl _)
        · refine j_iconst dX4_attempt_25 ?_
          refine j_goto (tgt := 30) dX4_attempt_26 (by decide) ?_
          refine j_istore (L' := [(0, _), (1, _), (2, _), (3, _), (4, _)]) dX4_attempt_30 (by decide) rfl ?_
          refine j_aload_n dX4_attempt_32 rfl rfl ?_
          refine j_getfield (v := .ref 1) dX4_attempt_33 jf_X4_10 hX.1 rfl ?_
          refine j_iload_n dX4_attempt_36 rfl rfl ?_
          refine j_callV (k_has hF hq hO  (by omega)) dX4_attempt_37 jc_X4_320 jmV_X1_has rfl rfl hF.1 rfl rfl (by simp) jfr_nil (Nat.le_of_ble_eq_true rfl) ⟨Nat.le_of_ble_eq_true rfl, Nat.le_of_ble_eq_true rfl⟩ ⟨Nat.le_of_ble_eq_true rfl, Nat.le_of_ble_eq_true rfl⟩ (fun r h29 hp9 => ?_) (fun E h9 q => q.elim)
          obtain ⟨rfl, rfl⟩ := hp9
          refine j_if_eq (tgt := 59) dX4_attempt_40 (by decide) (bi_r32 _) (fun c30 => ?_) (fun c30 => ?_)
          · have qc30 := bi_z c30
            refine j_bipush dX4_attempt_59 (by decide +kernel) ?_
            subst hZ
            exact j_ireturn dX4_attempt_61 rfl rfl (xTr.ok (q := kTry K kd u v) (kTry_no (by omega) (by omega)) (by omega) ⟨a, b, _, _, hX, hF, hL, hG, hq, hE9, hH⟩ hE0) (Nat.le_refl _) (Nat.le_refl _)
          · have qc30 := bi_nz c30
            refine j_iload dX4_attempt_43 rfl ?_
            refine j_if_eq (tgt := 62) dX4_attempt_45 (by decide) (by omega) (fun c31 => absurd c31 (by decide)) (fun c31 => ?_)
            refine j_aload_n dX4_attempt_48 rfl rfl ?_
            refine j_getfield (v := .ref 1) dX4_attempt_49 jf_X4_10 hX.1 rfl ?_
            refine j_iload_n dX4_attempt_52 rfl rfl ?_
            refine j_callV (k_has hF hq hO  (by omega)) dX4_attempt_53 jc_X4_320 jmV_X1_has rfl rfl hF.1 rfl rfl (by simp) jfr_nil (Nat.le_of_ble_eq_true rfl) ⟨Nat.le_of_ble_eq_true rfl, Nat.le_of_ble_eq_true rfl⟩ ⟨Nat.le_of_ble_eq_true rfl, Nat.le_of_ble_eq_true rfl⟩ (fun r h32 hp9 => ?_) (fun E h9 q => q.elim)
            obtain ⟨rfl, rfl⟩ := hp9
            refine j_if_ne (tgt := 62) dX4_attempt_56 (by decide) (bi_r32 _) (fun c33 => ?_) (fun c33 => ?_)
            · have qc33 := bi_nz c33
              refine j_iload_n dX4_attempt_62 rfl rfl ?_
              refine j_tabIn (tgt := 136) 6 dX4_attempt_63 (show kd = 6 by omega) (by decide) (by decide) (by decide) rfl (by decide) ?_
              refine j_aload_n dX4_attempt_136 rfl rfl ?_
              refine j_iload_n dX4_attempt_137 rfl rfl ?_
              refine j_iload_n dX4_attempt_138 rfl rfl ?_
              refine j_callV (x_tryQuarrel hS0 hI hB (p := u) (o := v) (by omega) (by omega)) dX4_attempt_139 jc_X4_360 jmV_X4_tryQuarrel rfl rfl hX.1 rfl rfl (by simp) jfr_nil (Nat.le_of_ble_eq_true rfl) ⟨Nat.le_of_ble_eq_true rfl, Nat.le_of_ble_eq_true rfl⟩ ⟨Nat.le_of_ble_eq_true rfl, Nat.le_of_ble_eq_true rfl⟩ (fun r h34 hp9 => ?_) (fun E h9 q => q.elim)
              have hp8 := hp9
              obtain ⟨rfl, _, _⟩ := hp9
              subst hZ
              exact j_ireturn dX4_attempt_142 rfl rfl (xTr.eq (by unfold kTry; repeat (first | rw [if_pos (by omega)] | rw [if_neg (by omega)])) hp8) (Nat.le_refl _) (Nat.le_refl _)
            · have qc33 := bi_z c33
              refine j_bipush dX4_attempt_59 (by decide +kernel) ?_
              subst hZ
              exact j_ireturn dX4_attempt_61 rfl rfl (xTr.ok (q := kTry K kd u v) (kTry_no (by omega) (by omega)) (by omega) ⟨a, b, _, _, hX, hF, hL, hG, hq, hE9, hH⟩ hE0) (Nat.le_refl _) (Nat.le_refl _)
  · refine j_aload_n dX4_attempt_4 rfl rfl ?_
    refine j_callV (x_tryFound hS0 hI hB  ) dX4_attempt_5 jc_X4_342 jmV_X4_tryFound rfl rfl hX.1 rfl rfl (by simp) jfr_nil (Nat.le_of_ble_eq_true rfl) ⟨Nat.le_of_ble_eq_true rfl, Nat.le_of_ble_eq_true rfl⟩ ⟨Nat.le_of_ble_eq_true rfl, Nat.le_of_ble_eq_true rfl⟩ (fun r h35 hp9 => ?_) (fun E h9 q => q.elim)
    have hp8 := hp9
    obtain ⟨rfl, _, _⟩ := hp9
    subst hZ
    exact j_ireturn dX4_attempt_8 rfl rfl (xTr.eq (by unfold kTry; repeat (first | rw [if_pos (by omega)] | rw [if_neg (by omega)])) hp8) (Nat.le_refl _) (Nat.le_refl _)
/-- families as K at the place k -/
def jFK (k : Nat) (K : fS) (h : jH) : Prop := ∃ a b, kQv K a b ∧ jOb sF k (kRw K a b) h
theorem jFK.ex {k : Nat} {K : fS} {h h' : jH} {a n : Nat} (w : jFK k K h) (he : jEx a n h h') (hd : k + 7 ≤ a ∨ a + n ≤ k) : jFK k K h' := by
  obtain ⟨x, y, q, g⟩ := w
  exact ⟨x, y, q, g.ex okF he hd⟩
theorem jFK.xs {X K : fS} {h : jH} (w : xS X K h) : jFK 1 K h := by
  obtain ⟨a, b, E, H, hX, hF, hL, hG, hq, hE9, hH⟩ := w
  exact ⟨a, b, hq, hF⟩
theorem xS.ex {X K : fS} {h h' : jH} {a n : Nat} (w : xS X K h) (he : jEx a n h h') (hd : 14 ≤ a) : xS X K h' := by
  obtain ⟨x, y, E, H, hX, hF, hL, hG, hq, hE9, hH⟩ := w
  exact ⟨x, y, E, H, hX.ex okX he (.inl (by show 0 + 1 ≤ a; omega)), hF.ex okF he (.inl (by show 1 + 7 ≤ a; omega)), hL.ex okE he (.inl (by show 8 + 3 ≤ a; omega)), hG.ex okH he (.inl (by show 11 + 3 ≤ a; omega)), hq, hE9, hH⟩
theorem xS.x {X K : fS} {h : jH} (w : xS X K h) : jOb sX 0 X h := by
  obtain ⟨a, b, E, H, hX, _⟩ := w
  exact hX
set_option maxHeartbeats 4000000 in
/-- FamilyOaks.begin -/
theorem x_begin {X K Fb : fS} {B : Int} {h : jH} (hS : xS X K h) (hb : jOb sF 14 Fb h) (hO : jOk B K)  : jM mX4_begin 2 0 0 [] [.ref 0] h (fun r h' => r = none ∧ jFK 14 K h' ∧ jEx 14 7 h h') jno := by
  refine j_method (by decide +kernel) rfl (fun _ _ _ => trivial) (Nat.le_of_ble_eq_true rfl) ?_
  generalize hZ : jZ [] 0 0 _ _ = Z
  show J mX4_begin (jR 2 0 0) [] Z 0 [(0, .ref 0)] [] h 0 0
  obtain ⟨a, b, E, H, hX, hF, hL, hG, hq, hE9, hH⟩ := hS
  have hE0 : jEx 14 7 h h := jEx.rf
  refine j_aload_n dX4_begin_0 rfl rfl ?_
  refine j_getfield (v := .ref 14) dX4_begin_1 jf_X4_16 hX.1 rfl ?_
  refine j_aload_n dX4_begin_4 rfl rfl ?_
  refine j_getfield (v := .ref 1) dX4_begin_5 jf_X4_10 hX.1 rfl ?_
  refine j_callV (k_copyFrom hb (k2 := 1) (by decide) hF hO) dX4_begin_8 jc_X4_315 jmV_X1_copyFrom rfl rfl hb.1 rfl rfl (by simp) jfr_nil (Nat.le_of_ble_eq_true rfl) ⟨Nat.le_of_ble_eq_true rfl, Nat.le_of_ble_eq_true rfl⟩ ⟨Nat.le_of_ble_eq_true rfl, Nat.le_of_ble_eq_true rfl⟩ (fun r h1 hp9 => ?_) (fun E h9 q => q.elim)
  obtain ⟨rfl, hG2, hX3⟩ := hp9
  have hG4 := hX.ex okX hX3 (by show 0 + 1 ≤ 14 ∨ 14 + 7 ≤ 0; decide)
  have hG5 := hF.ex okF hX3 (by show 1 + 7 ≤ 14 ∨ 14 + 7 ≤ 1; decide)
  have hE6 := hE0.tr hX3
  subst hZ
  exact j_return dX4_begin_11 rfl ⟨rfl, ⟨a, b, hq, hG2⟩, hE6⟩ (Nat.le_refl _) (Nat.le_refl _)
set_option maxHeartbeats 4000000 in
/-- FamilyOaks.goBackTo -/
theorem x_goBackTo {X K K2 : fS} {B : Int} {kf : Nat} {h : jH} (hS : xS X K h) (hf9 : jFK kf K2 h) (hkf : 14 ≤ kf) (hO2 : jOk B K2)  : jM mX4_goBackTo 6 0 0 [] [.ref 0, .ref kf] h (fun r h' => r = none ∧ xS X K2 h' ∧ jEx 1 13 h h') jno := by
  refine j_method (by decide +kernel) rfl (fun _ _ _ => trivial) (Nat.le_of_ble_eq_true rfl) ?_
  generalize hZ : jZ [] 0 0 _ _ = Z
  show J mX4_goBackTo (jR 6 0 0) [] Z 0 [(0, .ref 0), (1, .ref kf)] [] h 0 0
  obtain ⟨a, b, E, H, hX, hF, hL, hG, hq, hE9, hH⟩ := hS
  obtain ⟨a2, b2, hq2, hf⟩ := hf9
  have hE0 : jEx 1 13 h h := jEx.rf
  refine j_aload_n dX4_goBackTo_0 rfl rfl ?_
  refine j_getfield (v := .ref 1) dX4_goBackTo_1 jf_X4_10 hX.1 rfl ?_
  refine j_aload_n dX4_goBackTo_4 rfl rfl ?_
  refine j_callV (k_copyFrom hF (k2 := kf) (.inl (by omega)) hf hO2) dX4_goBackTo_5 jc_X4_315 jmV_X1_copyFrom rfl rfl hF.1 rfl rfl (by simp) jfr_nil (Nat.le_of_ble_eq_true rfl) ⟨Nat.le_of_ble_eq_true rfl, Nat.le_of_ble_eq_true rfl⟩ ⟨Nat.le_of_ble_eq_true rfl, Nat.le_of_ble_eq_true rfl⟩ (fun r h1 hp9 => ?_) (fun E h9 q => q.elim)
  obtain ⟨rfl, hG2, hX3⟩ := hp9
  have hG4 := hX.ex okX hX3 (by show 0 + 1 ≤ 1 ∨ 1 + 7 ≤ 0; decide)
  have hG5 := hL.ex okE hX3 (by show 8 + 3 ≤ 1 ∨ 1 + 7 ≤ 8; decide)
  have hG6 := hG.ex okH hX3 (by show 11 + 3 ≤ 1 ∨ 1 + 7 ≤ 11; decide)
  have hG7 := hf.ex okF hX3 (by show kf + 7 ≤ 1 ∨ 1 + 7 ≤ kf; omega)
  have hE8 : jEx 1 13 h h1 := hE0.tr (hX3.mo (by decide))
  refine j_aload_n dX4_goBackTo_8 rfl rfl ?_
  refine j_callV (x_renew hG4 hG2 hG5 hG6 hq2 hO2) dX4_goBackTo_9 jc_X4_336 jmV_X4_renew rfl rfl hG4.1 rfl rfl (by simp) jfr_nil (Nat.le_of_ble_eq_true rfl) ⟨Nat.le_of_ble_eq_true rfl, Nat.le_of_ble_eq_true rfl⟩ ⟨Nat.le_of_ble_eq_true rfl, Nat.le_of_ble_eq_true rfl⟩ (fun r h9 hp9 => ?_) (fun E h9 q => q.elim)
  obtain ⟨rfl, E15, H16, hG10, hG11, hE913, hH14, hX12⟩ := hp9
  have hG17 := hG4.ex okX hX12 (by show 0 + 1 ≤ 8 ∨ 8 + 6 ≤ 0; omega)
  have hG18 := hG2.ex okF hX12 (by show 1 + 7 ≤ 8 ∨ 8 + 6 ≤ 1; omega)
  have hG19 := hG7.ex okF hX12 (by show kf + 7 ≤ 8 ∨ 8 + 6 ≤ kf; omega)
  have hE20 : jEx 1 13 h h9 := hE8.tr (hX12.mo (by decide))
  subst hZ
  exact j_return dX4_goBackTo_12 rfl ⟨rfl, ⟨a2, b2, _, _, hG17, hG18, hG10, hG11, hq2, hE913, hH14⟩, hE20⟩ (Nat.le_refl _) (Nat.le_refl _)
theorem x_pastAt {X : fS} {h : jH} {g : Int → Option Nat} (hX : jOb sX 0 X h) (hP : h 36 = some (jQ 8 g)) {p : Int} (hp : 0 ≤ p ∧ p < 8) {k : Nat} (hg : g p = some k) : jM mX4_pastAt 0 0 0 [] [.ref 0, iv p] h (jRet (.ref k) h) jno := by
  refine j_method (by decide +kernel) rfl (fun _ _ _ => trivial) (Nat.le_of_ble_eq_true rfl) ?_
  generalize hZ : jZ [] 0 0 _ _ = Z
  show J mX4_pastAt (jR 0 0 0) [] Z 0 [(0, .ref 0), (1, iv p)] [] h 0 0
  refine j_iload_n dX4_pastAt_0 rfl rfl ?_
  refine j_if_lt (tgt := 19) dX4_pastAt_1 (by decide) (by omega) (fun c => False.elim (by omega)) (fun c1 => ?_)
  refine j_iload_n dX4_pastAt_4 rfl rfl ?_
  refine j_bipush dX4_pastAt_5 (by decide +kernel) ?_
  refine j_icmp_ge (tgt := 19) dX4_pastAt_7 (by decide) (by omega) (fun c => False.elim (by omega)) (fun c2 => ?_)
  refine j_aload_n dX4_pastAt_10 rfl rfl ?_
  refine j_getfield (v := .ref 36) dX4_pastAt_11 jf_X4_26 hX.1 rfl ?_
  refine j_iload_n dX4_pastAt_14 rfl rfl ?_
  refine j_aaload dX4_pastAt_15 hP hp (by decide) hg ?_
  refine j_goto (tgt := 20) dX4_pastAt_16 (by decide) ?_
  subst hZ
  exact j_areturn dX4_pastAt_20 rfl (.inl ⟨_, rfl⟩) ⟨rfl, rfl⟩ (Nat.le_refl _) (Nat.le_refl _)
theorem x_pastAtN {X : fS} {h : jH} (hX : jOb sX 0 X h) {p : Int} (hr : -2147483648 ≤ p ∧ p ≤ 2147483647) (hp : ¬ (0 ≤ p ∧ p < 8)) : jM mX4_pastAt 0 0 0 [] [.ref 0, iv p] h (jRet .null h) jno := by
  refine j_method (by decide +kernel) rfl (fun _ _ _ => trivial) (Nat.le_of_ble_eq_true rfl) ?_
  generalize hZ : jZ [] 0 0 _ _ = Z
  show J mX4_pastAt (jR 0 0 0) [] Z 0 [(0, .ref 0), (1, iv p)] [] h 0 0
  refine j_iload_n dX4_pastAt_0 rfl rfl ?_
  refine j_if_lt (tgt := 19) dX4_pastAt_1 (by decide) hr (fun c1 => ?_) (fun c1 => ?_)
  · refine j_aconst_null dX4_pastAt_19 ?_
    subst hZ
    exact j_areturnN dX4_pastAt_20 rfl (.inl ⟨_, rfl⟩) ⟨rfl, rfl⟩ (Nat.le_refl _) (Nat.le_refl _)
  · refine j_iload_n dX4_pastAt_4 rfl rfl ?_
    refine j_bipush dX4_pastAt_5 (by decide +kernel) ?_
    refine j_icmp_ge (tgt := 19) dX4_pastAt_7 (by decide) (by omega) (fun c2 => ?_) (fun c => False.elim (by omega))
    refine j_aconst_null dX4_pastAt_19 ?_
    subst hZ
    exact j_areturnN dX4_pastAt_20 rfl (.inl ⟨_, rfl⟩) ⟨rfl, rfl⟩ (Nat.le_refl _) (Nat.le_refl _)
theorem jup_id {h : jH} {k : Nat} {c : jC} (hk : h k = some c) : jup h k c = h := funext fun j => by
  by_cases hj : j = k
  · rw [hj, jup_s, hk]
  · exact jup_n hj rfl
theorem jup_up {h : jH} {k : Nat} {c d : jC} : jup (jup h k c) k d = jup h k d := funext fun j => by
  by_cases hj : j = k
  · rw [hj, jup_s, jup_s]
  · rw [jup_n hj (jup_n hj rfl), jup_n hj rfl]
/-- moved up by one, as far as i -/
def sg (g : Int → Option Nat) (i : Int) : Int → Option Nat := fun j => if 0 ≤ j ∧ j + 1 < i then g (j + 1) else g j
theorem sg_1 (g : Int → Option Nat) : sg g 1 = g := funext fun j => if_neg (by omega)
theorem sg_s {g : Int → Option Nat} {i : Int} {k : Nat} (hi : 1 ≤ i) (hk : g i = some k) : jqu (sg g i) (i - 1) (some k) = sg g (i + 1) := by
  funext j
  show (if j = i - 1 then some k else if 0 ≤ j ∧ j + 1 < i then g (j + 1) else g j) = if 0 ≤ j ∧ j + 1 < i + 1 then g (j + 1) else g j
  by_cases h1 : j = i - 1
  · rw [if_pos h1, if_pos (by omega), h1, show i - 1 + 1 = i by omega, hk]
  · rw [if_neg h1]
    by_cases h2 : 0 ≤ j ∧ j + 1 < i
    · rw [if_pos h2, if_pos (by omega)]
    · rw [if_neg h2, if_neg (by omega)]
/-- the first goes to the end -/
def rot (g : Int → Option Nat) : Int → Option Nat := jqu (sg g 8) 7 (g 0)
theorem rot_7 (g : Int → Option Nat) : rot g 7 = g 0 := by
  show (if (7 : Int) = 7 then g 0 else sg g 8 7) = g 0
  rw [if_pos rfl]
theorem rot_n {g : Int → Option Nat} {i : Int} (h : 0 ≤ i ∧ i < 7) : rot g i = g (i + 1) := by
  show (if i = 7 then g 0 else if 0 ≤ i ∧ i + 1 < 8 then g (i + 1) else g i) = _
  rw [if_neg (by omega), if_pos (by omega)]
set_option maxHeartbeats 4000000 in
theorem x_forgetOldest {X : fS} {h : jH} {g : Int → Option Nat} {pl : Int → Nat} (hX : jOb sX 0 X h) (hP : h 36 = some (jQ 8 g)) (hg : ∀ i, 0 ≤ i → i < 8 → g i = some (pl i)) (hF : ∀ i, 0 ≤ i → i < 8 → pl i ≠ 36 ∧ ∃ fs, h (pl i) = some (jO 1 fs)) : jM mX4_forgetOldest 0 0 0 [] [.ref 0] h (fun r h' => r = none ∧ jOb sX 0 (gn X 5 7) h' ∧ h' 36 = some (jQ 8 (rot g)) ∧ ∀ j, j ≠ 0 → j ≠ 36 → h' j = h j) jno := by
  refine j_method (by decide +kernel) rfl (fun _ _ _ => trivial) (Nat.le_of_ble_eq_true rfl) ?_
  generalize hZ : jZ [] 0 0 _ _ = Z
  show J mX4_forgetOldest (jR 0 0 0) [] Z 0 [(0, .ref 0)] [] h 0 0
  have hup : ∀ (g1 : Int → Option Nat), jOb sX 0 X (jup h 36 (jQ 8 g1)) := fun g1 => hX.ex okX (jEx_up (k := 36) (n := 1) (by decide)) (by decide)
  have hup2 : ∀ (g1 : Int → Option Nat) (i : Int), 0 ≤ i → i < 8 → ∃ fs, jup h 36 (jQ 8 g1) (pl i) = some (jO 1 fs) := fun g1 i i0 i1 => by
    obtain ⟨a1, fs, a2⟩ := hF i i0 i1
    exact ⟨fs, jup_n a1 a2⟩
  obtain ⟨fs0, hf0⟩ := (hF 0 (by decide) (by decide)).2
  refine j_aload_n dX4_forgetOldest_0 rfl rfl ?_
  refine j_getfield (v := .ref 36) dX4_forgetOldest_1 jf_X4_26 hX.1 rfl ?_
  refine j_iconst dX4_forgetOldest_4 ?_
  refine j_aaload dX4_forgetOldest_5 hP ⟨Int.le_refl _, by decide⟩ (by decide) (hg 0 (by decide) (by decide)) ?_
  refine j_astore_n (L' := [(0, _), (1, _)]) dX4_forgetOldest_6 rfl (by decide) rfl ?_
  refine j_iconst dX4_forgetOldest_7 ?_
  refine j_istore_n (L' := [(0, _), (1, _), (2, _)]) dX4_forgetOldest_8 rfl (by decide) rfl ?_
  have hst : h = jup h 36 (jQ 8 (sg g 1)) := by rw [sg_1, jup_id hP]
  have key : ∀ i : Int, (1 ≤ i ∧ i ≤ 8) → J mX4_forgetOldest (jR 0 0 0) [] Z 9 [(0, .ref 0), (1, .ref (pl 0)), (2, iv i)] [] (jup h 36 (jQ 8 (sg g i))) 0 0 := by
    refine jloop (P := fun i : Int => J mX4_forgetOldest (jR 0 0 0) [] Z 9 [(0, .ref 0), (1, .ref (pl 0)), (2, iv i)] [] (jup h 36 (jQ 8 (sg g i))) 0 0) (fun i => 1 ≤ i ∧ i ≤ 8) (fun i => (8 - i).toNat) ?_
    intro i hi ih
    refine j_iload_n dX4_forgetOldest_9 rfl rfl ?_
    refine j_bipush dX4_forgetOldest_10 (by decide +kernel) ?_
    refine j_icmp_ge (tgt := 35) dX4_forgetOldest_12 (by decide) (by omega) (fun c => ?_) (fun c => ?_)
    · have hi8 : i = 8 := by omega
      subst hi8
      refine j_aload_n dX4_forgetOldest_35 rfl rfl ?_
      refine j_getfield (v := .ref 36) dX4_forgetOldest_36 jf_X4_26 (hup _).1 rfl ?_
      refine j_bipush dX4_forgetOldest_39 (by decide +kernel) ?_
      refine j_aload_n dX4_forgetOldest_41 rfl rfl ?_
      obtain ⟨fs9, hf9⟩ := hup2 (sg g 8) 0 (by decide) (by decide)
      refine j_aastore dX4_forgetOldest_42 jup_s hf9 ⟨by decide, by decide⟩ (by decide) ?_
      rw [jup_up]
      have e9 : jqu (sg g 8) 7 (some (pl 0)) = rot g := by unfold rot; rw [hg 0 (by decide) (by decide)]
      rw [e9]
      refine j_aload_n dX4_forgetOldest_43 rfl rfl ?_
      refine j_bipush dX4_forgetOldest_44 (by decide +kernel) ?_
      refine jo_put (S := sX) dX4_forgetOldest_46 jf_X4_30 (fun q hq => by cases hq; exact ⟨rfl, rfl⟩) (jHold_int _) okX (hup _) rfl (fun h2 hG2 hX2 => ?_)
      subst hZ
      exact j_return dX4_forgetOldest_49 rfl ⟨rfl, hG2, (hX2 36 (.inr (by decide))).trans jup_s, fun j j0 j1 => (hX2 j (.inr (by show 0 + 1 ≤ j; omega))).trans (jup_n j1 rfl)⟩ (Nat.le_refl _) (Nat.le_refl _)
    · refine j_aload_n dX4_forgetOldest_15 rfl rfl ?_
      refine j_getfield (v := .ref 36) dX4_forgetOldest_16 jf_X4_26 (hup _).1 rfl ?_
      refine j_iload_n dX4_forgetOldest_19 rfl rfl ?_
      refine j_iconst dX4_forgetOldest_20 ?_
      refine j_isub dX4_forgetOldest_21 ?_
      refine j_aload_n dX4_forgetOldest_22 rfl rfl ?_
      refine j_getfield (v := .ref 36) dX4_forgetOldest_23 jf_X4_26 (hup _).1 rfl ?_
      refine j_iload_n dX4_forgetOldest_26 rfl rfl ?_
      have hgi := hg i (by omega) (by omega)
      refine j_aaload (k := pl i) dX4_forgetOldest_27 jup_s ⟨by omega, by omega⟩ (by decide) ((if_neg (by omega)).trans hgi) ?_
      obtain ⟨fs9, hf9⟩ := hup2 (sg g i) i (by omega) (by omega)
      refine j_aastore dX4_forgetOldest_28 jup_s hf9 ⟨by omega, by omega⟩ (by decide) ?_
      rw [jup_up, sg_s hi.1 hgi]
      refine j_iinc (L' := [(0, _), (1, _), (2, _)]) dX4_forgetOldest_29 rfl (by decide) rfl ?_
      refine j_goto (tgt := 9) dX4_forgetOldest_32 (by decide) ?_
      exact ih (i + 1) (by omega) (by omega)
  rw [hst]
  have k1 := key 1 (by decide)
  rw [sg_1] at k1 ⊢
  exact k1
