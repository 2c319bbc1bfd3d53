set_option maxHeartbeats 4000000 in
/-- FamilyOaks.meanDepth -/
theorem x_meanDepth {K Ks X I : fS} {P : Int → fS} {c B : Int} {t : Int → Int} {h : jH} (hC : xC K Ks P X I c t h) (hI : kI B K)  : jM mX4_meanDepth 6 1 6 [] [.ref 0] h (fun r h' => r = some (.double (FP.ddiv (FP.i2d (Int32.ofInt (csum (fun c => fdep K c) (K 6 0).toNat))) (FP.i2d (Int32.ofInt (K 6 0))))) ∧ K 6 0 ≠ 0 ∧ h = h') (fun E h' => E = "java/lang/ArithmeticException" ∧ K 6 0 = 0 ∧ h = h') := by
  refine j_method (by decide +kernel) rfl (fun _ _ _ => trivial) (Nat.le_of_ble_eq_true rfl) ?_
  generalize hZ : jZ [] 1 6 _ _ = Z
  show J mX4_meanDepth (jR 6 1 6) [] Z 0 [(0, .ref 0)] [] h 0 0
  obtain ⟨hS, ⟨Fb, hb⟩, ⟨hKs, hIn, hW⟩, hPa, hp5⟩ := hC
  obtain ⟨a, b, E, H, hX, hF, hL, hG, hq, hE9, hH⟩ := hS
  have hO := hI.1
  have hA := hI.2.1
  have hn := hO.n
  have hqn := hO.q
  have zs := csum_rg (f := fun c => fdep K c) (a := 0) (b := 24) (fun i => fdep_rg K i) (by omega) (by omega) (K 6 0).toNat
  refine j_aload_n dX4_meanDepth_0 rfl rfl ?_
  refine j_getfield (v := .ref 1) dX4_meanDepth_1 jf_X4_10 hX.1 rfl ?_
  refine j_getfield (v := iv (K 6 0)) dX4_meanDepth_4 jf_X4_150 hF.1 rfl ?_
  refine j_if_ne (tgt := 21) dX4_meanDepth_7 (by decide) (by omega) (fun c1 => ?_) (fun c1 => ?_)
  · refine j_aload_n dX4_meanDepth_21 rfl rfl ?_
    refine j_getfield (v := .ref 1) dX4_meanDepth_22 jf_X4_10 hX.1 rfl ?_
    refine j_callV (k_sumOfDepths hF hq hO  ) dX4_meanDepth_25 jc_X4_306 jmV_X1_sumOfDepths rfl rfl hF.1 rfl rfl (by simp) jfr_nil (Nat.le_of_ble_eq_true rfl) ⟨Nat.le_of_ble_eq_true rfl, Nat.le_of_ble_eq_true rfl⟩ ⟨Nat.le_of_ble_eq_true rfl, Nat.le_of_ble_eq_true rfl⟩ (fun r h2 hp9 => ?_) (fun E h9 q => q.elim)
    obtain ⟨rfl, rfl⟩ := hp9
    refine j_i2d dX4_meanDepth_28 ?_
    refine j_aload_n dX4_meanDepth_29 rfl rfl ?_
    refine j_getfield (v := .ref 1) dX4_meanDepth_30 jf_X4_10 hX.1 rfl ?_
    refine j_getfield (v := iv (K 6 0)) dX4_meanDepth_33 jf_X4_150 hF.1 rfl ?_
    refine j_i2d dX4_meanDepth_36 ?_
    refine j_ddiv dX4_meanDepth_37 (fp_d (by omega) (by omega)) ?_
    subst hZ
    exact j_dreturn dX4_meanDepth_38 rfl ⟨rfl, by omega, rfl⟩ (by omega) (by omega)
  · subst hZ
    exact j_throwYW jth_301_303_305 rfl dX4_meanDepth_10 dX4_meanDepth_13 dX4_meanDepth_14 dX4_meanDepth_17 dX4_meanDepth_20 (by decide) (by decide) ⟨rfl, by omega, rfl⟩ (by decide) (by decide)
set_option maxHeartbeats 4000000 in
/-- FamilyOaks.livingShare -/
theorem x_livingShare {K Ks X I : fS} {P : Int → fS} {c B : Int} {t : Int → Int} {h : jH} (hC : xC K Ks P X I c t h) (hI : kI B K)  : jM mX4_livingShare 6 1 6 [] [.ref 0] h (fun r h' => r = some (.float (FP.fdiv (FP.i2f (Int32.ofInt (csum (fun c => bi (K 3 c ≠ 0)) (K 6 0).toNat))) (FP.i2f (Int32.ofInt (K 6 0))))) ∧ K 6 0 ≠ 0 ∧ h = h') (fun E h' => E = "java/lang/ArithmeticException" ∧ K 6 0 = 0 ∧ h = h') := by
  refine j_method (by decide +kernel) rfl (fun _ _ _ => trivial) (Nat.le_of_ble_eq_true rfl) ?_
  generalize hZ : jZ [] 1 6 _ _ = Z
  show J mX4_livingShare (jR 6 1 6) [] Z 0 [(0, .ref 0)] [] h 0 0
  obtain ⟨hS, ⟨Fb, hb⟩, ⟨hKs, hIn, hW⟩, hPa, hp5⟩ := hC
  obtain ⟨a, b, E, H, hX, hF, hL, hG, hq, hE9, hH⟩ := hS
  have hO := hI.1
  have hA := hI.2.1
  have hn := hO.n
  have hqn := hO.q
  have zs := csum_bi (P := fun c => K 3 c ≠ 0) (K 6 0).toNat
  refine j_aload_n dX4_livingShare_0 rfl rfl ?_
  refine j_getfield (v := .ref 1) dX4_livingShare_1 jf_X4_10 hX.1 rfl ?_
  refine j_getfield (v := iv (K 6 0)) dX4_livingShare_4 jf_X4_150 hF.1 rfl ?_
  refine j_if_ne (tgt := 21) dX4_livingShare_7 (by decide) (by omega) (fun c1 => ?_) (fun c1 => ?_)
  · refine j_aload_n dX4_livingShare_21 rfl rfl ?_
    refine j_getfield (v := .ref 1) dX4_livingShare_22 jf_X4_10 hX.1 rfl ?_
    refine j_callV (k_livingPersons hF hq hO  ) dX4_livingShare_25 jc_X4_265 jmV_X1_livingPersons rfl rfl hF.1 rfl rfl (by simp) jfr_nil (Nat.le_of_ble_eq_true rfl) ⟨Nat.le_of_ble_eq_true rfl, Nat.le_of_ble_eq_true rfl⟩ ⟨Nat.le_of_ble_eq_true rfl, Nat.le_of_ble_eq_true rfl⟩ (fun r h2 hp9 => ?_) (fun E h9 q => q.elim)
    obtain ⟨rfl, rfl⟩ := hp9
    refine j_i2f dX4_livingShare_28 ?_
    refine j_aload_n dX4_livingShare_29 rfl rfl ?_
    refine j_getfield (v := .ref 1) dX4_livingShare_30 jf_X4_10 hX.1 rfl ?_
    refine j_getfield (v := iv (K 6 0)) dX4_livingShare_33 jf_X4_150 hF.1 rfl ?_
    refine j_i2f dX4_livingShare_36 ?_
    refine j_fdiv dX4_livingShare_37 (fp_f (by omega) (by omega)).1 ?_
    subst hZ
    exact j_freturn dX4_livingShare_38 rfl ⟨rfl, by omega, rfl⟩ (by omega) (by omega)
  · subst hZ
    exact j_throwYW jth_301_303_305 rfl dX4_livingShare_10 dX4_livingShare_13 dX4_livingShare_14 dX4_livingShare_17 dX4_livingShare_20 (by decide) (by decide) ⟨rfl, by omega, rfl⟩ (by decide) (by decide)
theorem k_count {k kf : Nat} {K H : fS} {a b : Int → Int} {B : Int} {h : jH} (hG : jOb sH k H h) (hF : jOb sF kf (kRw K a b) h) (hq : kQv K a b) (hO : jOk B K) (hH : hHo K H) : jM mX2_count 2 0 0 [] [.ref k, .ref kf] h (jRet (iv (csum (fun p => bi (fho K p = p)) (K 6 0).toNat)) h) jno := c2_count (F := kRw K a b) hG hF (hO.rw hq) hH
theorem k_countAgain {k kf : Nat} {K H : fS} {a b : Int → Int} {B : Int} {h : jH} (hd : k + 3 ≤ kf ∨ kf + 7 ≤ k) (hG : jOb sH k H h) (hF : jOb sF kf (kRw K a b) h) (hq : kQv K a b) (hO : jOk B K) (hS : kSy K) : jM mX2_countAgain 3 0 0 [] [.ref k, .ref kf] h (fun r h' => r = some (iv (csum (fun p => bi (fho K p = p)) (K 6 0).toNat)) ∧ ∃ L, jOb sH k (gs H 1 L) h' ∧ jEx k 3 h h') jno := c2_countAgain (F := kRw K a b) hG hd hF (hO.rw hq) hS
theorem hHo.l {K H : fS} {L : Int → Int} (h : hHo K H) : hHo K (gs H 1 L) := h
set_option maxHeartbeats 4000000 in
/-- FamilyOaks.houses -/
theorem x_houses {K Ks X I : fS} {P : Int → fS} {c B : Int} {t : Int → Int} {h : jH} (hC : xC K Ks P X I c t h) (hI : kI B K)  : jM mX4_houses 3 0 0 [] [.ref 0] h (jRet (iv (csum (fun p => bi (fho K p = p)) (K 6 0).toNat)) h) jno := by
  refine j_method (by decide +kernel) rfl (fun _ _ _ => trivial) (Nat.le_of_ble_eq_true rfl) ?_
  generalize hZ : jZ [] 0 0 _ _ = Z
  show J mX4_houses (jR 3 0 0) [] Z 0 [(0, .ref 0)] [] h 0 0
  obtain ⟨hS, ⟨Fb, hb⟩, ⟨hKs, hIn, hW⟩, hPa, hp5⟩ := hC
  obtain ⟨a, b, E, H, hX, hF, hL, hG, hq, hE9, hH⟩ := hS
  have hO := hI.1
  have hA := hI.2.1
  have hn := hO.n
  have hqn := hO.q
  refine j_aload_n dX4_houses_0 rfl rfl ?_
  refine j_getfield (v := .ref 11) dX4_houses_1 jf_X4_44 hX.1 rfl ?_
  refine j_aload_n dX4_houses_4 rfl rfl ?_
  refine j_getfield (v := .ref 1) dX4_houses_5 jf_X4_10 hX.1 rfl ?_
  refine j_callV (k_count hG hF hq hO hH) dX4_houses_8 jc_X4_185 jmV_X2_count rfl rfl hG.1 rfl rfl (by simp) jfr_nil (Nat.le_of_ble_eq_true rfl) ⟨Nat.le_of_ble_eq_true rfl, Nat.le_of_ble_eq_true rfl⟩ ⟨Nat.le_of_ble_eq_true rfl, Nat.le_of_ble_eq_true rfl⟩ (fun r h1 hp9 => ?_) (fun E h9 q => q.elim)
  obtain ⟨rfl, rfl⟩ := hp9
  subst hZ
  exact j_ireturn dX4_houses_11 rfl rfl (jRet.i rfl) (Nat.le_refl _) (Nat.le_refl _)
set_option maxHeartbeats 4000000 in
/-- FamilyOaks.housesAgain -/
theorem x_housesAgain {K Ks X I : fS} {P : Int → fS} {c B : Int} {t : Int → Int} {h : jH} (hC : xC K Ks P X I c t h) (hI : kI B K)  : jM mX4_housesAgain 4 0 0 [] [.ref 0] h (fun r h' => r = some (iv (csum (fun p => bi (fho K p = p)) (K 6 0).toNat)) ∧ xC K Ks P X I c t h' ∧ jEx 11 3 h h') jno := by
  refine j_method (by decide +kernel) rfl (fun _ _ _ => trivial) (Nat.le_of_ble_eq_true rfl) ?_
  generalize hZ : jZ [] 0 0 _ _ = Z
  show J mX4_housesAgain (jR 4 0 0) [] Z 0 [(0, .ref 0)] [] h 0 0
  obtain ⟨hS, ⟨Fb, hb⟩, ⟨hKs, hIn, hW⟩, hPa, hp5⟩ := hC
  obtain ⟨a, b, E, H, hX, hF, hL, hG, hq, hE9, hH⟩ := hS
  have hO := hI.1
  have hA := hI.2.1
  have hn := hO.n
  have hqn := hO.q
  have hE0 : jEx 11 3 h h := jEx.rf
  refine j_aload_n dX4_housesAgain_0 rfl rfl ?_
  refine j_getfield (v := .ref 11) dX4_housesAgain_1 jf_X4_44 hX.1 rfl ?_
  refine j_aload_n dX4_housesAgain_4 rfl rfl ?_
  refine j_getfield (v := .ref 1) dX4_housesAgain_5 jf_X4_10 hX.1 rfl ?_
  refine j_callV (k_countAgain (by decide) hG hF hq hO hI.2.2.1) dX4_housesAgain_8 jc_X4_189 jmV_X2_countAgain rfl rfl hG.1 rfl rfl (by simp) jfr_nil (Nat.le_of_ble_eq_true rfl) ⟨Nat.le_of_ble_eq_true rfl, Nat.le_of_ble_eq_true rfl⟩ ⟨Nat.le_of_ble_eq_true rfl, Nat.le_of_ble_eq_true rfl⟩ (fun r h1 hp9 => ?_) (fun E h9 q => q.elim)
  obtain ⟨rfl, L4, hG2, hX3⟩ := hp9
  have hG5 := hX.ex okX hX3 (by show 0 + 1 ≤ 11 ∨ 11 + 3 ≤ 0; decide)
  have hG6 := hF.ex okF hX3 (by show 1 + 7 ≤ 11 ∨ 11 + 3 ≤ 1; decide)
  have hG7 := hL.ex okE hX3 (by show 8 + 3 ≤ 11 ∨ 11 + 3 ≤ 8; decide)
  have hE8 := hE0.tr hX3
  subst hZ
  exact j_ireturn dX4_housesAgain_11 rfl rfl ⟨rfl, ⟨⟨a, b, _, _, hG5, hG6, hG7, hG2, hq, hE9, hH.l⟩, ⟨Fb, hb.eq okF fun j j0 _ => hE8 j (by omega)⟩, xOt.eq ⟨hKs, hIn, hW⟩ (fun j j0 _ => hE8 j (by omega)), hPa.eq (fun j j0 _ => hE8 j (by omega)) hp5.2, hp5⟩, hE8⟩ (Nat.le_refl _) (Nat.le_refl _)
set_option maxHeartbeats 4000000 in
/-- FamilyOaks.areEldersSame -/
theorem x_areEldersSame {X K E H : fS} {a b : Int → Int} {B : Int} {h : jH} (hX : jOb sX 0 X h) (hF : jOb sF 1 (kRw K a b) h) (hL : jOb sE 8 E h) (hG : jOb sH 11 H h) (hq : kQv K a b) (hI : kI B K) (hE9 : eOz K E) (hH : hHo K H)  : jM mX4_areEldersSame 2 0 0 [] [.ref 0] h (jRet (iv 1) h) jno := by
  refine j_method (by decide +kernel) rfl (fun _ _ _ => trivial) (Nat.le_of_ble_eq_true rfl) ?_
  generalize hZ : jZ [] 0 0 _ _ = Z
  show J mX4_areEldersSame (jR 2 0 0) [] Z 0 [(0, .ref 0)] [] h 0 0
  have hO := hI.1
  have hA := hI.2.1
  have hn := hO.n
  have hqn := hO.q
  refine j_iconst dX4_areEldersSame_0 ?_
  refine j_istore_n (L' := [(0, _), (1, _)]) dX4_areEldersSame_1 rfl (by decide) rfl ?_
  refine jloop (P := fun z9 : Int => J mX4_areEldersSame (jR 2 0 0) [] Z 2 [(0, .ref 0), (1, iv z9)] [] h 0 0) (fun z9 => 0 ≤ z9 ∧ z9 ≤ K 6 0) (fun z9 => (K 6 0 - z9).toNat) ?_ 0 ?_
  · rintro p hinv ih
    obtain ⟨i1, i2⟩ := hinv
    have zd0 := fdep_rg K p
    refine j_iload_n dX4_areEldersSame_2 rfl rfl ?_
    refine j_aload_n dX4_areEldersSame_3 rfl rfl ?_
    refine j_getfield (v := .ref 1) dX4_areEldersSame_4 jf_X4_10 hX.1 rfl ?_
    refine j_getfield (v := iv (K 6 0)) dX4_areEldersSame_7 jf_X4_150 hF.1 rfl ?_
    refine j_icmp_ge (tgt := 64) dX4_areEldersSame_10 (by decide) (by omega) (fun c1 => ?_) (fun c1 => ?_)
    · refine j_iconst dX4_areEldersSame_64 ?_
      subst hZ
      exact j_ireturn dX4_areEldersSame_65 rfl rfl (jRet.i (by first | rfl | (exfalso; omega))) (Nat.le_refl _) (Nat.le_refl _)
    · refine j_aload_n dX4_areEldersSame_13 rfl rfl ?_
      refine j_getfield (v := .ref 1) dX4_areEldersSame_14 jf_X4_10 hX.1 rfl ?_
      refine j_iload_n dX4_areEldersSame_17 rfl rfl ?_
      refine j_callV (k_depthOf hF hq hO  (by omega)) dX4_areEldersSame_18 jc_X4_89 jmV_X1_depthOf rfl rfl hF.1 rfl rfl (by simp) jfr_nil (Nat.le_of_ble_eq_true rfl) ⟨Nat.le_of_ble_eq_true rfl, Nat.le_of_ble_eq_true rfl⟩ ⟨Nat.le_of_ble_eq_true rfl, Nat.le_of_ble_eq_true rfl⟩ (fun r h2 hp9 => ?_) (fun E h9 q => q.elim)
      obtain ⟨rfl, rfl⟩ := hp9
      have zd := fdep_rg K p
      refine j_istore_n (L' := [(0, _), (1, _), (2, _)]) dX4_areEldersSame_21 rfl (by decide) rfl ?_
      refine j_iconst dX4_areEldersSame_22 ?_
      refine j_istore_n (L' := [(0, _), (1, _), (2, _), (3, _)]) dX4_areEldersSame_23 rfl (by decide) rfl ?_
      refine jloop (P := fun z9 : Int => J mX4_areEldersSame (jR 2 0 0) [] Z 24 [(0, .ref 0), (1, iv p), (2, iv (fdep K p)), (3, iv z9)] [] h 0 0) (fun z9 => 0 ≤ z9 ∧ z9 ≤ fdep K p + 1) (fun z9 => (fdep K p + 1 - z9).toNat) ?_ 0 ?_
      · rintro e hinv2 ih2
        obtain ⟨j1, j2⟩ := hinv2
        refine j_iload_n dX4_areEldersSame_24 rfl rfl ?_
        refine j_iload_n dX4_areEldersSame_25 rfl rfl ?_
        refine j_icmp_gt (tgt := 58) dX4_areEldersSame_26 (by decide) (by omega) (fun c3 => ?_) (fun c3 => ?_)
        · refine j_iinc (L' := [(0, _), (1, _), (2, _), (3, _)]) dX4_areEldersSame_58 rfl (by decide) rfl ?_
          refine j_goto (tgt := 2) dX4_areEldersSame_61 (by decide) ?_
          refine J.keep [0, 1] (L' := [(0, _), (1, _)]) rfl ?_
          exact ih (p + 1) ⟨by omega, by omega⟩ (by omega)
        · refine j_aload_n dX4_areEldersSame_29 rfl rfl ?_
          refine j_getfield (v := .ref 8) dX4_areEldersSame_30 jf_X4_37 hX.1 rfl ?_
          refine j_iload_n dX4_areEldersSame_33 rfl rfl ?_
          refine j_iload_n dX4_areEldersSame_34 rfl rfl ?_
          have zd := fdep_rg K p
          refine j_callV (c0_leapUp hL hO hA (hE9 (by omega)) (p := p) (e := e) (by omega) (by omega)) dX4_areEldersSame_35 jc_X4_132 jmV_X0_leapUp rfl rfl hL.1 rfl rfl (by simp) jfr_nil (Nat.le_of_ble_eq_true rfl) ⟨Nat.le_of_ble_eq_true rfl, Nat.le_of_ble_eq_true rfl⟩ ⟨Nat.le_of_ble_eq_true rfl, Nat.le_of_ble_eq_true rfl⟩ (fun r h4 hp9 => ?_) (fun E h9 q => q.elim)
          obtain ⟨rfl, rfl⟩ := hp9
          refine j_aload_n dX4_areEldersSame_38 rfl rfl ?_
          refine j_getfield (v := .ref 1) dX4_areEldersSame_39 jf_X4_10 hX.1 rfl ?_
          refine j_iload_n dX4_areEldersSame_42 rfl rfl ?_
          refine j_iload_n dX4_areEldersSame_43 rfl rfl ?_
          refine j_callV (k_stepUp hF hq hO  (by omega) (by omega)) dX4_areEldersSame_44 jc_X4_128 jmV_X1_stepUp rfl rfl hF.1 rfl rfl (by simp) jfr_nil (Nat.le_of_ble_eq_true rfl) ⟨Nat.le_of_ble_eq_true rfl, Nat.le_of_ble_eq_true rfl⟩ ⟨Nat.le_of_ble_eq_true rfl, Nat.le_of_ble_eq_true rfl⟩ (fun r h5 hp9 => ?_) (fun E h9 q => q.elim)
          obtain ⟨rfl, rfl⟩ := hp9
          have hfe := fup_e (K := K) (p := p) (e := e) (by omega)
          have hur := hO.u24 (x := p) (by omega) (Int.toNat e)
          refine j_icmp_eq (tgt := 52) dX4_areEldersSame_47 (by decide) (by omega) (fun c6 => ?_) (fun c6 => (False.elim (by omega)))
          refine j_iinc (L' := [(0, _), (1, _), (2, _), (3, _)]) dX4_areEldersSame_52 rfl (by decide) rfl ?_
          refine j_goto (tgt := 24) dX4_areEldersSame_55 (by decide) ?_
          exact ih2 (e + 1) ⟨by omega, by omega⟩ (by omega)
      · exact ⟨by omega, by omega⟩
  · exact ⟨by omega, by omega⟩
set_option maxHeartbeats 4000000 in
/-- FamilyOaks.areCommonsSame -/
theorem x_areCommonsSame {X K E H : fS} {a b : Int → Int} {B : Int} {h : jH} (hX : jOb sX 0 X h) (hF : jOb sF 1 (kRw K a b) h) (hL : jOb sE 8 E h) (hG : jOb sH 11 H h) (hq : kQv K a b) (hI : kI B K) (hE9 : eOz K E) (hH : hHo K H)  : jM mX4_areCommonsSame 4 0 0 [] [.ref 0] h (jRet (iv 1) h) jno := by
  refine j_method (by decide +kernel) rfl (fun _ _ _ => trivial) (Nat.le_of_ble_eq_true rfl) ?_
  generalize hZ : jZ [] 0 0 _ _ = Z
  show J mX4_areCommonsSame (jR 4 0 0) [] Z 0 [(0, .ref 0)] [] h 0 0
  have hO := hI.1
  have hA := hI.2.1
  have hn := hO.n
  have hqn := hO.q
  refine j_iconst dX4_areCommonsSame_0 ?_
  refine j_istore_n (L' := [(0, _), (1, _)]) dX4_areCommonsSame_1 rfl (by decide) rfl ?_
  refine jloop (P := fun z9 : Int => J mX4_areCommonsSame (jR 4 0 0) [] Z 2 [(0, .ref 0), (1, iv z9)] [] h 0 0) (fun z9 => 0 ≤ z9 ∧ z9 ≤ K 6 0) (fun z9 => (K 6 0 - z9).toNat) ?_ 0 ?_
  · rintro p hinv ih
    obtain ⟨i1, i2⟩ := hinv
    refine j_iload_n dX4_areCommonsSame_2 rfl rfl ?_
    refine j_aload_n dX4_areCommonsSame_3 rfl rfl ?_
    refine j_getfield (v := .ref 1) dX4_areCommonsSame_4 jf_X4_10 hX.1 rfl ?_
    refine j_getfield (v := iv (K 6 0)) dX4_areCommonsSame_7 jf_X4_150 hF.1 rfl ?_
    refine j_icmp_ge (tgt := 70) dX4_areCommonsSame_10 (by decide) (by omega) (fun c1 => ?_) (fun c1 => ?_)
    · refine j_iconst dX4_areCommonsSame_70 ?_
      subst hZ
      exact j_ireturn dX4_areCommonsSame_71 rfl rfl (jRet.i (by first | rfl | (exfalso; omega))) (Nat.le_refl _) (Nat.le_refl _)
    · refine j_iconst dX4_areCommonsSame_13 ?_
      refine j_istore_n (L' := [(0, _), (1, _), (2, _)]) dX4_areCommonsSame_14 rfl (by decide) rfl ?_
      refine jloop (P := fun z9 : Int => J mX4_areCommonsSame (jR 4 0 0) [] Z 15 [(0, .ref 0), (1, iv p), (2, iv z9)] [] h 0 0) (fun z9 => 0 ≤ z9 ∧ z9 ≤ K 6 0) (fun z9 => (K 6 0 - z9).toNat) ?_ 0 ?_
      · rintro o hinv2 ih2
        obtain ⟨j1, j2⟩ := hinv2
        refine j_iload_n dX4_areCommonsSame_15 rfl rfl ?_
        refine j_aload_n dX4_areCommonsSame_16 rfl rfl ?_
        refine j_getfield (v := .ref 1) dX4_areCommonsSame_17 jf_X4_10 hX.1 rfl ?_
        refine j_getfield (v := iv (K 6 0)) dX4_areCommonsSame_20 jf_X4_150 hF.1 rfl ?_
        refine j_icmp_ge (tgt := 64) dX4_areCommonsSame_23 (by decide) (by omega) (fun c2 => ?_) (fun c2 => ?_)
        · refine j_iinc (L' := [(0, _), (1, _), (2, _)]) dX4_areCommonsSame_64 rfl (by decide) rfl ?_
          refine j_goto (tgt := 2) dX4_areCommonsSame_67 (by decide) ?_
          refine J.keep [0, 1] (L' := [(0, _), (1, _)]) rfl ?_
          exact ih (p + 1) ⟨by omega, by omega⟩ (by omega)
        · refine j_aload_n dX4_areCommonsSame_26 rfl rfl ?_
          refine j_iload_n dX4_areCommonsSame_27 rfl rfl ?_
          refine j_iload_n dX4_areCommonsSame_28 rfl rfl ?_
          refine j_callV (x_isOneOak hX hF hL hG hq hI hE9 hH (p := p) (o := o) (by omega) (by omega)) dX4_areCommonsSame_29 jc_X4_153 jmV_X4_isOneOak rfl rfl hX.1 rfl rfl (by simp) jfr_nil (Nat.le_of_ble_eq_true rfl) ⟨Nat.le_of_ble_eq_true rfl, Nat.le_of_ble_eq_true rfl⟩ ⟨Nat.le_of_ble_eq_true rfl, Nat.le_of_ble_eq_true rfl⟩ (fun r h3 hp9 => ?_) (fun E h9 q => q.elim)
          obtain ⟨rfl, rfl⟩ := hp9
          refine j_if_eq (tgt := 58) dX4_areCommonsSame_32 (by decide) (bi_r32 _) (fun c4 => ?_) (fun c4 => ?_)
          · have qc4 := bi_z c4
            refine j_iinc (L' := [(0, _), (1, _), (2, _)]) dX4_areCommonsSame_58 rfl (by decide) rfl ?_
            refine j_goto (tgt := 15) dX4_areCommonsSame_61 (by decide) ?_
            exact ih2 (o + 1) ⟨by omega, by omega⟩ (by omega)
          · have qc4 := bi_nz c4
            have hfo := qc4
            refine j_aload_n dX4_areCommonsSame_35 rfl rfl ?_
            refine j_getfield (v := .ref 8) dX4_areCommonsSame_36 jf_X4_37 hX.1 rfl ?_
            refine j_iload_n dX4_areCommonsSame_39 rfl rfl ?_
            refine j_iload_n dX4_areCommonsSame_40 rfl rfl ?_
            refine j_callV (c0_commonByLeaps hL hO hA (hE9 (by omega)) (p := p) (o := o) (by omega) (by omega) hfo) dX4_areCommonsSame_41 jc_X4_141 jmV_X0_commonByLeaps rfl rfl hL.1 rfl rfl (by simp) jfr_nil (Nat.le_of_ble_eq_true rfl) ⟨Nat.le_of_ble_eq_true rfl, Nat.le_of_ble_eq_true rfl⟩ ⟨Nat.le_of_ble_eq_true rfl, Nat.le_of_ble_eq_true rfl⟩ (fun r h5 hp9 => ?_) (fun E h9 q => q.elim)
            obtain ⟨rfl, rfl⟩ := hp9
            have zf := flc_rg hO hA _ p o (Nat.lt_succ_self _) (by omega) (by omega) (by omega) hfo
            refine j_aload_n dX4_areCommonsSame_44 rfl rfl ?_
            refine j_getfield (v := .ref 1) dX4_areCommonsSame_45 jf_X4_10 hX.1 rfl ?_
            refine j_iload_n dX4_areCommonsSame_48 rfl rfl ?_
            refine j_iload_n dX4_areCommonsSame_49 rfl rfl ?_
            refine j_callV (k_commonByNotes hF hq hO hA (by omega) (by omega)) dX4_areCommonsSame_50 jc_X4_138 jmV_X1_commonByNotes rfl rfl hF.1 rfl rfl (by simp) jfr_nil (Nat.le_of_ble_eq_true rfl) ⟨Nat.le_of_ble_eq_true rfl, Nat.le_of_ble_eq_true rfl⟩ ⟨Nat.le_of_ble_eq_true rfl, Nat.le_of_ble_eq_true rfl⟩ (fun r h6 hp9 => ?_) (fun E h9 q => q.elim)
            obtain ⟨rfl, rfl⟩ := hp9
            have hsy := flc_sy hO hA (p := p) (o := o) (by omega) (by omega) hfo
            refine j_icmp_eq (tgt := 58) dX4_areCommonsSame_53 (by decide) (by omega) (fun c7 => ?_) (fun c7 => (False.elim (by omega)))
            refine j_iinc (L' := [(0, _), (1, _), (2, _)]) dX4_areCommonsSame_58 rfl (by decide) rfl ?_
            refine j_goto (tgt := 15) dX4_areCommonsSame_61 (by decide) ?_
            exact ih2 (o + 1) ⟨by omega, by omega⟩ (by omega)
      · exact ⟨by omega, by omega⟩
  · exact ⟨by omega, by omega⟩
set_option maxHeartbeats 4000000 in
/-- FamilyOaks.isPeaceAtHome -/
theorem x_isPeaceAtHome {X K E H : fS} {a b : Int → Int} {B : Int} {h : jH} (hX : jOb sX 0 X h) (hF : jOb sF 1 (kRw K a b) h) (hL : jOb sE 8 E h) (hG : jOb sH 11 H h) (hq : kQv K a b) (hI : kI B K) (hE9 : eOz K E) (hH : hHo K H)  : jM mX4_isPeaceAtHome 3 0 0 [] [.ref 0] h (jRet (iv (bi (csum (fun z => bi (fho K (K 4 z) = fho K (K 5 z))) (K 7 0).toNat = 0))) h) jno := by
  refine j_method (by decide +kernel) rfl (fun _ _ _ => trivial) (Nat.le_of_ble_eq_true rfl) ?_
  generalize hZ : jZ [] 0 0 _ _ = Z
  show J mX4_isPeaceAtHome (jR 3 0 0) [] Z 0 [(0, .ref 0)] [] h 0 0
  have hO := hI.1
  have hA := hI.2.1
  have hn := hO.n
  have hqn := hO.q
  refine j_iconst dX4_isPeaceAtHome_0 ?_
  refine j_istore_n (L' := [(0, _), (1, _)]) dX4_isPeaceAtHome_1 rfl (by decide) rfl ?_
  refine jloop (P := fun z9 : Int => J mX4_isPeaceAtHome (jR 3 0 0) [] Z 2 [(0, .ref 0), (1, iv z9)] [] h 0 0) (fun z9 => 0 ≤ z9 ∧ z9 ≤ K 7 0 ∧ csum (fun z => bi (fho K (K 4 z) = fho K (K 5 z))) z9.toNat = 0) (fun z9 => (K 7 0 - z9).toNat) ?_ 0 ?_
  · rintro i hinv ih
    obtain ⟨i1, i2, i3⟩ := hinv
    have e9 := csum_s (fun z => bi (fho K (K 4 z) = fho K (K 5 z))) i1
    try dsimp only at e9
    refine j_iload_n dX4_isPeaceAtHome_2 rfl rfl ?_
    refine j_aload_n dX4_isPeaceAtHome_3 rfl rfl ?_
    refine j_getfield (v := .ref 1) dX4_isPeaceAtHome_4 jf_X4_10 hX.1 rfl ?_
    refine j_getfield (v := iv (K 7 0)) dX4_isPeaceAtHome_7 jf_X4_165 hF.1 rfl ?_
    refine j_icmp_ge (tgt := 47) dX4_isPeaceAtHome_10 (by decide) (by omega) (fun c1 => ?_) (fun c1 => ?_)
    · refine j_iconst dX4_isPeaceAtHome_47 ?_
      subst hZ
      exact j_ireturn dX4_isPeaceAtHome_48 rfl rfl (jRet.i (by rw [show i = K 7 0 by omega] at i3; exact bi_t i3)) (Nat.le_refl _) (Nat.le_refl _)
    · refine j_aload_n dX4_isPeaceAtHome_13 rfl rfl ?_
      refine j_getfield (v := .ref 11) dX4_isPeaceAtHome_14 jf_X4_44 hX.1 rfl ?_
      refine j_aload_n dX4_isPeaceAtHome_17 rfl rfl ?_
      refine j_getfield (v := .ref 1) dX4_isPeaceAtHome_18 jf_X4_10 hX.1 rfl ?_
      refine j_iload_n dX4_isPeaceAtHome_21 rfl rfl ?_
      refine j_callV (k_quarrelerAt hF hq hO  (by omega)) dX4_isPeaceAtHome_22 jc_X4_171 jmV_X1_quarrelerAt rfl rfl hF.1 rfl rfl (by simp) jfr_nil (Nat.le_of_ble_eq_true rfl) ⟨Nat.le_of_ble_eq_true rfl, Nat.le_of_ble_eq_true rfl⟩ ⟨Nat.le_of_ble_eq_true rfl, Nat.le_of_ble_eq_true rfl⟩ (fun r h2 hp9 => ?_) (fun E h9 q => q.elim)
      obtain ⟨rfl, rfl⟩ := hp9
      have zq := hO.qq i (by omega) (by omega)
      refine j_aload_n dX4_isPeaceAtHome_25 rfl rfl ?_
      refine j_getfield (v := .ref 1) dX4_isPeaceAtHome_26 jf_X4_10 hX.1 rfl ?_
      refine j_iload_n dX4_isPeaceAtHome_29 rfl rfl ?_
      refine j_callV (k_rivalAt hF hq hO  (by omega)) dX4_isPeaceAtHome_30 jc_X4_168 jmV_X1_rivalAt rfl rfl hF.1 rfl rfl (by simp) jfr_nil (Nat.le_of_ble_eq_true rfl) ⟨Nat.le_of_ble_eq_true rfl, Nat.le_of_ble_eq_true rfl⟩ ⟨Nat.le_of_ble_eq_true rfl, Nat.le_of_ble_eq_true rfl⟩ (fun r h3 hp9 => ?_) (fun E h9 q => q.elim)
      obtain ⟨rfl, rfl⟩ := hp9
      have zq := hO.qq i (by omega) (by omega)
      refine j_callV (c2_isOneHouse hG hO hH (p := (K 4 i)) (o := (K 5 i)) (by omega) (by omega)) dX4_isPeaceAtHome_33 jc_X4_392 jmV_X2_isOneHouse rfl rfl hG.1 rfl rfl (by simp) jfr_nil (Nat.le_of_ble_eq_true rfl) ⟨Nat.le_of_ble_eq_true rfl, Nat.le_of_ble_eq_true rfl⟩ ⟨Nat.le_of_ble_eq_true rfl, Nat.le_of_ble_eq_true rfl⟩ (fun r h4 hp9 => ?_) (fun E h9 q => q.elim)
      obtain ⟨rfl, rfl⟩ := hp9
      refine j_if_eq (tgt := 41) dX4_isPeaceAtHome_36 (by decide) (bi_r32 _) (fun c5 => ?_) (fun c5 => ?_)
      · have qc5 := bi_z c5
        refine j_iinc (L' := [(0, _), (1, _)]) dX4_isPeaceAtHome_41 rfl (by decide) rfl ?_
        refine j_goto (tgt := 2) dX4_isPeaceAtHome_44 (by decide) ?_
        rw [bi_f (by omega), Int.add_zero] at e9
        exact ih (i + 1) ⟨by omega, by omega, by rw [e9]; exact i3⟩ (by omega)
      · have qc5 := bi_nz c5
        refine j_iconst dX4_isPeaceAtHome_39 ?_
        subst hZ
        exact j_ireturn dX4_isPeaceAtHome_40 rfl rfl (jRet.i (bi_f (fun z9 => by have w := csum_ge (f := fun z => bi (fho K (K 4 z) = fho K (K 5 z))) (K 7 0).toNat (fun i _ => (bi_rg _).1) i i1 (by omega); (try dsimp only at w); rw [bi_t (by omega)] at w; omega))) (Nat.le_refl _) (Nat.le_refl _)
  · exact ⟨by omega, by omega, rfl⟩
set_option maxHeartbeats 4000000 in
/-- FamilyOaks.isWell -/
theorem x_isWell {K Ks X I : fS} {P : Int → fS} {c B : Int} {t : Int → Int} {h : jH} (hC : xC K Ks P X I c t h) (hI : kI B K)  : jM mX4_isWell 6 0 0 [] [.ref 0] h (fun r h' => r = some (iv (bi (K 9 0 = csum (fun c => K 2 c) (K 6 0).toNat + K 10 0 ∧ csum (fun z => bi (fho K (K 4 z) = fho K (K 5 z))) (K 7 0).toNat = 0))) ∧ xC K Ks P X I c t h' ∧ jEx 11 3 h h') jno := by
  refine j_method (by decide +kernel) rfl (fun _ _ _ => trivial) (Nat.le_of_ble_eq_true rfl) ?_
  generalize hZ : jZ [] 0 0 _ _ = Z
  show J mX4_isWell (jR 6 0 0) [] Z 0 [(0, .ref 0)] [] h 0 0
  obtain ⟨hS, ⟨Fb, hb⟩, ⟨hKs, hIn, hW⟩, hPa, hp5⟩ := hC
  obtain ⟨a, b, E, H, hX, hF, hL, hG, hq, hE9, hH⟩ := hS
  have hO := hI.1
  have hA := hI.2.1
  have hn := hO.n
  have hqn := hO.q
  have zcc := csum_co hO
  have zg := hO.g
  have zo := hO.o
  have zb := hO.b
  have zhc := csum_bi (P := fun p => fho K p = p) (K 6 0).toNat
  have hE0 : jEx 11 3 h h := jEx.rf
  refine j_aload_n dX4_isWell_0 rfl rfl ?_
  refine j_getfield (v := .ref 11) dX4_isWell_1 jf_X4_44 hX.1 rfl ?_
  refine j_aload_n dX4_isWell_4 rfl rfl ?_
  refine j_getfield (v := .ref 1) dX4_isWell_5 jf_X4_10 hX.1 rfl ?_
  refine j_callV (k_count hG hF hq hO hH) dX4_isWell_8 jc_X4_185 jmV_X2_count rfl rfl hG.1 rfl rfl (by simp) jfr_nil (Nat.le_of_ble_eq_true rfl) ⟨Nat.le_of_ble_eq_true rfl, Nat.le_of_ble_eq_true rfl⟩ ⟨Nat.le_of_ble_eq_true rfl, Nat.le_of_ble_eq_true rfl⟩ (fun r h1 hp9 => ?_) (fun E h9 q => q.elim)
  obtain ⟨rfl, rfl⟩ := hp9
  refine j_aload_n dX4_isWell_11 rfl rfl ?_
  refine j_getfield (v := .ref 11) dX4_isWell_12 jf_X4_44 hX.1 rfl ?_
  refine j_aload_n dX4_isWell_15 rfl rfl ?_
  refine j_getfield (v := .ref 1) dX4_isWell_16 jf_X4_10 hX.1 rfl ?_
  refine j_callV (k_countAgain (by decide) hG hF hq hO hI.2.2.1) dX4_isWell_19 jc_X4_189 jmV_X2_countAgain rfl rfl hG.1 rfl rfl (by simp) jfr_nil (Nat.le_of_ble_eq_true rfl) ⟨Nat.le_of_ble_eq_true rfl, Nat.le_of_ble_eq_true rfl⟩ ⟨Nat.le_of_ble_eq_true rfl, Nat.le_of_ble_eq_true rfl⟩ (fun r h2 hp9 => ?_) (fun E h9 q => q.elim)
  obtain ⟨rfl, L5, hG3, hX4⟩ := hp9
  have hG6 := hX.ex okX hX4 (by show 0 + 1 ≤ 11 ∨ 11 + 3 ≤ 0; decide)
  have hG7 := hF.ex okF hX4 (by show 1 + 7 ≤ 11 ∨ 11 + 3 ≤ 1; decide)
  have hG8 := hL.ex okE hX4 (by show 8 + 3 ≤ 11 ∨ 11 + 3 ≤ 8; decide)
  have hE10 := hE0.tr hX4
  refine j_icmp_ne (tgt := 75) dX4_isWell_22 (by decide) (by omega) (fun c11 => (c11 rfl).elim) (fun c11 => ?_)
  refine j_aload_n dX4_isWell_25 rfl rfl ?_
  refine j_callV (x_areEldersSame hG6 hG7 hG8 hG3 hq hI hE9 hH.l) dX4_isWell_26 jc_X4_291 jmV_X4_areEldersSame rfl rfl hG6.1 rfl rfl (by simp) jfr_nil (Nat.le_of_ble_eq_true rfl) ⟨Nat.le_of_ble_eq_true rfl, Nat.le_of_ble_eq_true rfl⟩ ⟨Nat.le_of_ble_eq_true rfl, Nat.le_of_ble_eq_true rfl⟩ (fun r h12 hp9 => ?_) (fun E h9 q => q.elim)
  obtain ⟨rfl, rfl⟩ := hp9
  refine j_if_eq (tgt := 75) dX4_isWell_29 (by decide) (by omega) (fun c13 => absurd c13 (by decide)) (fun c13 => ?_)
  refine j_aload_n dX4_isWell_32 rfl rfl ?_
  refine j_callV (x_areCommonsSame hG6 hG7 hG8 hG3 hq hI hE9 hH.l) dX4_isWell_33 jc_X4_295 jmV_X4_areCommonsSame rfl rfl hG6.1 rfl rfl (by simp) jfr_nil (Nat.le_of_ble_eq_true rfl) ⟨Nat.le_of_ble_eq_true rfl, Nat.le_of_ble_eq_true rfl⟩ ⟨Nat.le_of_ble_eq_true rfl, Nat.le_of_ble_eq_true rfl⟩ (fun r h14 hp9 => ?_) (fun E h9 q => q.elim)
  obtain ⟨rfl, rfl⟩ := hp9
  refine j_if_eq (tgt := 75) dX4_isWell_36 (by decide) (by omega) (fun c15 => absurd c15 (by decide)) (fun c15 => ?_)
  refine j_aload_n dX4_isWell_39 rfl rfl ?_
  refine j_callV (x_isPeaceAtHome hG6 hG7 hG8 hG3 hq hI hE9 hH.l) dX4_isWell_40 jc_X4_298 jmV_X4_isPeaceAtHome rfl rfl hG6.1 rfl rfl (by simp) jfr_nil (Nat.le_of_ble_eq_true rfl) ⟨Nat.le_of_ble_eq_true rfl, Nat.le_of_ble_eq_true rfl⟩ ⟨Nat.le_of_ble_eq_true rfl, Nat.le_of_ble_eq_true rfl⟩ (fun r h16 hp9 => ?_) (fun E h9 q => q.elim)
  obtain ⟨rfl, rfl⟩ := hp9
  refine j_if_eq (tgt := 75) dX4_isWell_43 (by decide) (bi_r32 _) (fun c17 => ?_) (fun c17 => ?_)
  · have qc17 := bi_z c17
    refine j_iconst dX4_isWell_75 ?_
    subst hZ
    exact j_ireturn dX4_isWell_76 rfl rfl ⟨by first | rw [bi_t (by first | exact ⟨by omega, by omega⟩ | omega)] | rw [bi_f (by omega)], ⟨⟨a, b, _, _, hG6, hG7, hG8, hG3, hq, hE9, hH.l⟩, ⟨Fb, hb.eq okF fun j j0 _ => hE10 j (by omega)⟩, xOt.eq ⟨hKs, hIn, hW⟩ (fun j j0 _ => hE10 j (by omega)), hPa.eq (fun j j0 _ => hE10 j (by omega)) hp5.2, hp5⟩, hE10⟩ (Nat.le_refl _) (Nat.le_refl _)
  · have qc17 := bi_nz c17
    refine j_aload_n dX4_isWell_46 rfl rfl ?_
    refine j_getfield (v := .ref 1) dX4_isWell_47 jf_X4_10 hG6.1 rfl ?_
    refine j_getfield (v := iv (K 9 0)) dX4_isWell_50 jf_X4_283 hG7.1 rfl ?_
    refine j_aload_n dX4_isWell_53 rfl rfl ?_
    refine j_getfield (v := .ref 1) dX4_isWell_54 jf_X4_10 hG6.1 rfl ?_
    refine j_callV (k_allCoins hG7 hq hO  ) dX4_isWell_57 jc_X4_280 jmV_X1_allCoins rfl rfl hG7.1 rfl rfl (by simp) jfr_nil (Nat.le_of_ble_eq_true rfl) ⟨Nat.le_of_ble_eq_true rfl, Nat.le_of_ble_eq_true rfl⟩ ⟨Nat.le_of_ble_eq_true rfl, Nat.le_of_ble_eq_true rfl⟩ (fun r h18 hp9 => ?_) (fun E h9 q => q.elim)
    obtain ⟨rfl, rfl⟩ := hp9
    refine j_aload_n dX4_isWell_60 rfl rfl ?_
    refine j_getfield (v := .ref 1) dX4_isWell_61 jf_X4_10 hG6.1 rfl ?_
    refine j_getfield (v := iv (K 10 0)) dX4_isWell_64 jf_X4_286 hG7.1 rfl ?_
    refine j_iadd dX4_isWell_67 ?_
    refine j_icmp_ne (tgt := 75) dX4_isWell_68 (by decide) (by omega) (fun c19 => ?_) (fun c19 => ?_)
    · refine j_iconst dX4_isWell_75 ?_
      subst hZ
      exact j_ireturn dX4_isWell_76 rfl rfl ⟨by first | rw [bi_t (by first | exact ⟨by omega, by omega⟩ | omega)] | rw [bi_f (by omega)], ⟨⟨a, b, _, _, hG6, hG7, hG8, hG3, hq, hE9, hH.l⟩, ⟨Fb, hb.eq okF fun j j0 _ => hE10 j (by omega)⟩, xOt.eq ⟨hKs, hIn, hW⟩ (fun j j0 _ => hE10 j (by omega)), hPa.eq (fun j j0 _ => hE10 j (by omega)) hp5.2, hp5⟩, hE10⟩ (Nat.le_refl _) (Nat.le_refl _)
    · refine j_iconst dX4_isWell_71 ?_
      refine j_goto (tgt := 76) dX4_isWell_72 (by decide) ?_
      subst hZ
      exact j_ireturn dX4_isWell_76 rfl rfl ⟨by first | rw [bi_t (by first | exact ⟨by omega, by omega⟩ | omega)] | rw [bi_f (by omega)], ⟨⟨a, b, _, _, hG6, hG7, hG8, hG3, hq, hE9, hH.l⟩, ⟨Fb, hb.eq okF fun j j0 _ => hE10 j (by omega)⟩, xOt.eq ⟨hKs, hIn, hW⟩ (fun j j0 _ => hE10 j (by omega)), hPa.eq (fun j j0 _ => hE10 j (by omega)) hp5.2, hp5⟩, hE10⟩ (Nat.le_refl _) (Nat.le_refl _)
set_option maxHeartbeats 4000000 in
/-- FamilyOaks.append -/
theorem x_append {K Ks X I : fS} {P : Int → fS} {c B : Int} {t : Int → Int} {h : jH} (hC : xC K Ks P X I c t h) (hI : kI B K) {ch : Int} (hch : 0 ≤ ch ∧ ch < 65536) (h5 : 0 ≤ I 5 0 ∧ I 5 0 ≤ 60) : jM mX4_append 6 1 6 [] [.ref 0, iv ch] h (fun r h' => r = some (iv (I 5 0 + 1)) ∧ I 5 0 < 60 ∧ xC K Ks P X (gn (gs I 0 (jfu (I 0) (I 5 0) ch)) 5 (I 5 0 + 1)) c t h' ∧ jEx 28 5 h h') (fun E h' => E = "java/lang/IllegalStateException" ∧ 60 ≤ I 5 0 ∧ h = h') := by
  refine j_method (by decide +kernel) rfl (fun _ _ _ => trivial) (Nat.le_of_ble_eq_true rfl) ?_
  generalize hZ : jZ [] 1 6 _ _ = Z
  show J mX4_append (jR 6 1 6) [] Z 0 [(0, .ref 0), (1, iv ch)] [] h 0 0
  obtain ⟨hS, ⟨Fb, hb⟩, ⟨hKs, hIn, hW⟩, hPa, hp5⟩ := hC
  have hX := hS.x
  have hE0 : jEx 28 5 h h := jEx.rf
  refine j_aload_n dX4_append_0 rfl rfl ?_
  refine j_getfield (v := .ref 28) dX4_append_1 jf_X4_51 hX.1 rfl ?_
  refine j_getfield (v := iv (I 5 0)) dX4_append_4 jf_X4_224 hIn.1 rfl ?_
  refine j_bipush dX4_append_7 (by decide +kernel) ?_
  refine j_icmp_lt (tgt := 22) dX4_append_9 (by decide) (by omega) (fun c1 => ?_) (fun c1 => ?_)
  · refine j_aload_n dX4_append_22 rfl rfl ?_
    refine j_getfield (v := .ref 28) dX4_append_23 jf_X4_51 hX.1 rfl ?_
    refine j_iload_n dX4_append_26 rfl rfl ?_
    refine j_callV (c3_add hIn (c := ch) hch (by omega)) dX4_append_27 jc_X4_228 jmV_X3_add rfl rfl hIn.1 rfl rfl (by simp) jfr_nil (Nat.le_of_ble_eq_true rfl) ⟨Nat.le_of_ble_eq_true rfl, Nat.le_of_ble_eq_true rfl⟩ ⟨Nat.le_of_ble_eq_true rfl, Nat.le_of_ble_eq_true rfl⟩ (fun r h2 hp9 => ?_) (fun E h9 q => q.elim)
    obtain ⟨rfl, hG3, hX4⟩ := hp9
    have hG5 := hX.ex okX hX4 (by show 0 + 1 ≤ 28 ∨ 28 + 5 ≤ 0; decide)
    have hE6 := hE0.tr hX4
    refine j_aload_n dX4_append_30 rfl rfl ?_
    refine j_getfield (v := .ref 28) dX4_append_31 jf_X4_51 hG5.1 rfl ?_
    refine j_getfield (v := iv (I 5 0 + 1)) dX4_append_34 jf_X4_224 hG3.1 rfl ?_
    subst hZ
    exact j_ireturn dX4_append_37 rfl rfl ⟨rfl, by omega, ⟨hS.ex hE6 (by decide), ⟨Fb, hb.eq okF fun j _ j1 => hE6 j (.inl (by have j1 : j < 14 + 7 := j1; omega))⟩, ⟨hKs.eq fun j _ j1 => hE6 j (by omega), hG3, hW.eq fun j j0 _ => hE6 j (by omega)⟩, hPa.eq (fun j j0 _ => hE6 j (by omega)) hp5.2, hp5⟩, hE6⟩ (by omega) (by omega)
  · subst hZ
    exact j_throwY jth_177_226_181 rfl dX4_append_12 dX4_append_15 dX4_append_16 dX4_append_18 dX4_append_21 (by decide) (by decide) ⟨rfl, by omega, rfl⟩ (by decide) (by decide)
def y_character (c : Int) (t : Int → Int) (i : Int) : Int × Int := if 0 ≤ i ∧ i < c then (0, t i) else (1, 0)
set_option maxHeartbeats 4000000 in
/-- FamilyOaks.character -/
theorem x_character {K Ks X I : fS} {P : Int → fS} {c B : Int} {t : Int → Int} {h : jH} (hC : xC K Ks P X I c t h) (hI : kI B K) {i : Int} (hi : -2147483648 ≤ i ∧ i ≤ 2147483647) (hN : h 300 = none) : jM mX4_character 6 1 6 [300] [.ref 0, iv i] h (jOn (y_character c t i) h) (jOx [(1, "java/lang/IndexOutOfBoundsException")] (y_character c t i) h) := by
  refine j_method (by decide +kernel) rfl (fun _ _ _ => trivial) (Nat.le_of_ble_eq_true rfl) ?_
  generalize hZ : jZ [300] 1 6 _ _ = Z
  show J mX4_character (jR 6 1 6) [300] Z 0 [(0, .ref 0), (1, iv i)] [] h 0 0
  obtain ⟨hS, ⟨Fb, hb⟩, ⟨hKs, hIn, hW⟩, hPa, hp5⟩ := hC
  have hX := hS.x
  obtain ⟨p9, n9, G9, a1, a2, a3, a4, a5, a6, a7⟩ := hW
  have hn34 : n9 ≤ 34 := by rcases a1 with z | z <;> omega
  refine j_iload_n dX4_character_0 rfl rfl ?_
  refine j_if_lt (tgt := 15) dX4_character_1 (by decide) (by omega) (fun c1 => ?_) (fun c1 => ?_)
  · subst hZ
    exact j_throwY jth_215_217_219 rfl dX4_character_15 dX4_character_18 dX4_character_19 dX4_character_21 dX4_character_24 (by decide) (by decide) (jOx.i (x := 1) (by unfold y_character; rw [if_neg (by omega)]) (.head _)) (by decide) (by decide)
  · refine j_iload_n dX4_character_4 rfl rfl ?_
    refine j_aload_n dX4_character_5 rfl rfl ?_
    refine j_getfield (v := .ref 33) dX4_character_6 jf_X4_58 hX.1 rfl ?_
    refine j_callV (cb4_length a2) dX4_character_9 jc_X4_211 jmV_J4_length_8abf5 rfl rfl a2.1 rfl rfl (by simp) jfr_nil (Nat.le_of_ble_eq_true rfl) ⟨Nat.le_of_ble_eq_true rfl, Nat.le_of_ble_eq_true rfl⟩ ⟨Nat.le_of_ble_eq_true rfl, Nat.le_of_ble_eq_true rfl⟩ (fun r h2 hp9 => ?_) (fun E h9 q => q.elim)
    obtain ⟨rfl, rfl⟩ := hp9
    refine j_icmp_lt (tgt := 25) dX4_character_12 (by decide) (by omega) (fun c3 => ?_) (fun c3 => ?_)
    · refine j_aload_n dX4_character_25 rfl rfl ?_
      refine j_getfield (v := .ref 33) dX4_character_26 jf_X4_58 hX.1 rfl ?_
      refine j_iload_n dX4_character_29 rfl rfl ?_
      refine j_callV (cb4_charAt a1.o a2 a3 a6 (i := i) (by omega) (kk := 300) hN (by rcases a1 with z | z <;> omega)) dX4_character_30 jc_X4_220 jmV_J4_charAt_5068e rfl rfl a2.1 rfl rfl (fun _ z => z) (jfr_1 (by simp [iv]) (by simp [iv])) (Nat.le_of_ble_eq_true rfl) ⟨Nat.le_of_ble_eq_true rfl, Nat.le_of_ble_eq_true rfl⟩ ⟨Nat.le_of_ble_eq_true rfl, Nat.le_of_ble_eq_true rfl⟩ (fun r h4 hp9 => ?_) (fun E h9 q => q.elim)
      obtain ⟨rfl, rfl⟩ := hp9
      subst hZ
      exact j_ireturn dX4_character_33 rfl (jn_char (by have := a6 i; omega)) (jOn.i (by unfold y_character; rw [if_pos (by omega), a5 i (by omega) (by omega)])) (by omega) (by omega)
    · subst hZ
      exact j_throwY jth_215_217_219 rfl dX4_character_15 dX4_character_18 dX4_character_19 dX4_character_21 dX4_character_24 (by decide) (by decide) (jOx.i (x := 1) (by unfold y_character; rw [if_neg (by omega)]) (.head _)) (by decide) (by decide)
theorem krk_lt {B : Int} {K : fS} (hO : jOk B K) {p q : Int} (hp : 0 ≤ p ∧ p < K 6 0) (h : K 2 p - K 2 q > 0 ∨ (K 2 p - K 2 q = 0 ∧ p < q)) : krk K p + 1 ≤ krk K q := by
  have hn := hO.n
  refine csum_lt _ (fun i i0 i1 => ?_) p hp.1 (by omega) ?_
  · show bi (K 2 i - K 2 p > 0 ∨ (K 2 i - K 2 p = 0 ∧ i < p)) ≤ bi (K 2 i - K 2 q > 0 ∨ (K 2 i - K 2 q = 0 ∧ i < q))
    by_cases z : K 2 i - K 2 p > 0 ∨ (K 2 i - K 2 p = 0 ∧ i < p)
    · rw [bi_t z, bi_t (by omega)]; exact Int.le_refl _
    · rw [bi_f z]; exact (bi_rg _).1
  · show bi (K 2 p - K 2 p > 0 ∨ (K 2 p - K 2 p = 0 ∧ p < p)) + 1 ≤ bi (K 2 p - K 2 q > 0 ∨ (K 2 p - K 2 q = 0 ∧ p < q))
    rw [bi_f (by omega), bi_t h]; decide
theorem krk_ne {B : Int} {K : fS} (hO : jOk B K) {p q : Int} (hp : 0 ≤ p ∧ p < K 6 0) (hq : 0 ≤ q ∧ q < K 6 0) (h : p ≠ q) : krk K p ≠ krk K q := by
  by_cases z : K 2 p - K 2 q > 0 ∨ (K 2 p - K 2 q = 0 ∧ p < q)
  · have := krk_lt hO hp z; omega
  · have := krk_lt hO (p := q) (q := p) hq (by omega); omega
theorem krk_rg {B : Int} {K : fS} (hO : jOk B K) {p : Int} (hp : 0 ≤ p ∧ p < K 6 0) : 0 ≤ krk K p ∧ krk K p < K 6 0 := by
  have hn := hO.n
  have a := csum_bi (P := fun o => K 2 o - K 2 p > 0 ∨ (K 2 o - K 2 p = 0 ∧ o < p)) (K 6 0).toNat
  have b := csum_lt (f := fun o => bi (K 2 o - K 2 p > 0 ∨ (K 2 o - K 2 p = 0 ∧ o < p))) (g := fun _ => 1) (K 6 0).toNat (fun i i0 i1 => (bi_rg _).2) p hp.1 (by omega) (by (try dsimp only); rw [bi_f (by omega)]; decide)
  have c9 : csum (fun _ => (1 : Int)) (K 6 0).toNat ≤ (K 6 0).toNat := by
    have := (csum_rg (f := fun _ => (1 : Int)) (a := 0) (b := 1) (fun _ => ⟨by decide, by decide⟩) (by decide) (by decide) (K 6 0).toNat).2
    omega
  have e : krk K p = csum (fun o => bi (K 2 o - K 2 p > 0 ∨ (K 2 o - K 2 p = 0 ∧ o < p))) (K 6 0).toNat := rfl
  rw [e]
  exact ⟨a.1, by omega⟩
/-- every place is somebody's -/
theorem krk_ex {B : Int} {K : fS} (hO : jOk B K) {r : Int} (hr : 0 ≤ r ∧ r < K 6 0) : ∃ p, (0 ≤ p ∧ p < K 6 0) ∧ krk K p = r := by
  have hn := hO.n
  refine Classical.byContradiction fun hc => ?_
  have nd : (r :: (List.range (K 6 0).toNat).map fun (i : Nat) => krk K (i : Int)).Nodup := by
    refine List.nodup_cons.mpr ⟨fun hm => ?_, List.pairwise_map.mpr (List.Pairwise.imp_of_mem (R := fun a b => a < b) ?_ List.pairwise_lt_range)⟩
    · obtain ⟨i, hi, e⟩ := List.mem_map.mp hm
      have := List.mem_range.mp hi
      exact hc ⟨i, by omega, e⟩
    · intro a b ha hb hab
      have h1 := List.mem_range.mp ha
      have h2 := List.mem_range.mp hb
      exact krk_ne hO (by omega) (by omega) (by omega)
  have := nodup_len (K 6 0).toNat _ nd fun x hx => by
    rcases List.mem_cons.mp hx with e | e
    · omega
    · obtain ⟨i, hi, e⟩ := List.mem_map.mp e
      have h1 := List.mem_range.mp hi
      have := krk_rg hO (p := (i : Int)) (by omega)
      omega
  rw [List.length_cons, List.length_map, List.length_range] at this
  omega
set_option maxHeartbeats 4000000 in
/-- FamilyOaks.ranked -/
theorem x_ranked {K Ks X I : fS} {P : Int → fS} {c B : Int} {t : Int → Int} {h : jH} (hC : xC K Ks P X I c t h) (hI : kI B K) {q : Int} (hq : -2147483648 ≤ q ∧ q ≤ 2147483647) : jM mX4_ranked 6 1 6 [] [.ref 0, iv q] h (fun r h' => h = h' ∧ ∃ x, r = some (iv x) ∧ (0 ≤ x ∧ x < K 6 0) ∧ krk K x = q) (fun E h' => E = "java/util/NoSuchElementException" ∧ h = h' ∧ ¬ (0 ≤ q ∧ q < K 6 0)) := by
  refine j_method (by decide +kernel) rfl (fun _ _ _ => trivial) (Nat.le_of_ble_eq_true rfl) ?_
  generalize hZ : jZ [] 1 6 _ _ = Z
  show J mX4_ranked (jR 6 1 6) [] Z 0 [(0, .ref 0), (1, iv q)] [] h 0 0
  obtain ⟨hS, ⟨Fb, hb⟩, ⟨hKs, hIn, hW⟩, hPa, hp5⟩ := hC
  obtain ⟨a, b, E, H, hX, hF, hL, hG, hq, hE9, hH⟩ := hS
  have hO := hI.1
  have hA := hI.2.1
  have hn := hO.n
  have hqn := hO.q
  refine j_iconst dX4_ranked_0 ?_
  refine j_istore_n (L' := [(0, _), (1, _), (2, _)]) dX4_ranked_1 rfl (by decide) rfl ?_
  refine jloop (P := fun z9 : Int => J mX4_ranked (jR 6 1 6) [] Z 2 [(0, .ref 0), (1, iv q), (2, iv z9)] [] h 0 0) (fun z9 => 0 ≤ z9 ∧ z9 ≤ K 6 0 ∧ ∀ x, 0 ≤ x → x < z9 → krk K x ≠ q) (fun z9 => (K 6 0 - z9).toNat) ?_ 0 ?_
  · rintro p hinv ih
    obtain ⟨i1, i2, i3⟩ := hinv
    refine j_iload_n dX4_ranked_2 rfl rfl ?_
    refine j_aload_n dX4_ranked_3 rfl rfl ?_
    refine j_getfield (v := .ref 1) dX4_ranked_4 jf_X4_10 hX.1 rfl ?_
    refine j_getfield (v := iv (K 6 0)) dX4_ranked_7 jf_X4_150 hF.1 rfl ?_
    refine j_icmp_ge (tgt := 33) dX4_ranked_10 (by decide) (by omega) (fun c1 => ?_) (fun c1 => ?_)
    · subst hZ
      exact j_throwN jth_157_159_161 rfl dX4_ranked_33 dX4_ranked_36 dX4_ranked_37 dX4_ranked_39 dX4_ranked_42 (by decide) (by decide) ⟨rfl, rfl, fun z => by obtain ⟨x, x0, x1⟩ := krk_ex hO z; exact i3 x x0.1 (by omega) x1⟩ (by decide) (by decide)
    · refine j_aload_n dX4_ranked_13 rfl rfl ?_
      refine j_getfield (v := .ref 1) dX4_ranked_14 jf_X4_10 hX.1 rfl ?_
      refine j_iload_n dX4_ranked_17 rfl rfl ?_
      refine j_callV (k_richerThan hF hq hO  (by omega)) dX4_ranked_18 jc_X4_197 jmV_X1_richerThan rfl rfl hF.1 rfl rfl (by simp) jfr_nil (Nat.le_of_ble_eq_true rfl) ⟨Nat.le_of_ble_eq_true rfl, Nat.le_of_ble_eq_true rfl⟩ ⟨Nat.le_of_ble_eq_true rfl, Nat.le_of_ble_eq_true rfl⟩ (fun r h2 hp9 => ?_) (fun E h9 q => q.elim)
      obtain ⟨rfl, rfl⟩ := hp9
      refine j_iload_n dX4_ranked_21 rfl rfl ?_
      refine j_icmp_ne (tgt := 27) dX4_ranked_22 (by decide) (by have z : _ ∧ _ := krk_rg hO (p := p) (by omega); unfold krk at z; omega) (fun c3 => ?_) (fun c3 => ?_)
      · refine j_iinc (L' := [(0, _), (1, _), (2, _)]) dX4_ranked_27 rfl (by decide) rfl ?_
        refine j_goto (tgt := 2) dX4_ranked_30 (by decide) ?_
        have hc9 := c3
        refine ih (p + 1) ⟨by omega, by omega, fun x x0 x1 => ?_⟩ (by omega)
        by_cases e : x = p
        · rw [e]; exact hc9
        · exact i3 x x0 (by omega)
      · refine j_iload_n dX4_ranked_25 rfl rfl ?_
        subst hZ
        exact j_ireturn dX4_ranked_26 rfl rfl ⟨rfl, _, rfl, by omega, c3⟩ (by omega) (by omega)
  · exact ⟨by omega, by omega, fun x a b => by omega⟩
theorem isFar_u {F : fS} {p x y : Int} (hx : isFar F p x) (hy : isFar F p y) : x = y := by
  obtain ⟨x0, x1, x2, x3⟩ := hx
  obtain ⟨y0, y1, y2, y3⟩ := hy
  rcases x3 with ⟨e, x3⟩ | ⟨x3, x4⟩
  · rcases y3 with ⟨e', _⟩ | ⟨y3, _⟩
    · rw [e, e']
    · have := x3 y y0 y1 y2; omega
  · rcases y3 with ⟨e', y3⟩ | ⟨y3, y4⟩
    · have := y3 x x0 x1 x2; omega
    · have a := x4 y y0 y1 y2
      have b := y4 x x0 x1 x2
      have c := a.2
      have d := b.2
      have e : faw F p x = faw F p y := by omega
      have := c e.symm
      have := d e
      omega
set_option maxHeartbeats 4000000 in
/-- FamilyOaks.farthest -/
theorem x_farthest {K Ks X I : fS} {P : Int → fS} {c B : Int} {t : Int → Int} {h : jH} (hC : xC K Ks P X I c t h) (hI : kI B K) {p : Int} (hp : -2147483648 ≤ p ∧ p ≤ 2147483647) : jM mX4_farthest 7 1 6 [] [.ref 0, iv p] h (fun r h' => h = h' ∧ ∃ x, r = some (iv x) ∧ (0 ≤ p ∧ p < K 6 0) ∧ isFar K p x) (fun E h' => E = "java/lang/IndexOutOfBoundsException" ∧ h = h' ∧ ¬ (0 ≤ p ∧ p < K 6 0)) := by
  refine j_method (by decide +kernel) rfl (fun _ _ _ => trivial) (Nat.le_of_ble_eq_true rfl) ?_
  generalize hZ : jZ [] 1 6 _ _ = Z
  show J mX4_farthest (jR 7 1 6) [] Z 0 [(0, .ref 0), (1, iv p)] [] h 0 0
  obtain ⟨hS, ⟨Fb, hb⟩, ⟨hKs, hIn, hW⟩, hPa, hp5⟩ := hC
  obtain ⟨a, b, E, H, hX, hF, hL, hG, hq, hE9, hH⟩ := hS
  have hO := hI.1
  have hA := hI.2.1
  have hn := hO.n
  have hqn := hO.q
  refine j_aload_n dX4_farthest_0 rfl rfl ?_
  refine j_iload_n dX4_farthest_1 rfl rfl ?_
  refine j_callV (x_needPerson hX hF hq hO (p := p) (by omega)) dX4_farthest_2 jc_X4_82 jmV_X4_needPerson rfl rfl hX.1 rfl rfl (by simp) jfr_nil (Nat.le_of_ble_eq_true rfl) ⟨Nat.le_of_ble_eq_true rfl, Nat.le_of_ble_eq_true rfl⟩ ⟨Nat.le_of_ble_eq_true rfl, Nat.le_of_ble_eq_true rfl⟩ (fun r h1 hp9 => ?_) (fun E9 h9 q9 => by obtain ⟨rfl, rfl, q9⟩ := q9; subst hZ; exact j_out rfl ⟨rfl, rfl, q9⟩ (by decide) (by decide))
  obtain ⟨rfl, rfl, qp2⟩ := hp9
  refine j_iload_n dX4_farthest_5 rfl rfl ?_
  refine j_istore_n (L' := [(0, _), (1, _), (2, _)]) dX4_farthest_6 rfl (by decide) rfl ?_
  refine j_iconst dX4_farthest_7 ?_
  refine j_istore_n (L' := [(0, _), (1, _), (2, _), (3, _)]) dX4_farthest_8 rfl (by decide) rfl ?_
  refine j_iconst dX4_farthest_9 ?_
  refine j_istore (L' := [(0, _), (1, _), (2, _), (3, _), (4, _)]) dX4_farthest_10 (by decide) rfl ?_
  refine jloop (P := fun z9 : Int × Int × Int => J mX4_farthest (jR 7 1 6) [] Z 12 [(0, .ref 0), (1, iv p), (2, iv z9.1), (3, iv z9.2.1), (4, iv z9.2.2)] [] h 1 6) (fun z9 => 0 ≤ z9.2.2 ∧ z9.2.2 ≤ K 6 0 ∧ (0 ≤ z9.1 ∧ z9.1 < K 6 0) ∧ frt K p = frt K z9.1 ∧ ((z9.2.1 = 0 ∧ z9.1 = p) ∨ (0 < z9.2.1 ∧ z9.2.1 = faw K p z9.1 ∧ z9.1 < z9.2.2 ∧ ∀ x, 0 ≤ x → x < z9.2.2 → frt K p = frt K x → faw K p x = z9.2.1 → z9.1 ≤ x)) ∧ ∀ x, 0 ≤ x → x < z9.2.2 → frt K p = frt K x → faw K p x ≤ z9.2.1) (fun z9 => (K 6 0 - z9.2.2).toNat) ?_ (p, 0, 0) ?_
  · rintro ⟨b9, m, o⟩ hinv ih
    dsimp only at hinv ih ⊢
    obtain ⟨i1, i2, i3, i4, i5, i6⟩ := hinv
    have zm := faw_rg K p b9
    have zmo := faw_rg K p o
    refine j_iload dX4_farthest_12 rfl ?_
    refine j_aload_n dX4_farthest_14 rfl rfl ?_
    refine j_getfield (v := .ref 1) dX4_farthest_15 jf_X4_10 hX.1 rfl ?_
    refine j_getfield (v := iv (K 6 0)) dX4_farthest_18 jf_X4_150 hF.1 rfl ?_
    refine j_icmp_ge (tgt := 62) dX4_farthest_21 (by decide) (by omega) (fun c2 => ?_) (fun c2 => ?_)
    · refine j_iload_n dX4_farthest_62 rfl rfl ?_
      subst hZ
      exact j_ireturn dX4_farthest_63 rfl rfl ⟨rfl, _, rfl, qp2, i3.1, i3.2, i4, (by
            rcases i5 with ⟨m0, e⟩ | ⟨m0, e, _, w⟩
            · refine .inl ⟨e, fun x x0 x1 x2 => ?_⟩
              have := i6 x x0 (by omega) x2
              omega
            · refine .inr ⟨by omega, fun x x0 x1 x2 => ⟨?_, fun z => w x x0 (by omega) x2 (by omega)⟩⟩
              have := i6 x x0 (by omega) x2
              omega)⟩ (by omega) (by omega)
    · refine j_aload_n dX4_farthest_24 rfl rfl ?_
      refine j_iload_n dX4_farthest_25 rfl rfl ?_
      refine j_iload dX4_farthest_26 rfl ?_
      refine j_callV (x_isOneOak hX hF hL hG hq hI hE9 hH (p := p) (o := o) (by omega) (by omega)) dX4_farthest_28 jc_X4_153 jmV_X4_isOneOak rfl rfl hX.1 rfl rfl (by simp) jfr_nil (Nat.le_of_ble_eq_true rfl) ⟨Nat.le_of_ble_eq_true rfl, Nat.le_of_ble_eq_true rfl⟩ ⟨Nat.le_of_ble_eq_true rfl, Nat.le_of_ble_eq_true rfl⟩ (fun r h3 hp9 => ?_) (fun E h9 q => q.elim)
      obtain ⟨rfl, rfl⟩ := hp9
      refine j_if_eq (tgt := 56) dX4_farthest_31 (by decide) (bi_r32 _) (fun c4 => ?_) (fun c4 => ?_)
      · have qc4 := bi_z c4
        refine j_iinc (L' := [(0, _), (1, _), (2, _), (3, _), (4, _)]) dX4_farthest_56 rfl (by decide) rfl ?_
        refine j_goto (tgt := 12) dX4_farthest_59 (by decide) ?_
        have hc9 := c4
        have i5' : (m = 0 ∧ b9 = p) ∨ (0 < m ∧ m = faw K p b9 ∧ b9 < o + 1 ∧ ∀ x, 0 ≤ x → x < o + 1 → frt K p = frt K x → faw K p x = m → b9 ≤ x) := i5.imp id fun q => ⟨q.1, q.2.1, by have := q.2.2.1; omega, fun x x0 x1 x2 x3 => (by by_cases e : x = o; have := q.2.2.1; omega; exact q.2.2.2 x x0 (by omega) x2 x3)⟩
        refine ih (b9, m, o + 1) ⟨by show 0 ≤ o + 1; omega, by show o + 1 ≤ K 6 0; omega, i3, i4, i5', fun x x0 x1 x2 => ?_⟩ (by show (K 6 0 - (o + 1)).toNat < (K 6 0 - o).toNat; omega)
        have x1 : x < o + 1 := x1
        by_cases e : x = o
        · subst e; have := x2; first | (exfalso; omega) | omega
        · exact i6 x x0 (by omega) x2
      · have qc4 := bi_nz c4
        refine j_aload_n dX4_farthest_34 rfl rfl ?_
        refine j_iload_n dX4_farthest_35 rfl rfl ?_
        refine j_iload dX4_farthest_36 rfl ?_
        refine j_callV (x_degreeBetween hX hF hL hG hq hI hE9 hH (p := p) (o := o) (by omega) (by omega) (by omega)) dX4_farthest_38 jc_X4_144 jmV_X4_degreeBetween rfl rfl hX.1 rfl rfl (by simp) jfr_nil (Nat.le_of_ble_eq_true rfl) ⟨Nat.le_of_ble_eq_true rfl, Nat.le_of_ble_eq_true rfl⟩ ⟨Nat.le_of_ble_eq_true rfl, Nat.le_of_ble_eq_true rfl⟩ (fun r h5 hp9 => ?_) (fun E h9 q => q.elim)
        obtain ⟨rfl, rfl⟩ := hp9
        have za := faw_rg K p o
        refine j_iload_n dX4_farthest_41 rfl rfl ?_
        refine j_icmp_le (tgt := 56) dX4_farthest_42 (by decide) (by omega) (fun c6 => ?_) (fun c6 => ?_)
        · refine j_iinc (L' := [(0, _), (1, _), (2, _), (3, _), (4, _)]) dX4_farthest_56 rfl (by decide) rfl ?_
          refine j_goto (tgt := 12) dX4_farthest_59 (by decide) ?_
          have hc9 := c6
          have i5' : (m = 0 ∧ b9 = p) ∨ (0 < m ∧ m = faw K p b9 ∧ b9 < o + 1 ∧ ∀ x, 0 ≤ x → x < o + 1 → frt K p = frt K x → faw K p x = m → b9 ≤ x) := i5.imp id fun q => ⟨q.1, q.2.1, by have := q.2.2.1; omega, fun x x0 x1 x2 x3 => (by by_cases e : x = o; have := q.2.2.1; omega; exact q.2.2.2 x x0 (by omega) x2 x3)⟩
          refine ih (b9, m, o + 1) ⟨by show 0 ≤ o + 1; omega, by show o + 1 ≤ K 6 0; omega, i3, i4, i5', fun x x0 x1 x2 => ?_⟩ (by show (K 6 0 - (o + 1)).toNat < (K 6 0 - o).toNat; omega)
          have x1 : x < o + 1 := x1
          by_cases e : x = o
          · subst e; have := x2; first | (exfalso; omega) | omega
          · exact i6 x x0 (by omega) x2
        · refine j_aload_n dX4_farthest_45 rfl rfl ?_
          refine j_iload_n dX4_farthest_46 rfl rfl ?_
          refine j_iload dX4_farthest_47 rfl ?_
          refine j_callV (x_degreeBetween hX hF hL hG hq hI hE9 hH (p := p) (o := o) (by omega) (by omega) (by omega)) dX4_farthest_49 jc_X4_144 jmV_X4_degreeBetween rfl rfl hX.1 rfl rfl (by simp) jfr_nil (Nat.le_of_ble_eq_true rfl) ⟨Nat.le_of_ble_eq_true rfl, Nat.le_of_ble_eq_true rfl⟩ ⟨Nat.le_of_ble_eq_true rfl, Nat.le_of_ble_eq_true rfl⟩ (fun r h7 hp9 => ?_) (fun E h9 q => q.elim)
          obtain ⟨rfl, rfl⟩ := hp9
          have za := faw_rg K p o
          refine j_istore_n (L' := [(0, _), (1, _), (2, _), (3, _), (4, _)]) dX4_farthest_52 rfl (by decide) rfl ?_
          refine j_iload dX4_farthest_53 rfl ?_
          refine j_istore_n (L' := [(0, _), (1, _), (2, _), (3, _), (4, _)]) dX4_farthest_55 rfl (by decide) rfl ?_
          refine j_iinc (L' := [(0, _), (1, _), (2, _), (3, _), (4, _)]) dX4_farthest_56 rfl (by decide) rfl ?_
          refine j_goto (tgt := 12) dX4_farthest_59 (by decide) ?_
          have hc9 := c6
          refine ih (o, faw K p o, o + 1) ⟨by show 0 ≤ o + 1; omega, by show o + 1 ≤ K 6 0; omega, by show 0 ≤ o ∧ o < K 6 0; omega, by show frt K p = frt K o; omega, by show (faw K p o = 0 ∧ o = p) ∨ (0 < faw K p o ∧ faw K p o = faw K p o ∧ o < o + 1 ∧ ∀ x, 0 ≤ x → x < o + 1 → frt K p = frt K x → faw K p x = faw K p o → o ≤ x); exact .inr ⟨by omega, rfl, by omega, fun x x0 x1 x2 x3 => by by_cases e : x = o; omega; have := i6 x x0 (by omega) x2; omega⟩, fun x x0 x1 x2 => ?_⟩ (by show (K 6 0 - (o + 1)).toNat < (K 6 0 - o).toNat; omega)
          have x1 : x < o + 1 := x1
          show faw K p x ≤ faw K p o
          by_cases e : x = o
          · rw [e]; exact Int.le_refl _
          · have := i6 x x0 (by omega) x2; omega
  · dsimp only
    exact ⟨by omega, by omega, qp2, rfl, .inl ⟨rfl, rfl⟩, fun x a b _ => by omega⟩
