def m_doCut (G : fS) (p : Int) : Int × fS := if (bi (0 ≤ p ∧ p < (G 0) 0)) = 0 then ((m_fails G 1).1, (m_fails G 1).2) else if 0 ≤ (mK (G 0) 0 p) then (csum (fun c => bi (mK (jfu (G 0) (5 + p) (-1)) 0 c = -1)) ((jfu (G 0) (5 + p) (-1)) 0).toNat, gs G 0 (jfu (G 0) (5 + p) (-1))) else ((m_refuse G 2 5 p).1, (m_refuse G 2 5 p).2)
set_option maxHeartbeats 4000000 in
/-- reference: doCut -/
theorem c5_doCut {k : Nat} {G : fS} {f : Int → Int} {B : Int} {h : jH} (hG : jOb sM k G h) (hf : G 0 = f) (hO : jOk B (mK f)) {p : Int} (hp : -2147483648 ≤ p ∧ p ≤ 2147483647) : jM mX5_doCut 3 0 0 [] [.ref k, iv p] h (jWi sM k (m_doCut G p) h) jno := by
  refine j_method (by decide +kernel) rfl (fun _ _ _ => trivial) (Nat.le_of_ble_eq_true rfl) ?_
  generalize hZ : jZ [] 0 0 _ _ = Z
  show J mX5_doCut (jR 3 0 0) [] Z 0 [(0, .ref k), (1, iv p)] [] h 0 0
  subst hf
  have hn := mK_n hO
  have hb := hO.b
  have hE0 : jEx k 10 h h := jEx.rf
  refine j_aload_n dX5_doCut_0 rfl rfl ?_
  refine j_iload_n dX5_doCut_1 rfl rfl ?_
  refine j_callV (c5_has hG (f := (G 0)) rfl (by omega) (by omega)) dX5_doCut_2 jc_X5_89 jmV_X5_has rfl rfl hG.1 rfl rfl (by simp) jfr_nil (Nat.le_of_ble_eq_true rfl) ⟨Nat.le_of_ble_eq_true rfl, Nat.le_of_ble_eq_true rfl⟩ ⟨Nat.le_of_ble_eq_true rfl, Nat.le_of_ble_eq_true rfl⟩ (fun r h1 hp9 => ?_) (fun E h9 q => q.elim)
  obtain ⟨rfl, rfl⟩ := hp9
  refine j_if_ne (tgt := 14) dX5_doCut_5 (by decide) (bi_r32 _) (fun c2 => ?_) (fun c2 => ?_)
  · have qc2 := bi_nz c2
    refine j_aload_n dX5_doCut_14 rfl rfl ?_
    refine j_iload_n dX5_doCut_15 rfl rfl ?_
    refine j_callV (c5_parent hG (f := (G 0)) rfl hO (by omega)) dX5_doCut_16 jc_X5_68 jmV_X5_parent rfl rfl hG.1 rfl rfl (by simp) jfr_nil (Nat.le_of_ble_eq_true rfl) ⟨Nat.le_of_ble_eq_true rfl, Nat.le_of_ble_eq_true rfl⟩ ⟨Nat.le_of_ble_eq_true rfl, Nat.le_of_ble_eq_true rfl⟩ (fun r h3 hp9 => ?_) (fun E h9 q => q.elim)
    obtain ⟨rfl, rfl⟩ := hp9
    have hpp9 : -1 ≤ mK (G 0) 0 p ∧ mK (G 0) 0 p < (G 0) 0 := hO.p p
    refine j_if_ge (tgt := 30) dX5_doCut_19 (by decide) (by omega) (fun c4 => ?_) (fun c4 => ?_)
    · refine j_aload_n dX5_doCut_30 rfl rfl ?_
      refine j_getfield (v := .ref (k + 1)) dX5_doCut_31 jf_X5_9 hG.1 rfl ?_
      refine j_iconst dX5_doCut_34 ?_
      refine j_iload_n dX5_doCut_35 rfl rfl ?_
      refine j_iadd dX5_doCut_36 ?_
      refine j_iconst dX5_doCut_37 ?_
      refine jo_ias (S := sM) (k := k) dX5_doCut_38 okM hG (i := 0) (p := 1) rfl (by omega) (by decide) (fun h5 hG5 hX5 => ?_)
      have hE6 := hE0.tr hX5
      have hO7 : jOk B (mK (jfu (G 0) (5 + p) (-1))) := mok_par hO (by omega) (by omega)
      refine j_aload_n dX5_doCut_39 rfl rfl ?_
      refine j_callV (c5_oaks hG5 (f := (jfu (G 0) (5 + p) (-1))) rfl hO7) dX5_doCut_40 jc_X5_108 jmV_X5_oaks rfl rfl hG5.1 rfl rfl (by simp) jfr_nil (Nat.le_of_ble_eq_true rfl) ⟨Nat.le_of_ble_eq_true rfl, Nat.le_of_ble_eq_true rfl⟩ ⟨Nat.le_of_ble_eq_true rfl, Nat.le_of_ble_eq_true rfl⟩ (fun r h8 hp9 => ?_) (fun E h9 q => q.elim)
      obtain ⟨rfl, rfl⟩ := hp9
      have hk9 := csum_bi (P := fun c => mK (jfu (G 0) (5 + p) (-1)) 0 c = -1) ((jfu (G 0) (5 + p) (-1)) 0).toNat
      subst hZ
      exact j_ireturn dX5_doCut_43 rfl rfl (jWi.i ((if_neg c2).trans (if_pos c4)) hG5 hE6) (Nat.le_refl _) (Nat.le_refl _)
    · refine j_aload_n dX5_doCut_22 rfl rfl ?_
      refine j_iconst dX5_doCut_23 ?_
      refine j_iconst dX5_doCut_24 ?_
      refine j_iload_n dX5_doCut_25 rfl rfl ?_
      refine j_callV (c5_refuse hG) dX5_doCut_26 jc_X5_72 jmV_X5_refuse rfl rfl hG.1 rfl rfl (by simp) jfr_nil (Nat.le_of_ble_eq_true rfl) ⟨Nat.le_of_ble_eq_true rfl, Nat.le_of_ble_eq_true rfl⟩ ⟨Nat.le_of_ble_eq_true rfl, Nat.le_of_ble_eq_true rfl⟩ (fun r h9 hp9 => ?_) (fun E h9 q => q.elim)
      obtain ⟨rfl, hG10, hX11⟩ := hp9
      have hE12 := hE0.tr hX11
      subst hZ
      exact j_ireturn dX5_doCut_29 rfl rfl (jWi.i ((if_neg c2).trans (if_neg c4)) hG10 hE12) (Nat.le_refl _) (Nat.le_refl _)
  · have qc2 := bi_z c2
    refine j_aload_n dX5_doCut_8 rfl rfl ?_
    refine j_iconst dX5_doCut_9 ?_
    refine j_callV (c5_fails hG) dX5_doCut_10 jc_X5_93 jmV_X5_fails rfl rfl hG.1 rfl rfl (by simp) jfr_nil (Nat.le_of_ble_eq_true rfl) ⟨Nat.le_of_ble_eq_true rfl, Nat.le_of_ble_eq_true rfl⟩ ⟨Nat.le_of_ble_eq_true rfl, Nat.le_of_ble_eq_true rfl⟩ (fun r h13 hp9 => ?_) (fun E h9 q => q.elim)
    obtain ⟨rfl, hG14, hX15⟩ := hp9
    have hE16 := hE0.tr hX15
    subst hZ
    exact j_ireturn dX5_doCut_13 rfl rfl (jWi.i (if_pos c2) hG14 hE16) (Nat.le_refl _) (Nat.le_refl _)
def m_parts (G : fS) (p : Int) : fS := gs G 0 (jfu (jfu (G 0) (29 + ((G 0) (29 + p))) (-1)) (29 + p) (-1))
set_option maxHeartbeats 4000000 in
/-- reference: parts -/
theorem c5_parts {k : Nat} {G : fS} {h : jH} (hG : jOb sM k G h) {p : Int} (hp : 0 ≤ p ∧ p < 24) (hs : 0 ≤ G 0 (29 + p) ∧ G 0 (29 + p) < 24) : jM mX5_parts 1 0 0 [] [.ref k, iv p] h (jWv sM k (m_parts G p) h) jno := by
  refine j_method (by decide +kernel) rfl (fun _ _ _ => trivial) (Nat.le_of_ble_eq_true rfl) ?_
  generalize hZ : jZ [] 0 0 _ _ = Z
  show J mX5_parts (jR 1 0 0) [] Z 0 [(0, .ref k), (1, iv p)] [] h 0 0
  have hE0 : jEx k 10 h h := jEx.rf
  refine j_aload_n dX5_parts_0 rfl rfl ?_
  refine j_getfield (v := .ref (k + 1)) dX5_parts_1 jf_X5_9 hG.1 rfl ?_
  refine j_bipush dX5_parts_4 (by decide +kernel) ?_
  refine j_aload_n dX5_parts_6 rfl rfl ?_
  refine j_getfield (v := .ref (k + 1)) dX5_parts_7 jf_X5_9 hG.1 rfl ?_
  refine j_bipush dX5_parts_10 (by decide +kernel) ?_
  refine j_iload_n dX5_parts_12 rfl rfl ?_
  refine j_iadd dX5_parts_13 ?_
  refine j_iaload (f := G 0) dX5_parts_14 (hG.a 0 1 0 141 rfl) (by omega) (by decide) ?_
  refine j_iadd dX5_parts_15 ?_
  refine j_iconst dX5_parts_16 ?_
  refine jo_ias (S := sM) (k := k) dX5_parts_17 okM hG (i := 0) (p := 1) rfl (by omega) (by decide) (fun h1 hG1 hX1 => ?_)
  have hE2 := hE0.tr hX1
  refine j_aload_n dX5_parts_18 rfl rfl ?_
  refine j_getfield (v := .ref (k + 1)) dX5_parts_19 jf_X5_9 hG1.1 rfl ?_
  refine j_bipush dX5_parts_22 (by decide +kernel) ?_
  refine j_iload_n dX5_parts_24 rfl rfl ?_
  refine j_iadd dX5_parts_25 ?_
  refine j_iconst dX5_parts_26 ?_
  refine jo_ias (S := sM) (k := k) dX5_parts_27 okM hG1 (i := 0) (p := 1) rfl (by omega) (by decide) (fun h3 hG3 hX3 => ?_)
  have hE4 := hE2.tr hX3
  have hG5 : jOb sM k (gs G 0 (jfu (jfu (G 0) (29 + ((G 0) (29 + p))) (-1)) (29 + p) (-1))) h3 := Eq.mp (congrArg (fun z => jOb sM k z _) gs_gs) hG3
  subst hZ
  exact j_return dX5_parts_28 rfl (jWv.i rfl hG5 hE4) (Nat.le_refl _) (Nat.le_refl _)
def m_doPart (G : fS) (p : Int) : Int × fS := if (bi (0 ≤ p ∧ p < (G 0) 0)) = 0 then ((m_fails G 1).1, (m_fails G 1).2) else if 0 ≤ ((G 0) (29 + p)) then ((G 0) (29 + p), (m_parts G p)) else ((m_refuse G 2 8 p).1, (m_refuse G 2 8 p).2)
set_option maxHeartbeats 4000000 in
/-- reference: doPart -/
theorem c5_doPart {k : Nat} {G : fS} {f : Int → Int} {B : Int} {h : jH} (hG : jOb sM k G h) (hf : G 0 = f) (hO : jOk B (mK f)) {p : Int} (hp : -2147483648 ≤ p ∧ p ≤ 2147483647) : jM mX5_doPart 2 0 0 [] [.ref k, iv p] h (jWi sM k (m_doPart G p) h) jno := by
  refine j_method (by decide +kernel) rfl (fun _ _ _ => trivial) (Nat.le_of_ble_eq_true rfl) ?_
  generalize hZ : jZ [] 0 0 _ _ = Z
  show J mX5_doPart (jR 2 0 0) [] Z 0 [(0, .ref k), (1, iv p)] [] h 0 0
  subst hf
  have hn := mK_n hO
  have hb := hO.b
  have hE0 : jEx k 10 h h := jEx.rf
  refine j_aload_n dX5_doPart_0 rfl rfl ?_
  refine j_iload_n dX5_doPart_1 rfl rfl ?_
  refine j_callV (c5_has hG (f := (G 0)) rfl (by omega) (by omega)) dX5_doPart_2 jc_X5_89 jmV_X5_has rfl rfl hG.1 rfl rfl (by simp) jfr_nil (Nat.le_of_ble_eq_true rfl) ⟨Nat.le_of_ble_eq_true rfl, Nat.le_of_ble_eq_true rfl⟩ ⟨Nat.le_of_ble_eq_true rfl, Nat.le_of_ble_eq_true rfl⟩ (fun r h1 hp9 => ?_) (fun E h9 q => q.elim)
  obtain ⟨rfl, rfl⟩ := hp9
  refine j_if_ne (tgt := 14) dX5_doPart_5 (by decide) (bi_r32 _) (fun c2 => ?_) (fun c2 => ?_)
  · have qc2 := bi_nz c2
    have e9 := mK_1 (f := G 0) (p := p) (by omega)
    have e8 := hO.s p
    have e7 : mK (G 0) 6 0 = G 0 0 := rfl
    refine j_aload_n dX5_doPart_14 rfl rfl ?_
    refine j_getfield (v := .ref (k + 1)) dX5_doPart_15 jf_X5_9 hG.1 rfl ?_
    refine j_bipush dX5_doPart_18 (by decide +kernel) ?_
    refine j_iload_n dX5_doPart_20 rfl rfl ?_
    refine j_iadd dX5_doPart_21 ?_
    refine j_iaload (f := G 0) dX5_doPart_22 (hG.a 0 1 0 141 rfl) (by omega) (by decide) ?_
    refine j_istore_n (L' := [(0, _), (1, _), (2, _)]) dX5_doPart_23 rfl (by decide) rfl ?_
    refine j_iload_n dX5_doPart_24 rfl rfl ?_
    refine j_if_ge (tgt := 37) dX5_doPart_25 (by decide) (by omega) (fun c3 => ?_) (fun c3 => ?_)
    · refine j_aload_n dX5_doPart_37 rfl rfl ?_
      refine j_iload_n dX5_doPart_38 rfl rfl ?_
      refine j_callV (c5_parts hG (by omega) (by omega)) dX5_doPart_39 jc_X5_170 jmV_X5_parts rfl rfl hG.1 rfl rfl (by simp) jfr_nil (Nat.le_of_ble_eq_true rfl) ⟨Nat.le_of_ble_eq_true rfl, Nat.le_of_ble_eq_true rfl⟩ ⟨Nat.le_of_ble_eq_true rfl, Nat.le_of_ble_eq_true rfl⟩ (fun r h4 hp9 => ?_) (fun E h9 q => q.elim)
      obtain ⟨rfl, hG5, hX6⟩ := hp9
      have hE7 := hE0.tr hX6
      refine j_iload_n dX5_doPart_42 rfl rfl ?_
      subst hZ
      exact j_ireturn dX5_doPart_43 rfl rfl (jWi.i ((if_neg c2).trans (if_pos c3)) hG5 hE7) (Nat.le_refl _) (Nat.le_refl _)
    · refine j_aload_n dX5_doPart_28 rfl rfl ?_
      refine j_iconst dX5_doPart_29 ?_
      refine j_bipush dX5_doPart_30 (by decide +kernel) ?_
      refine j_iload_n dX5_doPart_32 rfl rfl ?_
      refine j_callV (c5_refuse hG) dX5_doPart_33 jc_X5_72 jmV_X5_refuse rfl rfl hG.1 rfl rfl (by simp) jfr_nil (Nat.le_of_ble_eq_true rfl) ⟨Nat.le_of_ble_eq_true rfl, Nat.le_of_ble_eq_true rfl⟩ ⟨Nat.le_of_ble_eq_true rfl, Nat.le_of_ble_eq_true rfl⟩ (fun r h8 hp9 => ?_) (fun E h9 q => q.elim)
      obtain ⟨rfl, hG9, hX10⟩ := hp9
      have hE11 := hE0.tr hX10
      subst hZ
      exact j_ireturn dX5_doPart_36 rfl rfl (jWi.i ((if_neg c2).trans (if_neg c3)) hG9 hE11) (Nat.le_refl _) (Nat.le_refl _)
  · have qc2 := bi_z c2
    refine j_aload_n dX5_doPart_8 rfl rfl ?_
    refine j_iconst dX5_doPart_9 ?_
    refine j_callV (c5_fails hG) dX5_doPart_10 jc_X5_93 jmV_X5_fails rfl rfl hG.1 rfl rfl (by simp) jfr_nil (Nat.le_of_ble_eq_true rfl) ⟨Nat.le_of_ble_eq_true rfl, Nat.le_of_ble_eq_true rfl⟩ ⟨Nat.le_of_ble_eq_true rfl, Nat.le_of_ble_eq_true rfl⟩ (fun r h12 hp9 => ?_) (fun E h9 q => q.elim)
    obtain ⟨rfl, hG13, hX14⟩ := hp9
    have hE15 := hE0.tr hX14
    subst hZ
    exact j_ireturn dX5_doPart_13 rfl rfl (jWi.i (if_pos c2) hG13 hE15) (Nat.le_refl _) (Nat.le_refl _)
def m_canMarry (G : fS) (p o : Int) : Int × fS := if (mK (G 0) 3 p) = 0 then (0, (m_refuse G 2 2 p).2) else if (mK (G 0) 3 o) = 0 then (0, (m_refuse G 2 2 o).2) else if 0 ≤ ((G 0) (29 + p)) then if ((G 0) (29 + p)) < 0 then (0, (m_refuse G 2 6 ((G 0) (29 + o))).2) else (0, (m_refuse G 2 6 ((G 0) (29 + p))).2) else if ((G 0) (29 + o)) < 0 then if (bi (frt (mK (G 0)) p = frt (mK (G 0)) o)) = 0 then (1, G) else if 4 < (faw (mK (G 0)) p o) then (1, G) else (0, (m_refuse G 2 7 (faw (mK (G 0)) p o)).2) else if ((G 0) (29 + p)) < 0 then (0, (m_refuse G 2 6 ((G 0) (29 + o))).2) else (0, (m_refuse G 2 6 ((G 0) (29 + p))).2)
set_option maxHeartbeats 4000000 in
/-- reference: canMarry -/
theorem c5_canMarry {k : Nat} {G : fS} {f : Int → Int} {B : Int} {h : jH} (hG : jOb sM k G h) (hf : G 0 = f) (hO : jOk B (mK f)) (hA : fAc (mK f)) {p o : Int} (hp : 0 ≤ p ∧ p < f 0) (ho : 0 ≤ o ∧ o < f 0) : jM mX5_canMarry 4 0 0 [] [.ref k, iv p, iv o] h (jWi sM k (m_canMarry G p o) h) jno := by
  refine j_method (by decide +kernel) rfl (fun _ _ _ => trivial) (Nat.le_of_ble_eq_true rfl) ?_
  generalize hZ : jZ [] 0 0 _ _ = Z
  show J mX5_canMarry (jR 4 0 0) [] Z 0 [(0, .ref k), (1, iv p), (2, iv o)] [] h 0 0
  subst hf
  have hn := mK_n hO
  have hb := hO.b
  have e1 := mK_1 hp
  have e2 := mK_1 ho
  have e3 : -1 ≤ mK (G 0) 1 p ∧ mK (G 0) 1 p < G 0 0 := hO.s p
  have e4 : -1 ≤ mK (G 0) 1 o ∧ mK (G 0) 1 o < G 0 0 := hO.s o
  have hE0 : jEx k 10 h h := jEx.rf
  refine j_aload_n dX5_canMarry_0 rfl rfl ?_
  refine j_iload_n dX5_canMarry_1 rfl rfl ?_
  refine j_callV (c5_lives hG (f := (G 0)) rfl hO (by omega)) dX5_canMarry_2 jc_X5_96 jmV_X5_lives rfl rfl hG.1 rfl rfl (by simp) jfr_nil (Nat.le_of_ble_eq_true rfl) ⟨Nat.le_of_ble_eq_true rfl, Nat.le_of_ble_eq_true rfl⟩ ⟨Nat.le_of_ble_eq_true rfl, Nat.le_of_ble_eq_true rfl⟩ (fun r h1 hp9 => ?_) (fun E h9 q => q.elim)
  obtain ⟨rfl, rfl⟩ := hp9
  have hl9 := hO.l p
  refine j_if_eq (tgt := 16) dX5_canMarry_5 (by decide) (by omega) (fun c2 => ?_) (fun c2 => ?_)
  · refine j_aload_n dX5_canMarry_16 rfl rfl ?_
    refine j_iconst dX5_canMarry_17 ?_
    refine j_iconst dX5_canMarry_18 ?_
    refine j_aload_n dX5_canMarry_19 rfl rfl ?_
    refine j_iload_n dX5_canMarry_20 rfl rfl ?_
    refine j_callV (c5_lives hG (f := (G 0)) rfl hO (by omega)) dX5_canMarry_21 jc_X5_96 jmV_X5_lives rfl rfl hG.1 rfl rfl (by simp) jfr_nil (Nat.le_of_ble_eq_true rfl) ⟨Nat.le_of_ble_eq_true rfl, Nat.le_of_ble_eq_true rfl⟩ ⟨Nat.le_of_ble_eq_true rfl, Nat.le_of_ble_eq_true rfl⟩ (fun r h3 hp9 => ?_) (fun E h9 q => q.elim)
    obtain ⟨rfl, rfl⟩ := hp9
    have hl9 := hO.l p
    refine j_if_eq (tgt := 31) dX5_canMarry_24 (by decide) (by omega) (fun c4 => ?_) (fun c4 => (False.elim (by omega)))
    refine j_iload_n dX5_canMarry_31 rfl rfl ?_
    refine j_callV (c5_refuse hG) dX5_canMarry_32 jc_X5_72 jmV_X5_refuse rfl rfl hG.1 rfl rfl (by simp) jfr_nil (Nat.le_of_ble_eq_true rfl) ⟨Nat.le_of_ble_eq_true rfl, Nat.le_of_ble_eq_true rfl⟩ ⟨Nat.le_of_ble_eq_true rfl, Nat.le_of_ble_eq_true rfl⟩ (fun r h5 hp9 => ?_) (fun E h9 q => q.elim)
    obtain ⟨rfl, hG6, hX7⟩ := hp9
    have hE8 := hE0.tr hX7
    refine j_istore_n (L' := [(0, _), (1, _), (2, _), (3, _)]) dX5_canMarry_35 rfl (by decide) rfl ?_
    refine j_iconst dX5_canMarry_36 ?_
    subst hZ
    exact j_ireturn dX5_canMarry_37 rfl rfl (jWi.i (if_pos c2) hG6 hE8) (Nat.le_refl _) (Nat.le_refl _)
  · refine j_aload_n dX5_canMarry_8 rfl rfl ?_
    refine j_iload_n dX5_canMarry_9 rfl rfl ?_
    refine j_callV (c5_lives hG (f := (G 0)) rfl hO (by omega)) dX5_canMarry_10 jc_X5_96 jmV_X5_lives rfl rfl hG.1 rfl rfl (by simp) jfr_nil (Nat.le_of_ble_eq_true rfl) ⟨Nat.le_of_ble_eq_true rfl, Nat.le_of_ble_eq_true rfl⟩ ⟨Nat.le_of_ble_eq_true rfl, Nat.le_of_ble_eq_true rfl⟩ (fun r h9 hp9 => ?_) (fun E h9 q => q.elim)
    obtain ⟨rfl, rfl⟩ := hp9
    have hl9 := hO.l o
    refine j_if_ne (tgt := 38) dX5_canMarry_13 (by decide) (by omega) (fun c10 => ?_) (fun c10 => ?_)
    · refine j_aload_n dX5_canMarry_38 rfl rfl ?_
      refine j_getfield (v := .ref (k + 1)) dX5_canMarry_39 jf_X5_9 hG.1 rfl ?_
      refine j_bipush dX5_canMarry_42 (by decide +kernel) ?_
      refine j_iload_n dX5_canMarry_44 rfl rfl ?_
      refine j_iadd dX5_canMarry_45 ?_
      refine j_iaload (f := G 0) dX5_canMarry_46 (hG.a 0 1 0 141 rfl) (by omega) (by decide) ?_
      refine j_if_ge (tgt := 62) dX5_canMarry_47 (by decide) (by omega) (fun c11 => ?_) (fun c11 => ?_)
      · refine j_aload_n dX5_canMarry_62 rfl rfl ?_
        refine j_iconst dX5_canMarry_63 ?_
        refine j_bipush dX5_canMarry_64 (by decide +kernel) ?_
        refine j_aload_n dX5_canMarry_66 rfl rfl ?_
        refine j_getfield (v := .ref (k + 1)) dX5_canMarry_67 jf_X5_9 hG.1 rfl ?_
        refine j_bipush dX5_canMarry_70 (by decide +kernel) ?_
        refine j_iload_n dX5_canMarry_72 rfl rfl ?_
        refine j_iadd dX5_canMarry_73 ?_
        refine j_iaload (f := G 0) dX5_canMarry_74 (hG.a 0 1 0 141 rfl) (by omega) (by decide) ?_
        refine j_if_lt (tgt := 90) dX5_canMarry_75 (by decide) (by omega) (fun c12 => ?_) (fun c12 => ?_)
        · refine j_aload_n dX5_canMarry_90 rfl rfl ?_
          refine j_getfield (v := .ref (k + 1)) dX5_canMarry_91 jf_X5_9 hG.1 rfl ?_
          refine j_bipush dX5_canMarry_94 (by decide +kernel) ?_
          refine j_iload_n dX5_canMarry_96 rfl rfl ?_
          refine j_iadd dX5_canMarry_97 ?_
          refine j_iaload (f := G 0) dX5_canMarry_98 (hG.a 0 1 0 141 rfl) (by omega) (by decide) ?_
          refine j_callV (c5_refuse hG) dX5_canMarry_99 jc_X5_72 jmV_X5_refuse rfl rfl hG.1 rfl rfl (by simp) jfr_nil (Nat.le_of_ble_eq_true rfl) ⟨Nat.le_of_ble_eq_true rfl, Nat.le_of_ble_eq_true rfl⟩ ⟨Nat.le_of_ble_eq_true rfl, Nat.le_of_ble_eq_true rfl⟩ (fun r h13 hp9 => ?_) (fun E h9 q => q.elim)
          obtain ⟨rfl, hG14, hX15⟩ := hp9
          have hE16 := hE0.tr hX15
          refine j_istore_n (L' := [(0, _), (1, _), (2, _), (3, _)]) dX5_canMarry_102 rfl (by decide) rfl ?_
          refine j_iconst dX5_canMarry_103 ?_
          subst hZ
          exact j_ireturn dX5_canMarry_104 rfl rfl (jWi.i ((if_neg c2).trans ((if_neg c10).trans ((if_pos c11).trans (if_pos c12)))) hG14 hE16) (Nat.le_refl _) (Nat.le_refl _)
        · refine j_aload_n dX5_canMarry_78 rfl rfl ?_
          refine j_getfield (v := .ref (k + 1)) dX5_canMarry_79 jf_X5_9 hG.1 rfl ?_
          refine j_bipush dX5_canMarry_82 (by decide +kernel) ?_
          refine j_iload_n dX5_canMarry_84 rfl rfl ?_
          refine j_iadd dX5_canMarry_85 ?_
          refine j_iaload (f := G 0) dX5_canMarry_86 (hG.a 0 1 0 141 rfl) (by omega) (by decide) ?_
          refine j_goto (tgt := 99) dX5_canMarry_87 (by decide) ?_
          refine j_callV (c5_refuse hG) dX5_canMarry_99 jc_X5_72 jmV_X5_refuse rfl rfl hG.1 rfl rfl (by simp) jfr_nil (Nat.le_of_ble_eq_true rfl) ⟨Nat.le_of_ble_eq_true rfl, Nat.le_of_ble_eq_true rfl⟩ ⟨Nat.le_of_ble_eq_true rfl, Nat.le_of_ble_eq_true rfl⟩ (fun r h17 hp9 => ?_) (fun E h9 q => q.elim)
          obtain ⟨rfl, hG18, hX19⟩ := hp9
          have hE20 := hE0.tr hX19
          refine j_istore_n (L' := [(0, _), (1, _), (2, _), (3, _)]) dX5_canMarry_102 rfl (by decide) rfl ?_
          refine j_iconst dX5_canMarry_103 ?_
          subst hZ
          exact j_ireturn dX5_canMarry_104 rfl rfl (jWi.i ((if_neg c2).trans ((if_neg c10).trans ((if_pos c11).trans (if_neg c12)))) hG18 hE20) (Nat.le_refl _) (Nat.le_refl _)
      · refine j_aload_n dX5_canMarry_50 rfl rfl ?_
        refine j_getfield (v := .ref (k + 1)) dX5_canMarry_51 jf_X5_9 hG.1 rfl ?_
        refine j_bipush dX5_canMarry_54 (by decide +kernel) ?_
        refine j_iload_n dX5_canMarry_56 rfl rfl ?_
        refine j_iadd dX5_canMarry_57 ?_
        refine j_iaload (f := G 0) dX5_canMarry_58 (hG.a 0 1 0 141 rfl) (by omega) (by decide) ?_
        refine j_if_lt (tgt := 105) dX5_canMarry_59 (by decide) (by omega) (fun c21 => ?_) (fun c21 => ?_)
        · refine j_aload_n dX5_canMarry_105 rfl rfl ?_
          refine j_iload_n dX5_canMarry_106 rfl rfl ?_
          refine j_iload_n dX5_canMarry_107 rfl rfl ?_
          refine j_callV (c5_areOfOne hG (f := (G 0)) rfl hO hA (by omega) (by omega)) dX5_canMarry_108 jc_X5_131 jmV_X5_areOfOne rfl rfl hG.1 rfl rfl (by simp) jfr_nil (Nat.le_of_ble_eq_true rfl) ⟨Nat.le_of_ble_eq_true rfl, Nat.le_of_ble_eq_true rfl⟩ ⟨Nat.le_of_ble_eq_true rfl, Nat.le_of_ble_eq_true rfl⟩ (fun r h22 hp9 => ?_) (fun E h9 q => q.elim)
          obtain ⟨rfl, rfl⟩ := hp9
          refine j_if_eq (tgt := 140) dX5_canMarry_111 (by decide) (bi_r32 _) (fun c23 => ?_) (fun c23 => ?_)
          · have qc23 := bi_z c23
            refine j_iconst dX5_canMarry_140 ?_
            subst hZ
            exact j_ireturn dX5_canMarry_141 rfl rfl (jWi.i ((if_neg c2).trans ((if_neg c10).trans ((if_neg c11).trans ((if_pos c21).trans (if_pos c23))))) hG hE0) (Nat.le_refl _) (Nat.le_refl _)
          · have qc23 := bi_nz c23
            refine j_aload_n dX5_canMarry_114 rfl rfl ?_
            refine j_iload_n dX5_canMarry_115 rfl rfl ?_
            refine j_iload_n dX5_canMarry_116 rfl rfl ?_
            refine j_callV (c5_away hG (f := (G 0)) rfl hO hA (by omega) (by omega) (by assumption)) dX5_canMarry_117 jc_X5_134 jmV_X5_away rfl rfl hG.1 rfl rfl (by simp) jfr_nil (Nat.le_of_ble_eq_true rfl) ⟨Nat.le_of_ble_eq_true rfl, Nat.le_of_ble_eq_true rfl⟩ ⟨Nat.le_of_ble_eq_true rfl, Nat.le_of_ble_eq_true rfl⟩ (fun r h24 hp9 => ?_) (fun E h9 q => q.elim)
            obtain ⟨rfl, rfl⟩ := hp9
            have hw9 := faw_rg (mK (G 0)) p o
            refine j_iconst dX5_canMarry_120 ?_
            refine j_icmp_gt (tgt := 140) dX5_canMarry_121 (by decide) (by omega) (fun c25 => ?_) (fun c25 => ?_)
            · refine j_iconst dX5_canMarry_140 ?_
              subst hZ
              exact j_ireturn dX5_canMarry_141 rfl rfl (jWi.i ((if_neg c2).trans ((if_neg c10).trans ((if_neg c11).trans ((if_pos c21).trans ((if_neg c23).trans (if_pos c25)))))) hG hE0) (Nat.le_refl _) (Nat.le_refl _)
            · refine j_aload_n dX5_canMarry_124 rfl rfl ?_
              refine j_iconst dX5_canMarry_125 ?_
              refine j_bipush dX5_canMarry_126 (by decide +kernel) ?_
              refine j_aload_n dX5_canMarry_128 rfl rfl ?_
              refine j_iload_n dX5_canMarry_129 rfl rfl ?_
              refine j_iload_n dX5_canMarry_130 rfl rfl ?_
              refine j_callV (c5_away hG (f := (G 0)) rfl hO hA (by omega) (by omega) (by assumption)) dX5_canMarry_131 jc_X5_134 jmV_X5_away rfl rfl hG.1 rfl rfl (by simp) jfr_nil (Nat.le_of_ble_eq_true rfl) ⟨Nat.le_of_ble_eq_true rfl, Nat.le_of_ble_eq_true rfl⟩ ⟨Nat.le_of_ble_eq_true rfl, Nat.le_of_ble_eq_true rfl⟩ (fun r h26 hp9 => ?_) (fun E h9 q => q.elim)
              obtain ⟨rfl, rfl⟩ := hp9
              have hw9 := faw_rg (mK (G 0)) p o
              refine j_callV (c5_refuse hG) dX5_canMarry_134 jc_X5_72 jmV_X5_refuse rfl rfl hG.1 rfl rfl (by simp) jfr_nil (Nat.le_of_ble_eq_true rfl) ⟨Nat.le_of_ble_eq_true rfl, Nat.le_of_ble_eq_true rfl⟩ ⟨Nat.le_of_ble_eq_true rfl, Nat.le_of_ble_eq_true rfl⟩ (fun r h27 hp9 => ?_) (fun E h9 q => q.elim)
              obtain ⟨rfl, hG28, hX29⟩ := hp9
              have hE30 := hE0.tr hX29
              refine j_istore_n (L' := [(0, _), (1, _), (2, _), (3, _)]) dX5_canMarry_137 rfl (by decide) rfl ?_
              refine j_iconst dX5_canMarry_138 ?_
              subst hZ
              exact j_ireturn dX5_canMarry_139 rfl rfl (jWi.i ((if_neg c2).trans ((if_neg c10).trans ((if_neg c11).trans ((if_pos c21).trans ((if_neg c23).trans (if_neg c25)))))) hG28 hE30) (Nat.le_refl _) (Nat.le_refl _)
        · refine j_aload_n dX5_canMarry_62 rfl rfl ?_
          refine j_iconst dX5_canMarry_63 ?_
          refine j_bipush dX5_canMarry_64 (by decide +kernel) ?_
          refine j_aload_n dX5_canMarry_66 rfl rfl ?_
          refine j_getfield (v := .ref (k + 1)) dX5_canMarry_67 jf_X5_9 hG.1 rfl ?_
          refine j_bipush dX5_canMarry_70 (by decide +kernel) ?_
          refine j_iload_n dX5_canMarry_72 rfl rfl ?_
          refine j_iadd dX5_canMarry_73 ?_
          refine j_iaload (f := G 0) dX5_canMarry_74 (hG.a 0 1 0 141 rfl) (by omega) (by decide) ?_
          refine j_if_lt (tgt := 90) dX5_canMarry_75 (by decide) (by omega) (fun c31 => ?_) (fun c31 => ?_)
          · refine j_aload_n dX5_canMarry_90 rfl rfl ?_
            refine j_getfield (v := .ref (k + 1)) dX5_canMarry_91 jf_X5_9 hG.1 rfl ?_
            refine j_bipush dX5_canMarry_94 (by decide +kernel) ?_
            refine j_iload_n dX5_canMarry_96 rfl rfl ?_
            refine j_iadd dX5_canMarry_97 ?_
            refine j_iaload (f := G 0) dX5_canMarry_98 (hG.a 0 1 0 141 rfl) (by omega) (by decide) ?_
            refine j_callV (c5_refuse hG) dX5_canMarry_99 jc_X5_72 jmV_X5_refuse rfl rfl hG.1 rfl rfl (by simp) jfr_nil (Nat.le_of_ble_eq_true rfl) ⟨Nat.le_of_ble_eq_true rfl, Nat.le_of_ble_eq_true rfl⟩ ⟨Nat.le_of_ble_eq_true rfl, Nat.le_of_ble_eq_true rfl⟩ (fun r h32 hp9 => ?_) (fun E h9 q => q.elim)
            obtain ⟨rfl, hG33, hX34⟩ := hp9
            have hE35 := hE0.tr hX34
            refine j_istore_n (L' := [(0, _), (1, _), (2, _), (3, _)]) dX5_canMarry_102 rfl (by decide) rfl ?_
            refine j_iconst dX5_canMarry_103 ?_
            subst hZ
            exact j_ireturn dX5_canMarry_104 rfl rfl (jWi.i ((if_neg c2).trans ((if_neg c10).trans ((if_neg c11).trans ((if_neg c21).trans (if_pos c31))))) hG33 hE35) (Nat.le_refl _) (Nat.le_refl _)
          · refine j_aload_n dX5_canMarry_78 rfl rfl ?_
            refine j_getfield (v := .ref (k + 1)) dX5_canMarry_79 jf_X5_9 hG.1 rfl ?_
            refine j_bipush dX5_canMarry_82 (by decide +kernel) ?_
            refine j_iload_n dX5_canMarry_84 rfl rfl ?_
            refine j_iadd dX5_canMarry_85 ?_
            refine j_iaload (f := G 0) dX5_canMarry_86 (hG.a 0 1 0 141 rfl) (by omega) (by decide) ?_
            refine j_goto (tgt := 99) dX5_canMarry_87 (by decide) ?_
            refine j_callV (c5_refuse hG) dX5_canMarry_99 jc_X5_72 jmV_X5_refuse rfl rfl hG.1 rfl rfl (by simp) jfr_nil (Nat.le_of_ble_eq_true rfl) ⟨Nat.le_of_ble_eq_true rfl, Nat.le_of_ble_eq_true rfl⟩ ⟨Nat.le_of_ble_eq_true rfl, Nat.le_of_ble_eq_true rfl⟩ (fun r h36 hp9 => ?_) (fun E h9 q => q.elim)
            obtain ⟨rfl, hG37, hX38⟩ := hp9
            have hE39 := hE0.tr hX38
            refine j_istore_n (L' := [(0, _), (1, _), (2, _), (3, _)]) dX5_canMarry_102 rfl (by decide) rfl ?_
            refine j_iconst dX5_canMarry_103 ?_
            subst hZ
            exact j_ireturn dX5_canMarry_104 rfl rfl (jWi.i ((if_neg c2).trans ((if_neg c10).trans ((if_neg c11).trans ((if_neg c21).trans (if_neg c31))))) hG37 hE39) (Nat.le_refl _) (Nat.le_refl _)
    · refine j_aload_n dX5_canMarry_16 rfl rfl ?_
      refine j_iconst dX5_canMarry_17 ?_
      refine j_iconst dX5_canMarry_18 ?_
      refine j_aload_n dX5_canMarry_19 rfl rfl ?_
      refine j_iload_n dX5_canMarry_20 rfl rfl ?_
      refine j_callV (c5_lives hG (f := (G 0)) rfl hO (by omega)) dX5_canMarry_21 jc_X5_96 jmV_X5_lives rfl rfl hG.1 rfl rfl (by simp) jfr_nil (Nat.le_of_ble_eq_true rfl) ⟨Nat.le_of_ble_eq_true rfl, Nat.le_of_ble_eq_true rfl⟩ ⟨Nat.le_of_ble_eq_true rfl, Nat.le_of_ble_eq_true rfl⟩ (fun r h40 hp9 => ?_) (fun E h9 q => q.elim)
      obtain ⟨rfl, rfl⟩ := hp9
      have hl9 := hO.l p
      refine j_if_eq (tgt := 31) dX5_canMarry_24 (by decide) (by omega) (fun c41 => (False.elim (by omega))) (fun c41 => ?_)
      refine j_iload_n dX5_canMarry_27 rfl rfl ?_
      refine j_goto (tgt := 32) dX5_canMarry_28 (by decide) ?_
      refine j_callV (c5_refuse hG) dX5_canMarry_32 jc_X5_72 jmV_X5_refuse rfl rfl hG.1 rfl rfl (by simp) jfr_nil (Nat.le_of_ble_eq_true rfl) ⟨Nat.le_of_ble_eq_true rfl, Nat.le_of_ble_eq_true rfl⟩ ⟨Nat.le_of_ble_eq_true rfl, Nat.le_of_ble_eq_true rfl⟩ (fun r h42 hp9 => ?_) (fun E h9 q => q.elim)
      obtain ⟨rfl, hG43, hX44⟩ := hp9
      have hE45 := hE0.tr hX44
      refine j_istore_n (L' := [(0, _), (1, _), (2, _), (3, _)]) dX5_canMarry_35 rfl (by decide) rfl ?_
      refine j_iconst dX5_canMarry_36 ?_
      subst hZ
      exact j_ireturn dX5_canMarry_37 rfl rfl (jWi.i ((if_neg c2).trans (if_pos c10)) hG43 hE45) (Nat.le_refl _) (Nat.le_refl _)
def m_doGive (G : fS) (p c : Int) : Int × fS := if (bi (0 ≤ p ∧ p < (G 0) 0)) = 0 then ((m_fails G 1).1, (m_fails G 1).2) else if (bi (1 ≤ c ∧ c ≤ 999)) = 0 then ((m_fails G 2).1, (m_fails G 2).2) else if (mK (G 0) 3 p) = 0 then ((m_refuse G 3 2 p).1, (m_refuse G 3 2 p).2) else ((jfu (jfu (G 0) (53 + p) (((G 0) (53 + p)) + c)) 3 (((jfu (G 0) (53 + p) (((G 0) (53 + p)) + c)) 3) + c)) (53 + p), gs G 0 (jfu (jfu (G 0) (53 + p) (((G 0) (53 + p)) + c)) 3 (((jfu (G 0) (53 + p) (((G 0) (53 + p)) + c)) 3) + c)))
set_option maxHeartbeats 4000000 in
/-- reference: doGive -/
theorem c5_doGive {k : Nat} {G : fS} {f : Int → Int} {B : Int} {h : jH} (hG : jOb sM k G h) (hf : G 0 = f) (hO : jOk B (mK f)) {p c : Int} (hp : -2147483648 ≤ p ∧ p ≤ 2147483647) (hc : -2147483648 ≤ c ∧ c ≤ 2147483647) : jM mX5_doGive 2 0 0 [] [.ref k, iv p, iv c] h (jWi sM k (m_doGive G p c) h) jno := by
  refine j_method (by decide +kernel) rfl (fun _ _ _ => trivial) (Nat.le_of_ble_eq_true rfl) ?_
  generalize hZ : jZ [] 0 0 _ _ = Z
  show J mX5_doGive (jR 2 0 0) [] Z 0 [(0, .ref k), (1, iv p), (2, iv c)] [] h 0 0
  subst hf
  have hn := mK_n hO
  have hb := hO.b
  have hE0 : jEx k 10 h h := jEx.rf
  refine j_aload_n dX5_doGive_0 rfl rfl ?_
  refine j_iload_n dX5_doGive_1 rfl rfl ?_
  refine j_callV (c5_has hG (f := (G 0)) rfl (by omega) (by omega)) dX5_doGive_2 jc_X5_89 jmV_X5_has rfl rfl hG.1 rfl rfl (by simp) jfr_nil (Nat.le_of_ble_eq_true rfl) ⟨Nat.le_of_ble_eq_true rfl, Nat.le_of_ble_eq_true rfl⟩ ⟨Nat.le_of_ble_eq_true rfl, Nat.le_of_ble_eq_true rfl⟩ (fun r h1 hp9 => ?_) (fun E h9 q => q.elim)
  obtain ⟨rfl, rfl⟩ := hp9
  refine j_if_ne (tgt := 14) dX5_doGive_5 (by decide) (bi_r32 _) (fun c2 => ?_) (fun c2 => ?_)
  · have qc2 := bi_nz c2
    refine j_iload_n dX5_doGive_14 rfl rfl ?_
    refine j_iconst dX5_doGive_15 ?_
    refine j_sipush dX5_doGive_16 (by decide +kernel) ?_
    refine j_callS (c5_in (by omega)) dX5_doGive_19 jc_X5_64 jmS_X5_in rfl rfl rfl (by simp) jfr_nil (Nat.le_of_ble_eq_true rfl) ⟨Nat.le_of_ble_eq_true rfl, Nat.le_of_ble_eq_true rfl⟩ ⟨Nat.le_of_ble_eq_true rfl, Nat.le_of_ble_eq_true rfl⟩ (fun r h3 hp9 => ?_) (fun E h9 q => q.elim)
    obtain ⟨rfl, rfl⟩ := hp9
    refine j_if_ne (tgt := 31) dX5_doGive_22 (by decide) (bi_r32 _) (fun c4 => ?_) (fun c4 => ?_)
    · have qc4 := bi_nz c4
      refine j_aload_n dX5_doGive_31 rfl rfl ?_
      refine j_iload_n dX5_doGive_32 rfl rfl ?_
      refine j_callV (c5_lives hG (f := (G 0)) rfl hO (by omega)) dX5_doGive_33 jc_X5_96 jmV_X5_lives rfl rfl hG.1 rfl rfl (by simp) jfr_nil (Nat.le_of_ble_eq_true rfl) ⟨Nat.le_of_ble_eq_true rfl, Nat.le_of_ble_eq_true rfl⟩ ⟨Nat.le_of_ble_eq_true rfl, Nat.le_of_ble_eq_true rfl⟩ (fun r h5 hp9 => ?_) (fun E h9 q => q.elim)
      obtain ⟨rfl, rfl⟩ := hp9
      have hl9 := hO.l p
      refine j_if_ne (tgt := 47) dX5_doGive_36 (by decide) (by omega) (fun c6 => ?_) (fun c6 => ?_)
      · refine j_aload_n dX5_doGive_47 rfl rfl ?_
        refine j_getfield (v := .ref (k + 1)) dX5_doGive_48 jf_X5_9 hG.1 rfl ?_
        refine j_bipush dX5_doGive_51 (by decide +kernel) ?_
        refine j_iload_n dX5_doGive_53 rfl rfl ?_
        refine j_iadd dX5_doGive_54 ?_
        refine j_dup2 dX5_doGive_55 rfl rfl ?_
        refine j_iaload (f := G 0) dX5_doGive_56 (hG.a 0 1 0 141 rfl) (by omega) (by decide) ?_
        refine j_iload_n dX5_doGive_57 rfl rfl ?_
        refine j_iadd dX5_doGive_58 ?_
        refine jo_ias (S := sM) (k := k) dX5_doGive_59 okM hG (i := 0) (p := 1) rfl (by omega) (by decide) (fun h7 hG7 hX7 => ?_)
        have hE8 := hE0.tr hX7
        refine j_aload_n dX5_doGive_60 rfl rfl ?_
        refine j_getfield (v := .ref (k + 1)) dX5_doGive_61 jf_X5_9 hG7.1 rfl ?_
        refine j_iconst dX5_doGive_64 ?_
        refine j_dup2 dX5_doGive_65 rfl rfl ?_
        refine j_iaload (f := jfu (G 0) (53 + p) (((G 0) (53 + p)) + c)) dX5_doGive_66 (hG7.a 0 1 0 141 rfl) (by omega) (by decide) ?_
        refine j_iload_n dX5_doGive_67 rfl rfl ?_
        refine j_iadd dX5_doGive_68 ?_
        refine jo_ias (S := sM) (k := k) dX5_doGive_69 okM hG7 (i := 0) (p := 1) rfl (by omega) (by decide) (fun h9 hG9 hX9 => ?_)
        have hE10 := hE8.tr hX9
        have hG11 : jOb sM k (gs G 0 (jfu (jfu (G 0) (53 + p) (((G 0) (53 + p)) + c)) 3 (((jfu (G 0) (53 + p) (((G 0) (53 + p)) + c)) 3) + c))) h9 := Eq.mp (congrArg (fun z => jOb sM k z _) gs_gs) hG9
        refine j_aload_n dX5_doGive_70 rfl rfl ?_
        refine j_getfield (v := .ref (k + 1)) dX5_doGive_71 jf_X5_9 hG11.1 rfl ?_
        refine j_bipush dX5_doGive_74 (by decide +kernel) ?_
        refine j_iload_n dX5_doGive_76 rfl rfl ?_
        refine j_iadd dX5_doGive_77 ?_
        refine j_iaload (f := jfu (jfu (G 0) (53 + p) (((G 0) (53 + p)) + c)) 3 (((jfu (G 0) (53 + p) (((G 0) (53 + p)) + c)) 3) + c)) dX5_doGive_78 (hG11.a 0 1 0 141 rfl) (by omega) (by decide) ?_
        subst hZ
        exact j_ireturn dX5_doGive_79 rfl rfl (jWi.i ((if_neg c2).trans ((if_neg c4).trans (if_neg c6))) hG11 hE10) (Nat.le_refl _) (Nat.le_refl _)
      · refine j_aload_n dX5_doGive_39 rfl rfl ?_
        refine j_iconst dX5_doGive_40 ?_
        refine j_iconst dX5_doGive_41 ?_
        refine j_iload_n dX5_doGive_42 rfl rfl ?_
        refine j_callV (c5_refuse hG) dX5_doGive_43 jc_X5_72 jmV_X5_refuse rfl rfl hG.1 rfl rfl (by simp) jfr_nil (Nat.le_of_ble_eq_true rfl) ⟨Nat.le_of_ble_eq_true rfl, Nat.le_of_ble_eq_true rfl⟩ ⟨Nat.le_of_ble_eq_true rfl, Nat.le_of_ble_eq_true rfl⟩ (fun r h12 hp9 => ?_) (fun E h9 q => q.elim)
        obtain ⟨rfl, hG13, hX14⟩ := hp9
        have hE15 := hE0.tr hX14
        subst hZ
        exact j_ireturn dX5_doGive_46 rfl rfl (jWi.i ((if_neg c2).trans ((if_neg c4).trans (if_pos c6))) hG13 hE15) (Nat.le_refl _) (Nat.le_refl _)
    · have qc4 := bi_z c4
      refine j_aload_n dX5_doGive_25 rfl rfl ?_
      refine j_iconst dX5_doGive_26 ?_
      refine j_callV (c5_fails hG) dX5_doGive_27 jc_X5_93 jmV_X5_fails rfl rfl hG.1 rfl rfl (by simp) jfr_nil (Nat.le_of_ble_eq_true rfl) ⟨Nat.le_of_ble_eq_true rfl, Nat.le_of_ble_eq_true rfl⟩ ⟨Nat.le_of_ble_eq_true rfl, Nat.le_of_ble_eq_true rfl⟩ (fun r h16 hp9 => ?_) (fun E h9 q => q.elim)
      obtain ⟨rfl, hG17, hX18⟩ := hp9
      have hE19 := hE0.tr hX18
      subst hZ
      exact j_ireturn dX5_doGive_30 rfl rfl (jWi.i ((if_neg c2).trans (if_pos c4)) hG17 hE19) (Nat.le_refl _) (Nat.le_refl _)
  · have qc2 := bi_z c2
    refine j_aload_n dX5_doGive_8 rfl rfl ?_
    refine j_iconst dX5_doGive_9 ?_
    refine j_callV (c5_fails hG) dX5_doGive_10 jc_X5_93 jmV_X5_fails rfl rfl hG.1 rfl rfl (by simp) jfr_nil (Nat.le_of_ble_eq_true rfl) ⟨Nat.le_of_ble_eq_true rfl, Nat.le_of_ble_eq_true rfl⟩ ⟨Nat.le_of_ble_eq_true rfl, Nat.le_of_ble_eq_true rfl⟩ (fun r h20 hp9 => ?_) (fun E h9 q => q.elim)
    obtain ⟨rfl, hG21, hX22⟩ := hp9
    have hE23 := hE0.tr hX22
    subst hZ
    exact j_ireturn dX5_doGive_13 rfl rfl (jWi.i (if_pos c2) hG21 hE23) (Nat.le_refl _) (Nat.le_refl _)
theorem up_mu {B : Int} {F : fS} (hO : jOk B F) (hA : fAc F) {x : Int} (hx : x ≠ -1) : (if F 0 x = -1 then 0 else 1 + fdep F (F 0 x)).toNat < (if x = -1 then 0 else 1 + fdep F x).toNat := by
  have h8 := fdep_rg F x
  rw [if_neg hx]
  split
  · omega
  · rename_i q9
    have := fdep_st hO hA q9
    have h7 := fdep_rg F (F 0 x)
    omega
theorem fel_k {F : fS} (h : F 0 (-1) = -1) : ∀ (k : Nat) (x : Int), upk (F 0) k x = -1 → fel F (k + 1) x = fel F k x
  | 0, x, hx => by
    have : x = -1 := hx
    rw [this]
    rfl
  | k + 1, x, hx => by
    by_cases h1 : x = -1 ∨ F 3 x ≠ 0
    · rw [fel_e h1, fel_e h1]
    · rw [fel_st h1, fel_st h1]
      exact fel_k h k (F 0 x) hx
/-- who would be the heir -/
def fhe (F : fS) (p : Int) : Int := match (des F 24 p).find? (fun x => decide (F 3 x ≠ 0)) with
  | some x => x
  | none => if F 1 p < 0 then fne F p else F 1 p
theorem fhe_s {F : fS} {p x : Int} (h : (des F 24 p).find? (fun x => decide (F 3 x ≠ 0)) = some x) : fhe F p = x := by
  unfold fhe
  rw [h]
theorem fhe_n {F : fS} {p : Int} (h : (des F 24 p).find? (fun x => decide (F 3 x ≠ 0)) = none) : fhe F p = if F 1 p < 0 then fne F p else F 1 p := by
  unfold fhe
  rw [h]
theorem des_in {F : fS} {k : Nat} {p x : Int} {i : Nat} (h : (des F k p)[i]? = some x) : 0 ≤ x ∧ x < F 6 0 := by
  obtain ⟨_, _, _, a⟩ := des_up k p (List.mem_of_getElem? h)
  exact a
theorem drop_at {l : List Int} {i : Nat} {x : Int} (h : l[i]? = some x) : l.drop i = x :: l.drop (i + 1) := by
  have hi := (List.getElem?_eq_some_iff.mp h).1
  rw [List.drop_eq_getElem_cons hi, (List.getElem?_eq_some_iff.mp h).2]
set_option maxHeartbeats 4000000 in
/-- reference: heirOf -/
theorem c5_heirOf {k : Nat} {G : fS} {f : Int → Int} {B : Int} {h : jH} (hG : jOb sM k G h) (hf : G 0 = f) (hO : jOk B (mK f)) (hA : fAc (mK f)) {p : Int} (hp : 0 ≤ p ∧ p < f 0) : jM mX5_heirOf 31 0 0 [] [.ref k, iv p] h (jWi sM k (fhe (mK f) p, m_rows G p) h) jno := by
  refine j_method (by decide +kernel) rfl (fun _ _ _ => trivial) (Nat.le_of_ble_eq_true rfl) ?_
  generalize hZ : jZ [] 0 0 _ _ = Z
  show J mX5_heirOf (jR 31 0 0) [] Z 0 [(0, .ref k), (1, iv p)] [] h 0 0
  subst hf
  have hn := mK_n hO
  have hb := hO.b
  have e1 := mK_1 hp
  have e3 : -1 ≤ mK (G 0) 1 p ∧ mK (G 0) 1 p < G 0 0 := hO.s p
  have hE0 : jEx k 10 h h := jEx.rf
  refine j_aload_n dX5_heirOf_0 rfl rfl ?_
  refine j_iload_n dX5_heirOf_1 rfl rfl ?_
  refine j_callV (c5_rows hG (show _ = G 0 from rfl) hO hA (by omega)) dX5_heirOf_2 jc_X5_144 jmV_X5_rows rfl rfl hG.1 rfl rfl (by simp) jfr_nil (Nat.le_of_ble_eq_true rfl) ⟨Nat.le_of_ble_eq_true rfl, Nat.le_of_ble_eq_true rfl⟩ ⟨Nat.le_of_ble_eq_true rfl, Nat.le_of_ble_eq_true rfl⟩ (fun r h1 hp9 => ?_) (fun E h9 q => q.elim)
  obtain ⟨rfl, hG2, hX3⟩ := hp9
  have hE4 := hE0.tr hX3
  have hln : (des (mK (G 0)) 24 p).length ≤ 24 := des_len hO hA 24 (by omega)
  refine j_iconst dX5_heirOf_5 ?_
  refine j_istore_n (L' := [(0, _), (1, _), (2, _)]) dX5_heirOf_6 rfl (by decide) rfl ?_
  refine jloop (P := fun z9 : Int => J mX5_heirOf (jR 31 0 0) [] Z 7 [(0, .ref k), (1, iv p), (2, iv z9)] [] h1 0 0) (fun z9 => 0 ≤ z9 ∧ z9 ≤ ((des (mK (G 0)) 24 p).length : Int) ∧ (des (mK (G 0)) 24 p).find? (fun x => decide (mK (G 0) 3 x ≠ 0)) = ((des (mK (G 0)) 24 p).drop z9.toNat).find? (fun x => decide (mK (G 0) 3 x ≠ 0))) (fun z9 => (((des (mK (G 0)) 24 p).length : Int) - z9).toNat) ?_ 0 ?_
  · rintro i hinv ih
    obtain ⟨i1, i2, i3⟩ := hinv
    refine j_iload_n dX5_heirOf_7 rfl rfl ?_
    refine j_aload_n dX5_heirOf_8 rfl rfl ?_
    refine j_getfield (v := iv ((0 : Int) + ((des (mK (G 0)) 24 p).length : Int))) dX5_heirOf_9 jf_X5_137 hG2.1 rfl ?_
    refine j_icmp_ge (tgt := 41) dX5_heirOf_12 (by decide) (by omega) (fun c5 => ?_) (fun c5 => ?_)
    · refine j_aload_n dX5_heirOf_41 rfl rfl ?_
      refine j_getfield (v := .ref (k + 1)) dX5_heirOf_42 jf_X5_9 hG2.1 rfl ?_
      refine j_bipush dX5_heirOf_45 (by decide +kernel) ?_
      refine j_iload_n dX5_heirOf_47 rfl rfl ?_
      refine j_iadd dX5_heirOf_48 ?_
      refine j_iaload (f := G 0) dX5_heirOf_49 (hG2.a 0 1 0 141 rfl) (by omega) (by decide) ?_
      refine j_if_lt (tgt := 63) dX5_heirOf_50 (by decide) (by omega) (fun c6 => ?_) (fun c6 => ?_)
      · refine j_aload_n dX5_heirOf_63 rfl rfl ?_
        refine j_iload_n dX5_heirOf_64 rfl rfl ?_
        refine j_callV (c5_parent hG2 (f := (G 0)) rfl hO (by omega)) dX5_heirOf_65 jc_X5_68 jmV_X5_parent rfl rfl hG2.1 rfl rfl (by simp) jfr_nil (Nat.le_of_ble_eq_true rfl) ⟨Nat.le_of_ble_eq_true rfl, Nat.le_of_ble_eq_true rfl⟩ ⟨Nat.le_of_ble_eq_true rfl, Nat.le_of_ble_eq_true rfl⟩ (fun r h7 hp9 => ?_) (fun E h9 q => q.elim)
        obtain ⟨rfl, rfl⟩ := hp9
        have hpp9 : -1 ≤ mK (G 0) 0 p ∧ mK (G 0) 0 p < (G 0) 0 := hO.p p
        refine j_istore_n (L' := [(0, _), (1, _), (2, _)]) dX5_heirOf_68 rfl (by decide) rfl ?_
        refine jloop (P := fun z9 : Int => J mX5_heirOf (jR 31 0 0) [] Z 69 [(0, .ref k), (1, iv p), (2, iv z9)] [] h1 0 0) (fun z9 => -1 ≤ z9 ∧ z9 < G 0 0 ∧ fne (mK (G 0)) p = fel (mK (G 0)) 24 z9) (fun z9 => (if z9 = -1 then 0 else 1 + fdep (mK (G 0)) z9).toNat) ?_ (mK (G 0) 0 p) ?_
        · rintro x hinv2 ih2
          obtain ⟨j1, j2, j3⟩ := hinv2
          have hx9 : _ ∧ _ < G 0 0 := hO.p x
          have hx8 := fdep_rg (mK (G 0)) x
          refine j_iload_n dX5_heirOf_69 rfl rfl ?_
          refine j_if_lt (tgt := 90) dX5_heirOf_70 (by decide) (by omega) (fun c8 => ?_) (fun c8 => ?_)
          · refine j_iload_n dX5_heirOf_90 rfl rfl ?_
            subst hZ
            exact j_ireturn dX5_heirOf_91 rfl rfl (jWi.i (by have e9 : (des (mK (G 0)) 24 p).find? (fun x => decide (mK (G 0) 3 x ≠ 0)) = none := (by rw [i3, List.drop_eq_nil_of_le (by omega)]; rfl); rw [fhe_n e9, if_pos (by omega), j3]; exact congrArg (fun z => (z, _)) (fel_e (by omega) 24)) hG2 hE4) (Nat.le_refl _) (Nat.le_refl _)
          · refine j_aload_n dX5_heirOf_73 rfl rfl ?_
            refine j_iload_n dX5_heirOf_74 rfl rfl ?_
            refine j_callV (c5_lives hG2 (f := (G 0)) rfl hO (by omega)) dX5_heirOf_75 jc_X5_96 jmV_X5_lives rfl rfl hG2.1 rfl rfl (by simp) jfr_nil (Nat.le_of_ble_eq_true rfl) ⟨Nat.le_of_ble_eq_true rfl, Nat.le_of_ble_eq_true rfl⟩ ⟨Nat.le_of_ble_eq_true rfl, Nat.le_of_ble_eq_true rfl⟩ (fun r h9 hp9 => ?_) (fun E h9 q => q.elim)
            obtain ⟨rfl, rfl⟩ := hp9
            have hl9 := hO.l x
            refine j_if_ne (tgt := 90) dX5_heirOf_78 (by decide) (by omega) (fun c10 => ?_) (fun c10 => ?_)
            · refine j_iload_n dX5_heirOf_90 rfl rfl ?_
              subst hZ
              exact j_ireturn dX5_heirOf_91 rfl rfl (jWi.i (by have e9 : (des (mK (G 0)) 24 p).find? (fun x => decide (mK (G 0) 3 x ≠ 0)) = none := (by rw [i3, List.drop_eq_nil_of_le (by omega)]; rfl); rw [fhe_n e9, if_pos (by omega), j3]; exact congrArg (fun z => (z, _)) (fel_e (by omega) 24)) hG2 hE4) (Nat.le_refl _) (Nat.le_refl _)
            · refine j_aload_n dX5_heirOf_81 rfl rfl ?_
              refine j_iload_n dX5_heirOf_82 rfl rfl ?_
              refine j_callV (c5_parent hG2 (f := (G 0)) rfl hO (by omega)) dX5_heirOf_83 jc_X5_68 jmV_X5_parent rfl rfl hG2.1 rfl rfl (by simp) jfr_nil (Nat.le_of_ble_eq_true rfl) ⟨Nat.le_of_ble_eq_true rfl, Nat.le_of_ble_eq_true rfl⟩ ⟨Nat.le_of_ble_eq_true rfl, Nat.le_of_ble_eq_true rfl⟩ (fun r h11 hp9 => ?_) (fun E h9 q => q.elim)
              obtain ⟨rfl, rfl⟩ := hp9
              have hpp9 : -1 ≤ mK (G 0) 0 x ∧ mK (G 0) 0 x < (G 0) 0 := hO.p x
              refine j_istore_n (L' := [(0, _), (1, _), (2, _)]) dX5_heirOf_86 rfl (by decide) rfl ?_
              refine j_goto (tgt := 69) dX5_heirOf_87 (by decide) ?_
              have e9 : fel (mK (G 0)) 24 x = fel (mK (G 0)) 24 (mK (G 0) 0 x) := by rw [← fel_k hO.par1 24 x (hA x)]; exact fel_st (by omega)
              have hm := up_mu hO hA (x := x) (by omega)
              exact ih2 (mK (G 0) 0 x) ⟨by omega, by omega, by rw [j3, e9]⟩ hm
        · exact ⟨(hO.p p).1, (hO.p p).2, rfl⟩
      · refine j_aload_n dX5_heirOf_53 rfl rfl ?_
        refine j_getfield (v := .ref (k + 1)) dX5_heirOf_54 jf_X5_9 hG2.1 rfl ?_
        refine j_bipush dX5_heirOf_57 (by decide +kernel) ?_
        refine j_iload_n dX5_heirOf_59 rfl rfl ?_
        refine j_iadd dX5_heirOf_60 ?_
        refine j_iaload (f := G 0) dX5_heirOf_61 (hG2.a 0 1 0 141 rfl) (by omega) (by decide) ?_
        subst hZ
        exact j_ireturn dX5_heirOf_62 rfl rfl (jWi.i (by have e9 : (des (mK (G 0)) 24 p).find? (fun x => decide (mK (G 0) 3 x ≠ 0)) = none := (by rw [i3, List.drop_eq_nil_of_le (by omega)]; rfl); rw [fhe_n e9, if_neg (by omega), e1]) hG2 hE4) (Nat.le_refl _) (Nat.le_refl _)
    · have ⟨y, hx9⟩ : ∃ y, (des (mK (G 0)) 24 p)[i.toNat]? = some y := ⟨_, List.getElem?_eq_getElem (by omega)⟩
      have hy8 : 0 ≤ y ∧ y < G 0 0 := des_in hx9
      have hy7 : jwl (G 10) 0 (des (mK (G 0)) 24 p) i = y := by have q9 := jwl_at (des (mK (G 0)) 24 p) 0 (G 10) i.toNat y hx9; rw [show (0 : Int) + (i.toNat : Int) = i by omega] at q9; exact q9
      have hy6 := hO.l y
      refine j_aload_n dX5_heirOf_15 rfl rfl ?_
      refine j_aload_n dX5_heirOf_16 rfl rfl ?_
      refine j_getfield (v := .ref (k + 5)) dX5_heirOf_17 jf_X5_22 hG2.1 rfl ?_
      refine j_iload_n dX5_heirOf_20 rfl rfl ?_
      refine j_iaload (f := jwl (G 10) 0 (des (mK (G 0)) 24 p)) dX5_heirOf_21 (hG2.a 10 5 0 24 rfl) (by omega) (by decide) ?_
      refine j_callV (c5_lives hG2 (f := (G 0)) rfl hO (by rw [hy7]; exact hy8)) dX5_heirOf_22 jc_X5_96 jmV_X5_lives rfl rfl hG2.1 rfl rfl (by simp) jfr_nil (Nat.le_of_ble_eq_true rfl) ⟨Nat.le_of_ble_eq_true rfl, Nat.le_of_ble_eq_true rfl⟩ ⟨Nat.le_of_ble_eq_true rfl, Nat.le_of_ble_eq_true rfl⟩ (fun r h12 hp9 => ?_) (fun E h9 q => q.elim)
      obtain ⟨rfl, rfl⟩ := hp9
      have hl9 := hO.l ((jwl (G 10) 0 (des (mK (G 0)) 24 p)) i)
      refine j_if_eq (tgt := 35) dX5_heirOf_25 (by decide) (by omega) (fun c13 => ?_) (fun c13 => ?_)
      · refine j_iinc (L' := [(0, _), (1, _), (2, _)]) dX5_heirOf_35 rfl (by decide) rfl ?_
        refine j_goto (tgt := 7) dX5_heirOf_38 (by decide) ?_
        have c9 : mK (G 0) 3 y = 0 := by rw [← hy7]; exact c13
        rw [drop_at hx9, List.find?_cons_of_neg (by simpa using c9)] at i3
        exact ih (i + 1) ⟨by omega, by omega, by rw [i3, show (i + 1).toNat = i.toNat + 1 by omega]⟩ (by omega)
      · refine j_aload_n dX5_heirOf_28 rfl rfl ?_
        refine j_getfield (v := .ref (k + 5)) dX5_heirOf_29 jf_X5_22 hG2.1 rfl ?_
        refine j_iload_n dX5_heirOf_32 rfl rfl ?_
        refine j_iaload (f := jwl (G 10) 0 (des (mK (G 0)) 24 p)) dX5_heirOf_33 (hG2.a 10 5 0 24 rfl) (by omega) (by decide) ?_
        subst hZ
        exact j_ireturn dX5_heirOf_34 rfl rfl (jWi.i (by rw [hy7] at *; rw [fhe_s (by rw [i3, drop_at hx9]; exact List.find?_cons_of_pos (by simpa using c13))]) hG2 hE4) (Nat.le_refl _) (Nat.le_refl _)
  · exact ⟨by omega, by omega, rfl⟩
