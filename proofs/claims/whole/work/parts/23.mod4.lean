theorem j_tabIn {M : jMe} {R : Room} {nw : List Nat} {Z : jFin} {pc : Nat} {L : List (Nat × Value)} {st : List Value} {h : jH} {nc ns len tgt : Nat} {dflt lo hi off x : Int} {offs : Array Int} (v : Int) (hd : decode M.2.1 pc = .ok (.tableswitch dflt lo hi offs, len)) (hx : x = v) (hr : -2147483648 ≤ v ∧ v ≤ 2147483647) (h1 : ¬ v < lo) (h2 : ¬ hi < v) (ho : offs[(v - lo).toNat]? = some off) (ht : (pc : Int) + off = (tgt : Int)) (k : J M R nw Z tgt L st h nc ns) : J M R nw Z pc L (iv x :: st) h nc ns := by
  subst hx
  exact k.of fun _ _ _ _ _ _ _ _ _ _ _ _ _ _ hx hb _ w => lv_tableIn hx hb hd (by rw [j_toI hr]; exact h1) (by rw [j_toI hr]; exact h2) (by rw [j_toI hr]; exact ho) ht w
theorem j_tabOut {M : jMe} {R : Room} {nw : List Nat} {Z : jFin} {pc : Nat} {L : List (Nat × Value)} {st : List Value} {h : jH} {nc ns len tgt : Nat} {dflt lo hi x : Int} {offs : Array Int} (hd : decode M.2.1 pc = .ok (.tableswitch dflt lo hi offs, len)) (hx : x < lo ∨ hi < x) (hr : -2147483648 ≤ x ∧ x ≤ 2147483647) (ht : (pc : Int) + dflt = (tgt : Int)) (k : J M R nw Z tgt L st h nc ns) : J M R nw Z pc L (iv x :: st) h nc ns :=
  k.of fun _ _ _ _ _ _ _ _ _ _ _ _ _ _ hx2 hb _ w => lv_tableOut hx2 hb hd (by rw [j_toI hr]; exact hx) ht w
def m_comes (G : fS) (a : Int) : Int × fS := ((G 0) 0, gs (gs (gs (gs (gs G 0 (jfu (G 0) (5 + ((G 0) 0)) a)) 0 (jfu (jfu (G 0) (5 + ((G 0) 0)) a) (29 + ((G 0) 0)) (-1))) 0 (jfu (jfu (jfu (G 0) (5 + ((G 0) 0)) a) (29 + ((G 0) 0)) (-1)) (53 + ((G 0) 0)) 0)) 0 (jfu (jfu (jfu (jfu (G 0) (5 + ((G 0) 0)) a) (29 + ((G 0) 0)) (-1)) (53 + ((G 0) 0)) 0) (77 + ((G 0) 0)) 1)) 0 (jfu (jfu (jfu (jfu (jfu (G 0) (5 + ((G 0) 0)) a) (29 + ((G 0) 0)) (-1)) (53 + ((G 0) 0)) 0) (77 + ((G 0) 0)) 1) 0 (((jfu (jfu (jfu (jfu (G 0) (5 + ((G 0) 0)) a) (29 + ((G 0) 0)) (-1)) (53 + ((G 0) 0)) 0) (77 + ((G 0) 0)) 1) 0) + 1)))
set_option maxHeartbeats 4000000 in
/-- reference: comes -/
theorem c5_comes {k : Nat} {G : fS} {h : jH} (hG : jOb sM k G h) {a : Int} (hn : 0 ≤ G 0 0 ∧ G 0 0 < 24) : jM mX5_comes 1 0 0 [] [.ref k, iv a] h (jWi sM k (m_comes G a) h) jno := by
  refine j_method (by decide +kernel) rfl (fun _ _ _ => trivial) (Nat.le_of_ble_eq_true rfl) ?_
  generalize hZ : jZ [] 0 0 _ _ = Z
  show J mX5_comes (jR 1 0 0) [] Z 0 [(0, .ref k), (1, iv a)] [] h 0 0
  have hE0 : jEx k 10 h h := jEx.rf
  refine j_aload_n dX5_comes_0 rfl rfl ?_
  refine j_getfield (v := .ref (k + 1)) dX5_comes_1 jf_X5_9 hG.1 rfl ?_
  refine j_iconst dX5_comes_4 ?_
  refine j_iaload (f := G 0) dX5_comes_5 (hG.a 0 1 0 141 rfl) (by omega) (by decide) ?_
  refine j_istore_n (L' := [(0, _), (1, _), (2, _)]) dX5_comes_6 rfl (by decide) rfl ?_
  refine j_aload_n dX5_comes_7 rfl rfl ?_
  refine j_getfield (v := .ref (k + 1)) dX5_comes_8 jf_X5_9 hG.1 rfl ?_
  refine j_iconst dX5_comes_11 ?_
  refine j_iload_n dX5_comes_12 rfl rfl ?_
  refine j_iadd dX5_comes_13 ?_
  refine j_iload_n dX5_comes_14 rfl rfl ?_
  refine jo_ias (S := sM) (k := k) dX5_comes_15 okM hG (i := 0) (p := 1) rfl (by omega) (by decide) (fun h1 hG1 hX1 => ?_)
  have hE2 := hE0.tr hX1
  refine j_aload_n dX5_comes_16 rfl rfl ?_
  refine j_getfield (v := .ref (k + 1)) dX5_comes_17 jf_X5_9 hG1.1 rfl ?_
  refine j_bipush dX5_comes_20 (by decide +kernel) ?_
  refine j_iload_n dX5_comes_22 rfl rfl ?_
  refine j_iadd dX5_comes_23 ?_
  refine j_iconst dX5_comes_24 ?_
  refine jo_ias (S := sM) (k := k) dX5_comes_25 okM hG1 (i := 0) (p := 1) rfl (by omega) (by decide) (fun h3 hG3 hX3 => ?_)
  have hE4 := hE2.tr hX3
  refine j_aload_n dX5_comes_26 rfl rfl ?_
  refine j_getfield (v := .ref (k + 1)) dX5_comes_27 jf_X5_9 hG3.1 rfl ?_
  refine j_bipush dX5_comes_30 (by decide +kernel) ?_
  refine j_iload_n dX5_comes_32 rfl rfl ?_
  refine j_iadd dX5_comes_33 ?_
  refine j_iconst dX5_comes_34 ?_
  refine jo_ias (S := sM) (k := k) dX5_comes_35 okM hG3 (i := 0) (p := 1) rfl (by omega) (by decide) (fun h5 hG5 hX5 => ?_)
  have hE6 := hE4.tr hX5
  refine j_aload_n dX5_comes_36 rfl rfl ?_
  refine j_getfield (v := .ref (k + 1)) dX5_comes_37 jf_X5_9 hG5.1 rfl ?_
  refine j_bipush dX5_comes_40 (by decide +kernel) ?_
  refine j_iload_n dX5_comes_42 rfl rfl ?_
  refine j_iadd dX5_comes_43 ?_
  refine j_iconst dX5_comes_44 ?_
  refine jo_ias (S := sM) (k := k) dX5_comes_45 okM hG5 (i := 0) (p := 1) rfl (by omega) (by decide) (fun h7 hG7 hX7 => ?_)
  have hE8 := hE6.tr hX7
  refine j_aload_n dX5_comes_46 rfl rfl ?_
  refine j_getfield (v := .ref (k + 1)) dX5_comes_47 jf_X5_9 hG7.1 rfl ?_
  refine j_iconst dX5_comes_50 ?_
  refine j_dup2 dX5_comes_51 rfl rfl ?_
  refine j_iaload (f := jfu (jfu (jfu (jfu (G 0) (5 + ((G 0) 0)) a) (29 + ((G 0) 0)) (-1)) (53 + ((G 0) 0)) 0) (77 + ((G 0) 0)) 1) dX5_comes_52 (hG7.a 0 1 0 141 rfl) (by omega) (by decide) ?_
  refine j_iconst dX5_comes_53 ?_
  refine j_iadd dX5_comes_54 ?_
  refine jo_ias (S := sM) (k := k) dX5_comes_55 okM hG7 (i := 0) (p := 1) rfl (by omega) (by decide) (fun h9 hG9 hX9 => ?_)
  have hE10 := hE8.tr hX9
  refine j_iload_n dX5_comes_56 rfl rfl ?_
  subst hZ
  exact j_ireturn dX5_comes_57 rfl rfl (jWi.i rfl hG9 hE10) (Nat.le_refl _) (Nat.le_refl _)
def m_doFound (G : fS) : Int × fS := if ((G 0) 0) = 24 then ((m_refuse G 1 1 24).1, (m_refuse G 1 1 24).2) else ((m_comes G (-1)).1, (m_comes G (-1)).2)
set_option maxHeartbeats 4000000 in
/-- reference: doFound -/
theorem c5_doFound {k : Nat} {G : fS} {h : jH} (hG : jOb sM k G h) (hn : 0 ≤ G 0 0 ∧ G 0 0 ≤ 24) : jM mX5_doFound 2 0 0 [] [.ref k] h (jWi sM k (m_doFound G) h) jno := by
  refine j_method (by decide +kernel) rfl (fun _ _ _ => trivial) (Nat.le_of_ble_eq_true rfl) ?_
  generalize hZ : jZ [] 0 0 _ _ = Z
  show J mX5_doFound (jR 2 0 0) [] Z 0 [(0, .ref k)] [] h 0 0
  have hE0 : jEx k 10 h h := jEx.rf
  refine j_aload_n dX5_doFound_0 rfl rfl ?_
  refine j_getfield (v := .ref (k + 1)) dX5_doFound_1 jf_X5_9 hG.1 rfl ?_
  refine j_iconst dX5_doFound_4 ?_
  refine j_iaload (f := G 0) dX5_doFound_5 (hG.a 0 1 0 141 rfl) (by omega) (by decide) ?_
  refine j_bipush dX5_doFound_6 (by decide +kernel) ?_
  refine j_icmp_ne (tgt := 22) dX5_doFound_8 (by decide) (by omega) (fun c1 => ?_) (fun c1 => ?_)
  · refine j_aload_n dX5_doFound_22 rfl rfl ?_
    refine j_iconst dX5_doFound_23 ?_
    refine j_callV (c5_comes hG (by omega)) dX5_doFound_24 jc_X5_76 jmV_X5_comes rfl rfl hG.1 rfl rfl (by simp) jfr_nil (Nat.le_of_ble_eq_true rfl) ⟨Nat.le_of_ble_eq_true rfl, Nat.le_of_ble_eq_true rfl⟩ ⟨Nat.le_of_ble_eq_true rfl, Nat.le_of_ble_eq_true rfl⟩ (fun r h2 hp9 => ?_) (fun E h9 q => q.elim)
    obtain ⟨rfl, hG3, hX4⟩ := hp9
    have hE5 := hE0.tr hX4
    subst hZ
    exact j_ireturn dX5_doFound_27 rfl rfl (jWi.i (if_neg c1) hG3 hE5) (Nat.le_refl _) (Nat.le_refl _)
  · refine j_aload_n dX5_doFound_11 rfl rfl ?_
    refine j_iconst dX5_doFound_12 ?_
    refine j_iconst dX5_doFound_13 ?_
    refine j_bipush dX5_doFound_14 (by decide +kernel) ?_
    refine j_callV (c5_refuse hG) dX5_doFound_16 jc_X5_72 jmV_X5_refuse rfl rfl hG.1 rfl rfl (by simp) jfr_nil (Nat.le_of_ble_eq_true rfl) ⟨Nat.le_of_ble_eq_true rfl, Nat.le_of_ble_eq_true rfl⟩ ⟨Nat.le_of_ble_eq_true rfl, Nat.le_of_ble_eq_true rfl⟩ (fun r h6 hp9 => ?_) (fun E h9 q => q.elim)
    obtain ⟨rfl, hG7, hX8⟩ := hp9
    have hE9 := hE0.tr hX8
    refine j_goto (tgt := 27) dX5_doFound_19 (by decide) ?_
    subst hZ
    exact j_ireturn dX5_doFound_27 rfl rfl (jWi.i (if_pos c1) hG7 hE9) (Nat.le_refl _) (Nat.le_refl _)
def m_doBorn (G : fS) (p : Int) : Int × fS := if (bi (0 ≤ p ∧ p < (G 0) 0)) = 0 then ((m_fails G 1).1, (m_fails G 1).2) else if (mK (G 0) 3 p) = 0 then ((m_refuse G 2 2 p).1, (m_refuse G 2 2 p).2) else if ((G 0) 0) = 24 then ((m_refuse G 2 1 24).1, (m_refuse G 2 1 24).2) else ((m_comes G p).1, (m_comes G p).2)
set_option maxHeartbeats 4000000 in
/-- reference: doBorn -/
theorem c5_doBorn {k : Nat} {G : fS} {f : Int → Int} {B : Int} {h : jH} (hG : jOb sM k G h) (hf : G 0 = f) (hO : jOk B (mK f)) {p : Int} (hp : -2147483648 ≤ p ∧ p ≤ 2147483647) : jM mX5_doBorn 2 0 0 [] [.ref k, iv p] h (jWi sM k (m_doBorn G p) h) jno := by
  refine j_method (by decide +kernel) rfl (fun _ _ _ => trivial) (Nat.le_of_ble_eq_true rfl) ?_
  generalize hZ : jZ [] 0 0 _ _ = Z
  show J mX5_doBorn (jR 2 0 0) [] Z 0 [(0, .ref k), (1, iv p)] [] h 0 0
  subst hf
  have hn := mK_n hO
  have hb := hO.b
  have hE0 : jEx k 10 h h := jEx.rf
  refine j_aload_n dX5_doBorn_0 rfl rfl ?_
  refine j_iload_n dX5_doBorn_1 rfl rfl ?_
  refine j_callV (c5_has hG (f := (G 0)) rfl (by omega) (by omega)) dX5_doBorn_2 jc_X5_89 jmV_X5_has rfl rfl hG.1 rfl rfl (by simp) jfr_nil (Nat.le_of_ble_eq_true rfl) ⟨Nat.le_of_ble_eq_true rfl, Nat.le_of_ble_eq_true rfl⟩ ⟨Nat.le_of_ble_eq_true rfl, Nat.le_of_ble_eq_true rfl⟩ (fun r h1 hp9 => ?_) (fun E h9 q => q.elim)
  obtain ⟨rfl, rfl⟩ := hp9
  refine j_if_ne (tgt := 14) dX5_doBorn_5 (by decide) (bi_r32 _) (fun c2 => ?_) (fun c2 => ?_)
  · have qc2 := bi_nz c2
    refine j_aload_n dX5_doBorn_14 rfl rfl ?_
    refine j_iload_n dX5_doBorn_15 rfl rfl ?_
    refine j_callV (c5_lives hG (f := (G 0)) rfl hO (by omega)) dX5_doBorn_16 jc_X5_96 jmV_X5_lives rfl rfl hG.1 rfl rfl (by simp) jfr_nil (Nat.le_of_ble_eq_true rfl) ⟨Nat.le_of_ble_eq_true rfl, Nat.le_of_ble_eq_true rfl⟩ ⟨Nat.le_of_ble_eq_true rfl, Nat.le_of_ble_eq_true rfl⟩ (fun r h3 hp9 => ?_) (fun E h9 q => q.elim)
    obtain ⟨rfl, rfl⟩ := hp9
    have hl9 := hO.l p
    refine j_if_ne (tgt := 30) dX5_doBorn_19 (by decide) (by omega) (fun c4 => ?_) (fun c4 => ?_)
    · refine j_aload_n dX5_doBorn_30 rfl rfl ?_
      refine j_getfield (v := .ref (k + 1)) dX5_doBorn_31 jf_X5_9 hG.1 rfl ?_
      refine j_iconst dX5_doBorn_34 ?_
      refine j_iaload (f := G 0) dX5_doBorn_35 (hG.a 0 1 0 141 rfl) (by omega) (by decide) ?_
      refine j_bipush dX5_doBorn_36 (by decide +kernel) ?_
      refine j_icmp_ne (tgt := 52) dX5_doBorn_38 (by decide) (by omega) (fun c5 => ?_) (fun c5 => ?_)
      · refine j_aload_n dX5_doBorn_52 rfl rfl ?_
        refine j_iload_n dX5_doBorn_53 rfl rfl ?_
        refine j_callV (c5_comes hG (by omega)) dX5_doBorn_54 jc_X5_76 jmV_X5_comes rfl rfl hG.1 rfl rfl (by simp) jfr_nil (Nat.le_of_ble_eq_true rfl) ⟨Nat.le_of_ble_eq_true rfl, Nat.le_of_ble_eq_true rfl⟩ ⟨Nat.le_of_ble_eq_true rfl, Nat.le_of_ble_eq_true rfl⟩ (fun r h6 hp9 => ?_) (fun E h9 q => q.elim)
        obtain ⟨rfl, hG7, hX8⟩ := hp9
        have hE9 := hE0.tr hX8
        subst hZ
        exact j_ireturn dX5_doBorn_57 rfl rfl (jWi.i ((if_neg c2).trans ((if_neg c4).trans (if_neg c5))) hG7 hE9) (Nat.le_refl _) (Nat.le_refl _)
      · refine j_aload_n dX5_doBorn_41 rfl rfl ?_
        refine j_iconst dX5_doBorn_42 ?_
        refine j_iconst dX5_doBorn_43 ?_
        refine j_bipush dX5_doBorn_44 (by decide +kernel) ?_
        refine j_callV (c5_refuse hG) dX5_doBorn_46 jc_X5_72 jmV_X5_refuse rfl rfl hG.1 rfl rfl (by simp) jfr_nil (Nat.le_of_ble_eq_true rfl) ⟨Nat.le_of_ble_eq_true rfl, Nat.le_of_ble_eq_true rfl⟩ ⟨Nat.le_of_ble_eq_true rfl, Nat.le_of_ble_eq_true rfl⟩ (fun r h10 hp9 => ?_) (fun E h9 q => q.elim)
        obtain ⟨rfl, hG11, hX12⟩ := hp9
        have hE13 := hE0.tr hX12
        refine j_goto (tgt := 57) dX5_doBorn_49 (by decide) ?_
        subst hZ
        exact j_ireturn dX5_doBorn_57 rfl rfl (jWi.i ((if_neg c2).trans ((if_neg c4).trans (if_pos c5))) hG11 hE13) (Nat.le_refl _) (Nat.le_refl _)
    · refine j_aload_n dX5_doBorn_22 rfl rfl ?_
      refine j_iconst dX5_doBorn_23 ?_
      refine j_iconst dX5_doBorn_24 ?_
      refine j_iload_n dX5_doBorn_25 rfl rfl ?_
      refine j_callV (c5_refuse hG) dX5_doBorn_26 jc_X5_72 jmV_X5_refuse rfl rfl hG.1 rfl rfl (by simp) jfr_nil (Nat.le_of_ble_eq_true rfl) ⟨Nat.le_of_ble_eq_true rfl, Nat.le_of_ble_eq_true rfl⟩ ⟨Nat.le_of_ble_eq_true rfl, Nat.le_of_ble_eq_true rfl⟩ (fun r h14 hp9 => ?_) (fun E h9 q => q.elim)
      obtain ⟨rfl, hG15, hX16⟩ := hp9
      have hE17 := hE0.tr hX16
      subst hZ
      exact j_ireturn dX5_doBorn_29 rfl rfl (jWi.i ((if_neg c2).trans (if_pos c4)) hG15 hE17) (Nat.le_refl _) (Nat.le_refl _)
  · have qc2 := bi_z c2
    refine j_aload_n dX5_doBorn_8 rfl rfl ?_
    refine j_iconst dX5_doBorn_9 ?_
    refine j_callV (c5_fails hG) dX5_doBorn_10 jc_X5_93 jmV_X5_fails rfl rfl hG.1 rfl rfl (by simp) jfr_nil (Nat.le_of_ble_eq_true rfl) ⟨Nat.le_of_ble_eq_true rfl, Nat.le_of_ble_eq_true rfl⟩ ⟨Nat.le_of_ble_eq_true rfl, Nat.le_of_ble_eq_true rfl⟩ (fun r h18 hp9 => ?_) (fun E h9 q => q.elim)
    obtain ⟨rfl, hG19, hX20⟩ := hp9
    have hE21 := hE0.tr hX20
    subst hZ
    exact j_ireturn dX5_doBorn_13 rfl rfl (jWi.i (if_pos c2) hG19 hE21) (Nat.le_refl _) (Nat.le_refl _)
set_option maxHeartbeats 4000000 in
/-- reference: quarrels -/
theorem c5_quarrels {k : Nat} {G : fS} {f : Int → Int} {B : Int} {h : jH} (hG : jOb sM k G h) (hf : G 0 = f) (hO : jOk B (mK f)) {q p : Int} (hq : 0 ≤ q ∧ q < f 1) (hp : -2147483648 ≤ p ∧ p ≤ 2147483647) : jM mX5_quarrels 1 0 0 [] [.ref k, iv q, iv p] h (jRet (iv (bi (mK f 4 q = p ∨ mK f 5 q = p))) h) jno := by
  refine j_method (by decide +kernel) rfl (fun _ _ _ => trivial) (Nat.le_of_ble_eq_true rfl) ?_
  generalize hZ : jZ [] 0 0 _ _ = Z
  show J mX5_quarrels (jR 1 0 0) [] Z 0 [(0, .ref k), (1, iv q), (2, iv p)] [] h 0 0
  subst hf
  have hn := mK_n hO
  have hb := hO.b
  have hq2 := mK_q hO
  have e4 := mK_4 hq
  have e5 := mK_5 hq
  have e6 : G 0 (101 + 2 * q + 1) = G 0 (102 + 2 * q) := congrArg (G 0) (by omega)
  have h9 := hO.qq q hq.1 hq.2
  have h8 := hO.n
  refine j_aload_n dX5_quarrels_0 rfl rfl ?_
  refine j_getfield (v := .ref (k + 1)) dX5_quarrels_1 jf_X5_9 hG.1 rfl ?_
  refine j_bipush dX5_quarrels_4 (by decide +kernel) ?_
  refine j_iconst dX5_quarrels_6 ?_
  refine j_iload_n dX5_quarrels_7 rfl rfl ?_
  refine j_imul dX5_quarrels_8 ?_
  refine j_iadd dX5_quarrels_9 ?_
  refine j_iaload (f := G 0) dX5_quarrels_10 (hG.a 0 1 0 141 rfl) (by omega) (by decide) ?_
  refine j_iload_n dX5_quarrels_11 rfl rfl ?_
  refine j_icmp_eq (tgt := 32) dX5_quarrels_12 (by decide) (by omega) (fun c1 => ?_) (fun c1 => ?_)
  · refine j_iconst dX5_quarrels_32 ?_
    refine j_goto (tgt := 37) dX5_quarrels_33 (by decide) ?_
    subst hZ
    exact j_ireturn dX5_quarrels_37 rfl rfl (jRet.i (by first | exact bi_t (by omega) | exact bi_f (by omega))) (Nat.le_refl _) (Nat.le_refl _)
  · refine j_aload_n dX5_quarrels_15 rfl rfl ?_
    refine j_getfield (v := .ref (k + 1)) dX5_quarrels_16 jf_X5_9 hG.1 rfl ?_
    refine j_bipush dX5_quarrels_19 (by decide +kernel) ?_
    refine j_iconst dX5_quarrels_21 ?_
    refine j_iload_n dX5_quarrels_22 rfl rfl ?_
    refine j_imul dX5_quarrels_23 ?_
    refine j_iadd dX5_quarrels_24 ?_
    refine j_iconst dX5_quarrels_25 ?_
    refine j_iadd dX5_quarrels_26 ?_
    refine j_iaload (f := G 0) dX5_quarrels_27 (hG.a 0 1 0 141 rfl) (by omega) (by decide) ?_
    refine j_iload_n dX5_quarrels_28 rfl rfl ?_
    refine j_icmp_ne (tgt := 36) dX5_quarrels_29 (by decide) (by omega) (fun c2 => ?_) (fun c2 => ?_)
    · refine j_iconst dX5_quarrels_36 ?_
      subst hZ
      exact j_ireturn dX5_quarrels_37 rfl rfl (jRet.i (by first | exact bi_t (by omega) | exact bi_f (by omega))) (Nat.le_refl _) (Nat.le_refl _)
    · refine j_iconst dX5_quarrels_32 ?_
      refine j_goto (tgt := 37) dX5_quarrels_33 (by decide) ?_
      subst hZ
      exact j_ireturn dX5_quarrels_37 rfl rfl (jRet.i (by first | exact bi_t (by omega) | exact bi_f (by omega))) (Nat.le_refl _) (Nat.le_refl _)
def m_quarrelAt (G : fS) (q a : Int) : Int × fS := if (bi (0 ≤ q ∧ q ≤ (((G 0) 1) - 1))) = 0 then (0, gn G 6 1) else if a = 0 then ((G 0) ((101 + (2 * q)) + 0), gn G 6 0) else ((G 0) ((101 + (2 * q)) + 1), gn G 6 0)
set_option maxHeartbeats 4000000 in
/-- reference: quarrelAt -/
theorem c5_quarrelAt {k : Nat} {G : fS} {f : Int → Int} {B : Int} {h : jH} (hG : jOb sM k G h) (hf : G 0 = f) (hO : jOk B (mK f)) {q a : Int} (hq : -2147483648 ≤ q ∧ q ≤ 2147483647) (ha : a = 0 ∨ a = 1) : jM mX5_quarrelAt 2 0 0 [] [.ref k, iv q, iv a] h (jWi sM k (m_quarrelAt G q a) h) jno := by
  refine j_method (by decide +kernel) rfl (fun _ _ _ => trivial) (Nat.le_of_ble_eq_true rfl) ?_
  generalize hZ : jZ [] 0 0 _ _ = Z
  show J mX5_quarrelAt (jR 2 0 0) [] Z 0 [(0, .ref k), (1, iv q), (2, iv a)] [] h 0 0
  subst hf
  have hn := mK_n hO
  have hb := hO.b
  have hq2 := mK_q hO
  have hE0 : jEx k 10 h h := jEx.rf
  refine j_aload_n dX5_quarrelAt_0 rfl rfl ?_
  refine j_iload_n dX5_quarrelAt_1 rfl rfl ?_
  refine j_iconst dX5_quarrelAt_2 ?_
  refine j_aload_n dX5_quarrelAt_3 rfl rfl ?_
  refine j_getfield (v := .ref (k + 1)) dX5_quarrelAt_4 jf_X5_9 hG.1 rfl ?_
  refine j_iconst dX5_quarrelAt_7 ?_
  refine j_iaload (f := G 0) dX5_quarrelAt_8 (hG.a 0 1 0 141 rfl) (by omega) (by decide) ?_
  refine j_iconst dX5_quarrelAt_9 ?_
  refine j_isub dX5_quarrelAt_10 ?_
  refine j_callS (c5_in (by omega)) dX5_quarrelAt_11 jc_X5_64 jmS_X5_in rfl rfl rfl (by simp) jfr_nil (Nat.le_of_ble_eq_true rfl) ⟨Nat.le_of_ble_eq_true rfl, Nat.le_of_ble_eq_true rfl⟩ ⟨Nat.le_of_ble_eq_true rfl, Nat.le_of_ble_eq_true rfl⟩ (fun r h1 hp9 => ?_) (fun E h9 q => q.elim)
  obtain ⟨rfl, rfl⟩ := hp9
  refine j_if_eq (tgt := 21) dX5_quarrelAt_14 (by decide) (bi_r32 _) (fun c2 => ?_) (fun c2 => ?_)
  · have qc2 := bi_z c2
    refine j_iconst dX5_quarrelAt_21 ?_
    refine jo_put (S := sM) dX5_quarrelAt_22 jf_X5_42 (fun q hq => by cases hq; exact ⟨rfl, rfl⟩) (jHold_int _) okM hG rfl (fun h3 hG3 hX3 => ?_)
    have hE4 := hE0.tr hX3
    refine j_aload_n dX5_quarrelAt_25 rfl rfl ?_
    refine j_getfield (v := iv 1) dX5_quarrelAt_26 jf_X5_42 hG3.1 rfl ?_
    refine j_if_le (tgt := 36) dX5_quarrelAt_29 (by decide) (by omega) (fun c5 => absurd c5 (by decide)) (fun c5 => ?_)
    refine j_iconst dX5_quarrelAt_32 ?_
    refine j_goto (tgt := 57) dX5_quarrelAt_33 (by decide) ?_
    subst hZ
    exact j_ireturn dX5_quarrelAt_57 rfl rfl (jWi.i (if_pos c2) hG3 hE4) (Nat.le_refl _) (Nat.le_refl _)
  · have qc2 := bi_nz c2
    refine j_iconst dX5_quarrelAt_17 ?_
    refine j_goto (tgt := 22) dX5_quarrelAt_18 (by decide) ?_
    refine jo_put (S := sM) dX5_quarrelAt_22 jf_X5_42 (fun q hq => by cases hq; exact ⟨rfl, rfl⟩) (jHold_int _) okM hG rfl (fun h6 hG6 hX6 => ?_)
    have hE7 := hE0.tr hX6
    refine j_aload_n dX5_quarrelAt_25 rfl rfl ?_
    refine j_getfield (v := iv 0) dX5_quarrelAt_26 jf_X5_42 hG6.1 rfl ?_
    refine j_if_le (tgt := 36) dX5_quarrelAt_29 (by decide) (by omega) (fun c8 => ?_) (fun c8 => absurd (by decide) c8)
    refine j_aload_n dX5_quarrelAt_36 rfl rfl ?_
    refine j_getfield (v := .ref (k + 1)) dX5_quarrelAt_37 jf_X5_9 hG6.1 rfl ?_
    refine j_bipush dX5_quarrelAt_40 (by decide +kernel) ?_
    refine j_iconst dX5_quarrelAt_42 ?_
    refine j_iload_n dX5_quarrelAt_43 rfl rfl ?_
    refine j_imul dX5_quarrelAt_44 ?_
    refine j_iadd dX5_quarrelAt_45 ?_
    refine j_iload_n dX5_quarrelAt_46 rfl rfl ?_
    refine j_if_eq (tgt := 54) dX5_quarrelAt_47 (by decide) (by omega) (fun c9 => ?_) (fun c9 => ?_)
    · refine j_iconst dX5_quarrelAt_54 ?_
      refine j_iadd dX5_quarrelAt_55 ?_
      refine j_iaload (f := G 0) dX5_quarrelAt_56 (hG6.a 0 1 0 141 rfl) (by omega) (by decide) ?_
      subst hZ
      exact j_ireturn dX5_quarrelAt_57 rfl rfl (jWi.i ((if_neg c2).trans (if_pos c9)) hG6 hE7) (Nat.le_refl _) (Nat.le_refl _)
    · refine j_iconst dX5_quarrelAt_50 ?_
      refine j_goto (tgt := 55) dX5_quarrelAt_51 (by decide) ?_
      refine j_iadd dX5_quarrelAt_55 ?_
      refine j_iaload (f := G 0) dX5_quarrelAt_56 (hG6.a 0 1 0 141 rfl) (by omega) (by decide) ?_
      subst hZ
      exact j_ireturn dX5_quarrelAt_57 rfl rfl (jWi.i ((if_neg c2).trans (if_neg c9)) hG6 hE7) (Nat.le_refl _) (Nat.le_refl _)
set_option maxHeartbeats 4000000 in
/-- reference: living -/
theorem c5_living {k : Nat} {G : fS} {f : Int → Int} {B : Int} {h : jH} (hG : jOb sM k G h) (hf : G 0 = f) (hO : jOk B (mK f))  : jM mX5_living 1 0 0 [] [.ref k] h (jRet (iv (csum (fun c => mK f 3 c) (f 0).toNat)) h) jno := by
  refine j_method (by decide +kernel) rfl (fun _ _ _ => trivial) (Nat.le_of_ble_eq_true rfl) ?_
  generalize hZ : jZ [] 0 0 _ _ = Z
  show J mX5_living (jR 1 0 0) [] Z 0 [(0, .ref k)] [] h 0 0
  subst hf
  have hn := mK_n hO
  have hb := hO.b
  refine j_iconst dX5_living_0 ?_
  refine j_istore_n (L' := [(0, _), (1, _)]) dX5_living_1 rfl (by decide) rfl ?_
  refine j_iconst dX5_living_2 ?_
  refine j_istore_n (L' := [(0, _), (1, _), (2, _)]) dX5_living_3 rfl (by decide) rfl ?_
  refine jloop (P := fun z9 : Int × Int => J mX5_living (jR 1 0 0) [] Z 4 [(0, .ref k), (1, iv z9.1), (2, iv z9.2)] [] h 0 0) (fun z9 => 0 ≤ z9.2 ∧ z9.2 ≤ G 0 0 ∧ z9.1 = csum (fun c => mK (G 0) 3 c) z9.2.toNat) (fun z9 => (G 0 0 - z9.2).toNat) ?_ (0, 0) ?_
  · rintro ⟨a, i⟩ hinv ih
    dsimp only at hinv ih ⊢
    obtain ⟨i1, i2, i3⟩ := hinv
    refine j_iload_n dX5_living_4 rfl rfl ?_
    refine j_aload_n dX5_living_5 rfl rfl ?_
    refine j_getfield (v := .ref (k + 1)) dX5_living_6 jf_X5_9 hG.1 rfl ?_
    refine j_iconst dX5_living_9 ?_
    refine j_iaload (f := G 0) dX5_living_10 (hG.a 0 1 0 141 rfl) (by omega) (by decide) ?_
    refine j_icmp_ge (tgt := 32) dX5_living_11 (by decide) (by omega) (fun c1 => ?_) (fun c1 => ?_)
    · refine j_iload_n dX5_living_32 rfl rfl ?_
      subst hZ
      exact j_ireturn dX5_living_33 rfl rfl (jRet.i (by rw [i3, show i = G 0 0 by omega])) (Nat.le_refl _) (Nat.le_refl _)
    · refine j_iload_n dX5_living_14 rfl rfl ?_
      refine j_aload_n dX5_living_15 rfl rfl ?_
      refine j_getfield (v := .ref (k + 1)) dX5_living_16 jf_X5_9 hG.1 rfl ?_
      refine j_bipush dX5_living_19 (by decide +kernel) ?_
      refine j_iload_n dX5_living_21 rfl rfl ?_
      refine j_iadd dX5_living_22 ?_
      refine j_iaload (f := G 0) dX5_living_23 (hG.a 0 1 0 141 rfl) (by omega) (by decide) ?_
      refine j_iadd dX5_living_24 ?_
      refine j_istore_n (L' := [(0, _), (1, _), (2, _)]) dX5_living_25 rfl (by decide) rfl ?_
      refine j_iinc (L' := [(0, _), (1, _), (2, _)]) dX5_living_26 rfl (by decide) rfl ?_
      refine j_goto (tgt := 4) dX5_living_29 (by decide) ?_
      have e9 := csum_s (fun c => mK (G 0) 3 c) i1
      try dsimp only at e9
      have e8 := mK_3 (f := G 0) (p := i) (by omega)
      have ih9 := ih (a + G 0 (77 + i), i + 1)
      dsimp only at ih9
      exact ih9 ⟨by omega, by omega, by omega⟩ (by omega)
  · dsimp only
    exact ⟨by omega, by omega, rfl⟩
set_option maxHeartbeats 4000000 in
/-- reference: coins -/
theorem c5_coins {k : Nat} {G : fS} {f : Int → Int} {B : Int} {h : jH} (hG : jOb sM k G h) (hf : G 0 = f) (hO : jOk B (mK f))  : jM mX5_coins 1 0 0 [] [.ref k] h (jRet (iv (csum (fun c => mK f 2 c) (f 0).toNat)) h) jno := by
  refine j_method (by decide +kernel) rfl (fun _ _ _ => trivial) (Nat.le_of_ble_eq_true rfl) ?_
  generalize hZ : jZ [] 0 0 _ _ = Z
  show J mX5_coins (jR 1 0 0) [] Z 0 [(0, .ref k)] [] h 0 0
  subst hf
  have hn := mK_n hO
  have hb := hO.b
  refine j_iconst dX5_coins_0 ?_
  refine j_istore_n (L' := [(0, _), (1, _)]) dX5_coins_1 rfl (by decide) rfl ?_
  refine j_iconst dX5_coins_2 ?_
  refine j_istore_n (L' := [(0, _), (1, _), (2, _)]) dX5_coins_3 rfl (by decide) rfl ?_
  refine jloop (P := fun z9 : Int × Int => J mX5_coins (jR 1 0 0) [] Z 4 [(0, .ref k), (1, iv z9.1), (2, iv z9.2)] [] h 0 0) (fun z9 => 0 ≤ z9.2 ∧ z9.2 ≤ G 0 0 ∧ z9.1 = csum (fun c => mK (G 0) 2 c) z9.2.toNat) (fun z9 => (G 0 0 - z9.2).toNat) ?_ (0, 0) ?_
  · rintro ⟨a, i⟩ hinv ih
    dsimp only at hinv ih ⊢
    obtain ⟨i1, i2, i3⟩ := hinv
    refine j_iload_n dX5_coins_4 rfl rfl ?_
    refine j_aload_n dX5_coins_5 rfl rfl ?_
    refine j_getfield (v := .ref (k + 1)) dX5_coins_6 jf_X5_9 hG.1 rfl ?_
    refine j_iconst dX5_coins_9 ?_
    refine j_iaload (f := G 0) dX5_coins_10 (hG.a 0 1 0 141 rfl) (by omega) (by decide) ?_
    refine j_icmp_ge (tgt := 32) dX5_coins_11 (by decide) (by omega) (fun c1 => ?_) (fun c1 => ?_)
    · refine j_iload_n dX5_coins_32 rfl rfl ?_
      subst hZ
      exact j_ireturn dX5_coins_33 rfl rfl (jRet.i (by rw [i3, show i = G 0 0 by omega])) (Nat.le_refl _) (Nat.le_refl _)
    · refine j_iload_n dX5_coins_14 rfl rfl ?_
      refine j_aload_n dX5_coins_15 rfl rfl ?_
      refine j_getfield (v := .ref (k + 1)) dX5_coins_16 jf_X5_9 hG.1 rfl ?_
      refine j_bipush dX5_coins_19 (by decide +kernel) ?_
      refine j_iload_n dX5_coins_21 rfl rfl ?_
      refine j_iadd dX5_coins_22 ?_
      refine j_iaload (f := G 0) dX5_coins_23 (hG.a 0 1 0 141 rfl) (by omega) (by decide) ?_
      refine j_iadd dX5_coins_24 ?_
      refine j_istore_n (L' := [(0, _), (1, _), (2, _)]) dX5_coins_25 rfl (by decide) rfl ?_
      refine j_iinc (L' := [(0, _), (1, _), (2, _)]) dX5_coins_26 rfl (by decide) rfl ?_
      refine j_goto (tgt := 4) dX5_coins_29 (by decide) ?_
      have e9 := csum_s (fun c => mK (G 0) 2 c) i1
      try dsimp only at e9
      have e8 := mK_2 (f := G 0) (p := i) (by omega)
      have ih9 := ih (a + G 0 (53 + i), i + 1)
      dsimp only at ih9
      exact ih9 ⟨by omega, by omega, by omega⟩ (by omega)
  · dsimp only
    exact ⟨by omega, by omega, rfl⟩
def m_says (G : fS) (c : Int) : fS := gn (gs G 13 (jfu (G 13) (G 14 0) c)) 14 ((G 14 0) + 1)
set_option maxHeartbeats 4000000 in
/-- reference: says -/
theorem c5_says {k : Nat} {G : fS} {h : jH} (hG : jOb sM k G h) {c : Int} (hc : 0 ≤ c ∧ c < 65536) (hl : 0 ≤ G 14 0 ∧ G 14 0 < 40) : jM mX5_says 1 0 0 [] [.ref k, iv c] h (jWv sM k (m_says G c) h) jno := by
  refine j_method (by decide +kernel) rfl (fun _ _ _ => trivial) (Nat.le_of_ble_eq_true rfl) ?_
  generalize hZ : jZ [] 0 0 _ _ = Z
  show J mX5_says (jR 1 0 0) [] Z 0 [(0, .ref k), (1, iv c)] [] h 0 0
  have hE0 : jEx k 10 h h := jEx.rf
  refine j_aload_n dX5_says_0 rfl rfl ?_
  refine j_getfield (v := .ref (k + 7)) dX5_says_1 jf_X5_28 hG.1 rfl ?_
  refine j_aload_n dX5_says_4 rfl rfl ?_
  refine j_getfield (v := iv (G 14 0)) dX5_says_5 jf_X5_194 hG.1 rfl ?_
  refine j_iload_n dX5_says_8 rfl rfl ?_
  refine jo_cas (S := sM) (k := k) dX5_says_9 okM hG (i := 13) (p := 7) rfl (by omega) (by omega) (by decide) (fun h1 hG1 hX1 => ?_)
  have hE2 := hE0.tr hX1
  refine j_aload_n dX5_says_10 rfl rfl ?_
  refine j_dup dX5_says_11 rfl ?_
  refine j_getfield (v := iv (G 14 0)) dX5_says_12 jf_X5_194 hG1.1 rfl ?_
  refine j_iconst dX5_says_15 ?_
  refine j_iadd dX5_says_16 ?_
  refine jo_put (S := sM) dX5_says_17 jf_X5_194 (fun q hq => by cases hq; exact ⟨rfl, rfl⟩) (jHold_int _) okM hG1 rfl (fun h3 hG3 hX3 => ?_)
  have hE4 := hE2.tr hX3
  subst hZ
  exact j_return dX5_says_20 rfl (jWv.i rfl hG3 hE4) (Nat.le_refl _) (Nat.le_refl _)
def m_character (G : fS) (i : Int) : Int × fS := if (bi (0 ≤ i ∧ i ≤ ((G 14 0) - 1))) = 0 then (32, gn G 6 1) else ((G 13) i, gn G 6 0)
set_option maxHeartbeats 4000000 in
/-- reference: character -/
theorem c5_character {k : Nat} {G : fS} {h : jH} (hG : jOb sM k G h) {i : Int} (hi : -2147483648 ≤ i ∧ i ≤ 2147483647) (hl : 0 ≤ G 14 0 ∧ G 14 0 ≤ 40) (hc : ∀ j, 0 ≤ G 13 j ∧ G 13 j < 65536) : jM mX5_character 2 0 0 [] [.ref k, iv i] h (jWi sM k (m_character G i) h) jno := by
  refine j_method (by decide +kernel) rfl (fun _ _ _ => trivial) (Nat.le_of_ble_eq_true rfl) ?_
  generalize hZ : jZ [] 0 0 _ _ = Z
  show J mX5_character (jR 2 0 0) [] Z 0 [(0, .ref k), (1, iv i)] [] h 0 0
  have hE0 : jEx k 10 h h := jEx.rf
  refine j_aload_n dX5_character_0 rfl rfl ?_
  refine j_iload_n dX5_character_1 rfl rfl ?_
  refine j_iconst dX5_character_2 ?_
  refine j_aload_n dX5_character_3 rfl rfl ?_
  refine j_getfield (v := iv (G 14 0)) dX5_character_4 jf_X5_194 hG.1 rfl ?_
  refine j_iconst dX5_character_7 ?_
  refine j_isub dX5_character_8 ?_
  refine j_callS (c5_in (by omega)) dX5_character_9 jc_X5_64 jmS_X5_in rfl rfl rfl (by simp) jfr_nil (Nat.le_of_ble_eq_true rfl) ⟨Nat.le_of_ble_eq_true rfl, Nat.le_of_ble_eq_true rfl⟩ ⟨Nat.le_of_ble_eq_true rfl, Nat.le_of_ble_eq_true rfl⟩ (fun r h1 hp9 => ?_) (fun E h9 q => q.elim)
  obtain ⟨rfl, rfl⟩ := hp9
  refine j_if_eq (tgt := 19) dX5_character_12 (by decide) (bi_r32 _) (fun c2 => ?_) (fun c2 => ?_)
  · have qc2 := bi_z c2
    refine j_iconst dX5_character_19 ?_
    refine jo_put (S := sM) dX5_character_20 jf_X5_42 (fun q hq => by cases hq; exact ⟨rfl, rfl⟩) (jHold_int _) okM hG rfl (fun h3 hG3 hX3 => ?_)
    have hE4 := hE0.tr hX3
    refine j_aload_n dX5_character_23 rfl rfl ?_
    refine j_getfield (v := iv 1) dX5_character_24 jf_X5_42 hG3.1 rfl ?_
    refine j_if_le (tgt := 35) dX5_character_27 (by decide) (by omega) (fun c5 => absurd c5 (by decide)) (fun c5 => ?_)
    refine j_bipush dX5_character_30 (by decide +kernel) ?_
    refine j_goto (tgt := 41) dX5_character_32 (by decide) ?_
    subst hZ
    exact j_ireturn dX5_character_41 rfl (by first | rfl | exact jn_char (hc _)) (jWi.i (if_pos c2) hG3 hE4) (Nat.le_refl _) (Nat.le_refl _)
  · have qc2 := bi_nz c2
    refine j_iconst dX5_character_15 ?_
    refine j_goto (tgt := 20) dX5_character_16 (by decide) ?_
    refine jo_put (S := sM) dX5_character_20 jf_X5_42 (fun q hq => by cases hq; exact ⟨rfl, rfl⟩) (jHold_int _) okM hG rfl (fun h6 hG6 hX6 => ?_)
    have hE7 := hE0.tr hX6
    refine j_aload_n dX5_character_23 rfl rfl ?_
    refine j_getfield (v := iv 0) dX5_character_24 jf_X5_42 hG6.1 rfl ?_
    refine j_if_le (tgt := 35) dX5_character_27 (by decide) (by omega) (fun c8 => ?_) (fun c8 => absurd (by decide) c8)
    refine j_aload_n dX5_character_35 rfl rfl ?_
    refine j_getfield (v := .ref (k + 7)) dX5_character_36 jf_X5_28 hG6.1 rfl ?_
    refine j_iload_n dX5_character_39 rfl rfl ?_
    refine j_caload (f := G 13) dX5_character_40 (hG6.a 13 7 2 40 rfl) (by omega) (by decide) ?_
    subst hZ
    exact j_ireturn dX5_character_41 rfl (by first | rfl | exact jn_char (hc _)) (jWi.i (if_neg c2) hG6 hE7) (Nat.le_refl _) (Nat.le_refl _)
def m_append (G : fS) (c : Int) : Int × fS := if (G 16 0) = 60 then (0, gn G 6 1) else ((G 16 0) + 1, gn (gs (gn G 6 0) 15 (jfu (G 15) (G 16 0) c)) 16 ((G 16 0) + 1))
set_option maxHeartbeats 4000000 in
/-- reference: append -/
theorem c5_append {k : Nat} {G : fS} {h : jH} (hG : jOb sM k G h) {c : Int} (hc : 0 ≤ c ∧ c < 65536) (hl : 0 ≤ G 16 0 ∧ G 16 0 ≤ 60) : jM mX5_append 1 0 0 [] [.ref k, iv c] h (jWi sM k (m_append G c) h) jno := by
  refine j_method (by decide +kernel) rfl (fun _ _ _ => trivial) (Nat.le_of_ble_eq_true rfl) ?_
  generalize hZ : jZ [] 0 0 _ _ = Z
  show J mX5_append (jR 1 0 0) [] Z 0 [(0, .ref k), (1, iv c)] [] h 0 0
  have hE0 : jEx k 10 h h := jEx.rf
  refine j_aload_n dX5_append_0 rfl rfl ?_
  refine j_aload_n dX5_append_1 rfl rfl ?_
  refine j_getfield (v := iv (G 16 0)) dX5_append_2 jf_X5_204 hG.1 rfl ?_
  refine j_bipush dX5_append_5 (by decide +kernel) ?_
  refine j_icmp_ne (tgt := 14) dX5_append_7 (by decide) (by omega) (fun c1 => ?_) (fun c1 => ?_)
  · refine j_iconst dX5_append_14 ?_
    refine jo_put (S := sM) dX5_append_15 jf_X5_42 (fun q hq => by cases hq; exact ⟨rfl, rfl⟩) (jHold_int _) okM hG rfl (fun h2 hG2 hX2 => ?_)
    have hE3 := hE0.tr hX2
    refine j_aload_n dX5_append_18 rfl rfl ?_
    refine j_getfield (v := iv 0) dX5_append_19 jf_X5_42 hG2.1 rfl ?_
    refine j_if_le (tgt := 27) dX5_append_22 (by decide) (by omega) (fun c4 => ?_) (fun c4 => absurd (by decide) c4)
    refine j_aload_n dX5_append_27 rfl rfl ?_
    refine j_getfield (v := .ref (k + 8)) dX5_append_28 jf_X5_32 hG2.1 rfl ?_
    refine j_aload_n dX5_append_31 rfl rfl ?_
    refine j_getfield (v := iv (G 16 0)) dX5_append_32 jf_X5_204 hG2.1 rfl ?_
    refine j_iload_n dX5_append_35 rfl rfl ?_
    refine jo_cas (S := sM) (k := k) dX5_append_36 okM hG2 (i := 15) (p := 8) rfl (by omega) (by omega) (by decide) (fun h5 hG5 hX5 => ?_)
    have hE6 := hE3.tr hX5
    refine j_aload_n dX5_append_37 rfl rfl ?_
    refine j_dup dX5_append_38 rfl ?_
    refine j_getfield (v := iv (G 16 0)) dX5_append_39 jf_X5_204 hG5.1 rfl ?_
    refine j_iconst dX5_append_42 ?_
    refine j_iadd dX5_append_43 ?_
    refine jo_put (S := sM) dX5_append_44 jf_X5_204 (fun q hq => by cases hq; exact ⟨rfl, rfl⟩) (jHold_int _) okM hG5 rfl (fun h7 hG7 hX7 => ?_)
    have hE8 := hE6.tr hX7
    refine j_aload_n dX5_append_47 rfl rfl ?_
    refine j_getfield (v := iv ((G 16 0) + 1)) dX5_append_48 jf_X5_204 hG7.1 rfl ?_
    subst hZ
    exact j_ireturn dX5_append_51 rfl rfl (jWi.i (if_neg c1) hG7 hE8) (Nat.le_refl _) (Nat.le_refl _)
  · refine j_iconst dX5_append_10 ?_
    refine j_goto (tgt := 15) dX5_append_11 (by decide) ?_
    refine jo_put (S := sM) dX5_append_15 jf_X5_42 (fun q hq => by cases hq; exact ⟨rfl, rfl⟩) (jHold_int _) okM hG rfl (fun h9 hG9 hX9 => ?_)
    have hE10 := hE0.tr hX9
    refine j_aload_n dX5_append_18 rfl rfl ?_
    refine j_getfield (v := iv 1) dX5_append_19 jf_X5_42 hG9.1 rfl ?_
    refine j_if_le (tgt := 27) dX5_append_22 (by decide) (by omega) (fun c11 => absurd c11 (by decide)) (fun c11 => ?_)
    refine j_iconst dX5_append_25 ?_
    subst hZ
    exact j_ireturn dX5_append_26 rfl rfl (jWi.i (if_pos c1) hG9 hE10) (Nat.le_refl _) (Nat.le_refl _)
def m_errorPosition (G : fS) : Int × fS := (G 19 0, gn G 6 0)
set_option maxHeartbeats 4000000 in
/-- reference: errorPosition -/
theorem c5_errorPosition {k : Nat} {G : fS} {h : jH} (hG : jOb sM k G h)  : jM mX5_errorPosition 1 0 0 [] [.ref k] h (jWi sM k (m_errorPosition G) h) jno := by
  refine j_method (by decide +kernel) rfl (fun _ _ _ => trivial) (Nat.le_of_ble_eq_true rfl) ?_
  generalize hZ : jZ [] 0 0 _ _ = Z
  show J mX5_errorPosition (jR 1 0 0) [] Z 0 [(0, .ref k)] [] h 0 0
  have hE0 : jEx k 10 h h := jEx.rf
  refine j_aload_n dX5_errorPosition_0 rfl rfl ?_
  refine j_iconst dX5_errorPosition_1 ?_
  refine jo_put (S := sM) dX5_errorPosition_2 jf_X5_42 (fun q hq => by cases hq; exact ⟨rfl, rfl⟩) (jHold_int _) okM hG rfl (fun h1 hG1 hX1 => ?_)
  have hE2 := hE0.tr hX1
  refine j_aload_n dX5_errorPosition_5 rfl rfl ?_
  refine j_getfield (v := iv (G 19 0)) dX5_errorPosition_6 jf_X5_35 hG1.1 rfl ?_
  subst hZ
  exact j_ireturn dX5_errorPosition_9 rfl rfl (jWi.i rfl hG1 hE2) (Nat.le_refl _) (Nat.le_refl _)
def m_undo (G : fS) : Int × fS := if (G 5 0) = 0 then (0, gn G 6 1) else ((G 5 0) - 1, gs (gn (gn G 6 0) 5 ((G 5 0) - 1)) 0 (jcpy (G 4) (G 0) (141 * ((G 5 0) - 1)) 0 141))
set_option maxHeartbeats 4000000 in
/-- reference: undo -/
theorem c5_undo {k : Nat} {G : fS} {h : jH} (hG : jOb sM k G h) (hp : 0 ≤ G 5 0 ∧ G 5 0 ≤ 8) : jM mX5_undo 1 0 0 [] [.ref k] h (jWi sM k (m_undo G) h) jno := by
  refine j_method (by decide +kernel) rfl (fun _ _ _ => trivial) (Nat.le_of_ble_eq_true rfl) ?_
  generalize hZ : jZ [] 0 0 _ _ = Z
  show J mX5_undo (jR 1 0 0) [] Z 0 [(0, .ref k)] [] h 0 0
  have hE0 : jEx k 10 h h := jEx.rf
  refine j_aload_n dX5_undo_0 rfl rfl ?_
  refine j_aload_n dX5_undo_1 rfl rfl ?_
  refine j_getfield (v := iv (G 5 0)) dX5_undo_2 jf_X5_51 hG.1 rfl ?_
  refine j_if_ne (tgt := 12) dX5_undo_5 (by decide) (by omega) (fun c1 => ?_) (fun c1 => ?_)
  · refine j_iconst dX5_undo_12 ?_
    refine jo_put (S := sM) dX5_undo_13 jf_X5_42 (fun q hq => by cases hq; exact ⟨rfl, rfl⟩) (jHold_int _) okM hG rfl (fun h2 hG2 hX2 => ?_)
    have hE3 := hE0.tr hX2
    refine j_aload_n dX5_undo_16 rfl rfl ?_
    refine j_getfield (v := iv 0) dX5_undo_17 jf_X5_42 hG2.1 rfl ?_
    refine j_if_le (tgt := 25) dX5_undo_20 (by decide) (by omega) (fun c4 => ?_) (fun c4 => absurd (by decide) c4)
    refine j_aload_n dX5_undo_25 rfl rfl ?_
    refine j_dup dX5_undo_26 rfl ?_
    refine j_getfield (v := iv (G 5 0)) dX5_undo_27 jf_X5_51 hG2.1 rfl ?_
    refine j_iconst dX5_undo_30 ?_
    refine j_isub dX5_undo_31 ?_
    refine jo_put (S := sM) dX5_undo_32 jf_X5_51 (fun q hq => by cases hq; exact ⟨rfl, rfl⟩) (jHold_int _) okM hG2 rfl (fun h5 hG5 hX5 => ?_)
    have hE6 := hE3.tr hX5
    refine j_aload_n dX5_undo_35 rfl rfl ?_
    refine j_getfield (v := .ref (k + 4)) dX5_undo_36 jf_X5_19 hG5.1 rfl ?_
    refine j_sipush dX5_undo_39 (by decide +kernel) ?_
    refine j_aload_n dX5_undo_42 rfl rfl ?_
    refine j_getfield (v := iv ((G 5 0) - 1)) dX5_undo_43 jf_X5_51 hG5.1 rfl ?_
    refine j_imul dX5_undo_46 ?_
    refine j_aload_n dX5_undo_47 rfl rfl ?_
    refine j_getfield (v := .ref (k + 1)) dX5_undo_48 jf_X5_9 hG5.1 rfl ?_
    refine j_iconst dX5_undo_51 ?_
    refine j_sipush dX5_undo_52 (by decide +kernel) ?_
    refine jo_cpy (S := sM) (k := k) (f := G 4) (by decide) dX5_undo_55 (jw_mem 1513 (by decide +kernel) (by decide +kernel)) (jw_mem 1025 (by decide +kernel) (by decide +kernel)) (jw_mem 1024 (by decide +kernel) (by decide +kernel)) (jw_mem 109 (by decide +kernel) (by decide +kernel)) okM hG5 (i := 0) (p := 1) rfl (hG5.a 4 4 0 1128 rfl) (by omega) (fun _ => rfl) (by decide) (by decide) (fun h7 hG7 hX7 => ?_)
    have hE8 := hE6.tr hX7
    refine j_aload_n dX5_undo_58 rfl rfl ?_
    refine j_getfield (v := iv ((G 5 0) - 1)) dX5_undo_59 jf_X5_51 hG7.1 rfl ?_
    subst hZ
    exact j_ireturn dX5_undo_62 rfl rfl (jWi.i (if_neg c1) hG7 hE8) (Nat.le_refl _) (Nat.le_refl _)
  · refine j_iconst dX5_undo_8 ?_
    refine j_goto (tgt := 13) dX5_undo_9 (by decide) ?_
    refine jo_put (S := sM) dX5_undo_13 jf_X5_42 (fun q hq => by cases hq; exact ⟨rfl, rfl⟩) (jHold_int _) okM hG rfl (fun h9 hG9 hX9 => ?_)
    have hE10 := hE0.tr hX9
    refine j_aload_n dX5_undo_16 rfl rfl ?_
    refine j_getfield (v := iv 1) dX5_undo_17 jf_X5_42 hG9.1 rfl ?_
    refine j_if_le (tgt := 25) dX5_undo_20 (by decide) (by omega) (fun c11 => absurd c11 (by decide)) (fun c11 => ?_)
    refine j_iconst dX5_undo_23 ?_
    subst hZ
    exact j_ireturn dX5_undo_24 rfl rfl (jWi.i (if_pos c1) hG9 hE10) (Nat.le_refl _) (Nat.le_refl _)
def m_save (G : fS) : Int × fS := ((G 0) 0, gn (gs (gn G 6 0) 2 (jcpy (G 0) (G 2) 0 0 141)) 3 1)
set_option maxHeartbeats 4000000 in
/-- reference: save -/
theorem c5_save {k : Nat} {G : fS} {h : jH} (hG : jOb sM k G h)  : jM mX5_save 1 0 0 [] [.ref k] h (jWi sM k (m_save G) h) jno := by
  refine j_method (by decide +kernel) rfl (fun _ _ _ => trivial) (Nat.le_of_ble_eq_true rfl) ?_
  generalize hZ : jZ [] 0 0 _ _ = Z
  show J mX5_save (jR 1 0 0) [] Z 0 [(0, .ref k)] [] h 0 0
  have hE0 : jEx k 10 h h := jEx.rf
  refine j_aload_n dX5_save_0 rfl rfl ?_
  refine j_iconst dX5_save_1 ?_
  refine jo_put (S := sM) dX5_save_2 jf_X5_42 (fun q hq => by cases hq; exact ⟨rfl, rfl⟩) (jHold_int _) okM hG rfl (fun h1 hG1 hX1 => ?_)
  have hE2 := hE0.tr hX1
  refine j_aload_n dX5_save_5 rfl rfl ?_
  refine j_getfield (v := .ref (k + 1)) dX5_save_6 jf_X5_9 hG1.1 rfl ?_
  refine j_iconst dX5_save_9 ?_
  refine j_aload_n dX5_save_10 rfl rfl ?_
  refine j_getfield (v := .ref (k + 3)) dX5_save_11 jf_X5_16 hG1.1 rfl ?_
  refine j_iconst dX5_save_14 ?_
  refine j_sipush dX5_save_15 (by decide +kernel) ?_
  refine jo_cpy (S := sM) (k := k) (f := G 0) (by decide) dX5_save_18 (jw_mem 1513 (by decide +kernel) (by decide +kernel)) (jw_mem 1025 (by decide +kernel) (by decide +kernel)) (jw_mem 1024 (by decide +kernel) (by decide +kernel)) (jw_mem 109 (by decide +kernel) (by decide +kernel)) okM hG1 (i := 2) (p := 3) rfl (hG1.a 0 1 0 141 rfl) (by omega) (fun _ => rfl) (by decide) (by decide) (fun h3 hG3 hX3 => ?_)
  have hE4 := hE2.tr hX3
  refine j_aload_n dX5_save_21 rfl rfl ?_
  refine j_iconst dX5_save_22 ?_
  refine jo_put (S := sM) dX5_save_23 jf_X5_242 (fun q hq => by cases hq; exact ⟨rfl, rfl⟩) (jHold_bool (by omega)) okM hG3 rfl (fun h5 hG5 hX5 => ?_)
  have hE6 := hE4.tr hX5
  refine j_aload_n dX5_save_26 rfl rfl ?_
  refine j_getfield (v := .ref (k + 1)) dX5_save_27 jf_X5_9 hG5.1 rfl ?_
  refine j_iconst dX5_save_30 ?_
  refine j_iaload (f := G 0) dX5_save_31 (hG5.a 0 1 0 141 rfl) (by omega) (by decide) ?_
  subst hZ
  exact j_ireturn dX5_save_32 rfl rfl (jWi.i rfl hG5 hE6) (Nat.le_refl _) (Nat.le_refl _)
def m_restore (G : fS) : Int × fS := if (G 3 0) = 0 then (0, gn G 6 1) else ((jcpy (G 2) (G 0) 0 0 141) 0, gn (gs (gn G 6 0) 0 (jcpy (G 2) (G 0) 0 0 141)) 5 0)
set_option maxHeartbeats 4000000 in
/-- reference: restore -/
theorem c5_restore {k : Nat} {G : fS} {h : jH} (hG : jOb sM k G h) (hs : G 3 0 = 0 ∨ G 3 0 = 1) : jM mX5_restore 1 0 0 [] [.ref k] h (jWi sM k (m_restore G) h) jno := by
  refine j_method (by decide +kernel) rfl (fun _ _ _ => trivial) (Nat.le_of_ble_eq_true rfl) ?_
  generalize hZ : jZ [] 0 0 _ _ = Z
  show J mX5_restore (jR 1 0 0) [] Z 0 [(0, .ref k)] [] h 0 0
  have hE0 : jEx k 10 h h := jEx.rf
  refine j_aload_n dX5_restore_0 rfl rfl ?_
  refine j_aload_n dX5_restore_1 rfl rfl ?_
  refine j_getfield (v := iv (G 3 0)) dX5_restore_2 jf_X5_242 hG.1 rfl ?_
  refine j_if_eq (tgt := 12) dX5_restore_5 (by decide) (by omega) (fun c1 => ?_) (fun c1 => ?_)
  · refine j_iconst dX5_restore_12 ?_
    refine jo_put (S := sM) dX5_restore_13 jf_X5_42 (fun q hq => by cases hq; exact ⟨rfl, rfl⟩) (jHold_int _) okM hG rfl (fun h2 hG2 hX2 => ?_)
    have hE3 := hE0.tr hX2
    refine j_aload_n dX5_restore_16 rfl rfl ?_
    refine j_getfield (v := iv 1) dX5_restore_17 jf_X5_42 hG2.1 rfl ?_
    refine j_if_le (tgt := 25) dX5_restore_20 (by decide) (by omega) (fun c4 => absurd c4 (by decide)) (fun c4 => ?_)
    refine j_iconst dX5_restore_23 ?_
    subst hZ
    exact j_ireturn dX5_restore_24 rfl rfl (jWi.i (if_pos c1) hG2 hE3) (Nat.le_refl _) (Nat.le_refl _)
  · refine j_iconst dX5_restore_8 ?_
    refine j_goto (tgt := 13) dX5_restore_9 (by decide) ?_
    refine jo_put (S := sM) dX5_restore_13 jf_X5_42 (fun q hq => by cases hq; exact ⟨rfl, rfl⟩) (jHold_int _) okM hG rfl (fun h5 hG5 hX5 => ?_)
    have hE6 := hE0.tr hX5
    refine j_aload_n dX5_restore_16 rfl rfl ?_
    refine j_getfield (v := iv 0) dX5_restore_17 jf_X5_42 hG5.1 rfl ?_
    refine j_if_le (tgt := 25) dX5_restore_20 (by decide) (by omega) (fun c7 => ?_) (fun c7 => absurd (by decide) c7)
    refine j_aload_n dX5_restore_25 rfl rfl ?_
    refine j_getfield (v := .ref (k + 3)) dX5_restore_26 jf_X5_16 hG5.1 rfl ?_
    refine j_iconst dX5_restore_29 ?_
    refine j_aload_n dX5_restore_30 rfl rfl ?_
    refine j_getfield (v := .ref (k + 1)) dX5_restore_31 jf_X5_9 hG5.1 rfl ?_
    refine j_iconst dX5_restore_34 ?_
    refine j_sipush dX5_restore_35 (by decide +kernel) ?_
    refine jo_cpy (S := sM) (k := k) (f := G 2) (by decide) dX5_restore_38 (jw_mem 1513 (by decide +kernel) (by decide +kernel)) (jw_mem 1025 (by decide +kernel) (by decide +kernel)) (jw_mem 1024 (by decide +kernel) (by decide +kernel)) (jw_mem 109 (by decide +kernel) (by decide +kernel)) okM hG5 (i := 0) (p := 1) rfl (hG5.a 2 3 0 141 rfl) (by omega) (fun _ => rfl) (by decide) (by decide) (fun h8 hG8 hX8 => ?_)
    have hE9 := hE6.tr hX8
    refine j_aload_n dX5_restore_41 rfl rfl ?_
    refine j_iconst dX5_restore_42 ?_
    refine jo_put (S := sM) dX5_restore_43 jf_X5_51 (fun q hq => by cases hq; exact ⟨rfl, rfl⟩) (jHold_int _) okM hG8 rfl (fun h10 hG10 hX10 => ?_)
    have hE11 := hE9.tr hX10
    refine j_aload_n dX5_restore_46 rfl rfl ?_
    refine j_getfield (v := .ref (k + 1)) dX5_restore_47 jf_X5_9 hG10.1 rfl ?_
    refine j_iconst dX5_restore_50 ?_
    refine j_iaload (f := jcpy (G 2) (G 0) 0 0 141) dX5_restore_51 (hG10.a 0 1 0 141 rfl) (by omega) (by decide) ?_
    subst hZ
    exact j_ireturn dX5_restore_52 rfl rfl (jWi.i (if_neg c1) hG10 hE11) (Nat.le_refl _) (Nat.le_refl _)
set_option maxHeartbeats 4000000 in
/-- reference: isHere -/
theorem c5_isHere {k : Nat} {G : fS} {h : jH} (hG : jOb sM k G h) {lo hi : Int} (hl : 0 ≤ lo ∧ lo < 65536) (hh : 0 ≤ hi ∧ hi < 65536) (ht : 0 ≤ G 17 0 ∧ G 17 0 ≤ 60) (hm : 0 ≤ G 16 0 ∧ G 16 0 ≤ 60) (hw : G 18 0 = 0 ∨ G 18 0 = 1) (hc : ∀ j, 0 ≤ G 15 j ∧ G 15 j < 65536) : jM mX5_isHere 1 0 0 [] [.ref k, iv lo, iv hi] h (jRet (iv (bi (G 18 0 = 0 ∧ G 17 0 < G 16 0 ∧ lo ≤ G 15 (G 17 0) ∧ G 15 (G 17 0) ≤ hi))) h) jno := by
  refine j_method (by decide +kernel) rfl (fun _ _ _ => trivial) (Nat.le_of_ble_eq_true rfl) ?_
  generalize hZ : jZ [] 0 0 _ _ = Z
  show J mX5_isHere (jR 1 0 0) [] Z 0 [(0, .ref k), (1, iv lo), (2, iv hi)] [] h 0 0
  have hc9 := hc (G 17 0)
  refine j_aload_n dX5_isHere_0 rfl rfl ?_
  refine j_getfield (v := iv (G 18 0)) dX5_isHere_1 jf_X5_207 hG.1 rfl ?_
  refine j_if_ne (tgt := 39) dX5_isHere_4 (by decide) (by omega) (fun c1 => ?_) (fun c1 => ?_)
  · refine j_iconst dX5_isHere_39 ?_
    subst hZ
    exact j_ireturn dX5_isHere_40 rfl rfl (jRet.i (by first | exact bi_t (by omega) | exact bi_f (by omega))) (Nat.le_refl _) (Nat.le_refl _)
  · refine j_aload_n dX5_isHere_7 rfl rfl ?_
    refine j_getfield (v := iv (G 17 0)) dX5_isHere_8 jf_X5_210 hG.1 rfl ?_
    refine j_aload_n dX5_isHere_11 rfl rfl ?_
    refine j_getfield (v := iv (G 16 0)) dX5_isHere_12 jf_X5_204 hG.1 rfl ?_
    refine j_icmp_ge (tgt := 39) dX5_isHere_15 (by decide) (by omega) (fun c2 => ?_) (fun c2 => ?_)
    · refine j_iconst dX5_isHere_39 ?_
      subst hZ
      exact j_ireturn dX5_isHere_40 rfl rfl (jRet.i (by first | exact bi_t (by omega) | exact bi_f (by omega))) (Nat.le_refl _) (Nat.le_refl _)
    · refine j_aload_n dX5_isHere_18 rfl rfl ?_
      refine j_getfield (v := .ref (k + 8)) dX5_isHere_19 jf_X5_32 hG.1 rfl ?_
      refine j_aload_n dX5_isHere_22 rfl rfl ?_
      refine j_getfield (v := iv (G 17 0)) dX5_isHere_23 jf_X5_210 hG.1 rfl ?_
      refine j_caload (f := G 15) dX5_isHere_26 (hG.a 15 8 2 60 rfl) (by omega) (by decide) ?_
      refine j_iload_n dX5_isHere_27 rfl rfl ?_
      refine j_iload_n dX5_isHere_28 rfl rfl ?_
      refine j_callS (c5_in (by omega)) dX5_isHere_29 jc_X5_64 jmS_X5_in rfl rfl rfl (by simp) jfr_nil (Nat.le_of_ble_eq_true rfl) ⟨Nat.le_of_ble_eq_true rfl, Nat.le_of_ble_eq_true rfl⟩ ⟨Nat.le_of_ble_eq_true rfl, Nat.le_of_ble_eq_true rfl⟩ (fun r h3 hp9 => ?_) (fun E h9 q => q.elim)
      obtain ⟨rfl, rfl⟩ := hp9
      refine j_if_eq (tgt := 39) dX5_isHere_32 (by decide) (bi_r32 _) (fun c4 => ?_) (fun c4 => ?_)
      · have qc4 := bi_z c4
        refine j_iconst dX5_isHere_39 ?_
        subst hZ
        exact j_ireturn dX5_isHere_40 rfl rfl (jRet.i (by first | exact bi_t (by omega) | exact bi_f (by omega))) (Nat.le_refl _) (Nat.le_refl _)
      · have qc4 := bi_nz c4
        refine j_iconst dX5_isHere_35 ?_
        refine j_goto (tgt := 40) dX5_isHere_36 (by decide) ?_
        subst hZ
        exact j_ireturn dX5_isHere_40 rfl rfl (jRet.i (by first | exact bi_t (by omega) | exact bi_f (by omega))) (Nat.le_refl _) (Nat.le_refl _)
