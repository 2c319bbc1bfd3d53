theorem mflc {B : Int} {f : Int → Int} (h : jOk B (mK f)) (hA : fAc (mK f)) {p o : Int} (hp : 0 ≤ p ∧ p < f 0) (ho : 0 ≤ o ∧ o < f 0) (he : frt (mK f) p = frt (mK f) o) : 0 ≤ flc (mK f) p o ∧ flc (mK f) p o < f 0 := flc_rg h hA _ p o (Nat.lt_succ_self _) hp.1 hp.2 ho.1 he
theorem flc_self {B : Int} {F : fS} (h : jOk B F) (hA : fAc F) {p : Int} (hp : 0 ≤ p) : flc F p p = p := flc_t h (by rw [fab_st h hA (by omega : p ≠ -1)]; simp)
theorem faw_self {B : Int} {F : fS} (h : jOk B F) (hA : fAc F) {p : Int} (hp : 0 ≤ p) : faw F p p = 0 := by
  unfold faw
  rw [flc_self h hA hp]
  omega
theorem faw_rg (F : fS) (p o : Int) : -48 ≤ faw F p o ∧ faw F p o ≤ 48 := by
  have h1 := fdep_rg F p
  have h2 := fdep_rg F o
  have h3 := fdep_rg F (flc F p o)
  unfold faw
  omega
set_option maxHeartbeats 4000000 in
/-- reference: lowestCommon -/
theorem c5_lowestCommon {k : Nat} {G : fS} {f : Int → Int} {B : Int} {h : jH} (hG : jOb sM k G h) (hf : G 0 = f) (hO : jOk B (mK f)) (hA : fAc (mK f)) {p o : Int} (hp : 0 ≤ p ∧ p < f 0) (ho : 0 ≤ o ∧ o < f 0) (he : frt (mK f) p = frt (mK f) o) : jM mX5_lowestCommon 2 0 0 [] [.ref k, iv p, iv o] h (jRet (iv (flc (mK f) p o)) h) jno := by
  refine j_method (by decide +kernel) rfl (fun _ _ _ => trivial) (Nat.le_of_ble_eq_true rfl) ?_
  generalize hZ : jZ [] 0 0 _ _ = Z
  show J mX5_lowestCommon (jR 2 0 0) [] Z 0 [(0, .ref k), (1, iv p), (2, iv o)] [] h 0 0
  subst hf
  have hn := mK_n hO
  have hb := hO.b
  refine j_iload_n dX5_lowestCommon_0 rfl rfl ?_
  refine j_istore_n (L' := [(0, _), (1, _), (2, _), (3, _)]) dX5_lowestCommon_1 rfl (by decide) rfl ?_
  refine jloop (P := fun z9 : Int => J mX5_lowestCommon (jR 2 0 0) [] Z 2 [(0, .ref k), (1, iv p), (2, iv o), (3, iv z9)] [] h 0 0) (fun z9 => 0 ≤ z9 ∧ z9 < G 0 0 ∧ frt (mK (G 0)) z9 = frt (mK (G 0)) o ∧ flc (mK (G 0)) p o = flc (mK (G 0)) z9 o) (fun z9 => (fdep (mK (G 0)) z9).toNat) ?_ p ?_
  · rintro x hinv ih
    obtain ⟨i1, i2, i3, i4⟩ := hinv
    have hx9 : _ ∧ _ < G 0 0 := hO.p x
    have hx8 := fdep_rg (mK (G 0)) x
    have hx6 := fdep_rg (mK (G 0)) (mK (G 0) 0 x)
    refine j_aload_n dX5_lowestCommon_2 rfl rfl ?_
    refine j_iload_n dX5_lowestCommon_3 rfl rfl ?_
    refine j_iload_n dX5_lowestCommon_4 rfl rfl ?_
    refine j_callV (c5_isAbove hG (f := (G 0)) rfl hO hA (by omega) (by omega)) dX5_lowestCommon_5 jc_X5_124 jmV_X5_isAbove rfl rfl hG.1 rfl rfl (by simp) jfr_nil (Nat.le_of_ble_eq_true rfl) ⟨Nat.le_of_ble_eq_true rfl, Nat.le_of_ble_eq_true rfl⟩ ⟨Nat.le_of_ble_eq_true rfl, Nat.le_of_ble_eq_true rfl⟩ (fun r h1 hp9 => ?_) (fun E h9 q => q.elim)
    obtain ⟨rfl, rfl⟩ := hp9
    refine j_if_ne (tgt := 20) dX5_lowestCommon_8 (by decide) (bi_r32 _) (fun c2 => ?_) (fun c2 => ?_)
    · have qc2 := bi_nz c2
      refine j_iload_n dX5_lowestCommon_20 rfl rfl ?_
      subst hZ
      exact j_ireturn dX5_lowestCommon_21 rfl rfl (jRet.i (by rw [i4, flc_t hO qc2])) (Nat.le_refl _) (Nat.le_refl _)
    · have qc2 := bi_z c2
      refine j_aload_n dX5_lowestCommon_11 rfl rfl ?_
      refine j_iload_n dX5_lowestCommon_12 rfl rfl ?_
      refine j_callV (c5_parent hG (f := (G 0)) rfl hO (by omega)) dX5_lowestCommon_13 jc_X5_68 jmV_X5_parent rfl rfl hG.1 rfl rfl (by simp) jfr_nil (Nat.le_of_ble_eq_true rfl) ⟨Nat.le_of_ble_eq_true rfl, Nat.le_of_ble_eq_true rfl⟩ ⟨Nat.le_of_ble_eq_true rfl, Nat.le_of_ble_eq_true rfl⟩ (fun r h3 hp9 => ?_) (fun E h9 q => q.elim)
      obtain ⟨rfl, rfl⟩ := hp9
      have hpp9 : -1 ≤ mK (G 0) 0 x ∧ mK (G 0) 0 x < (G 0) 0 := hO.p x
      refine j_istore_n (L' := [(0, _), (1, _), (2, _), (3, _)]) dX5_lowestCommon_16 rfl (by decide) rfl ?_
      refine j_goto (tgt := 2) dX5_lowestCommon_17 (by decide) ?_
      have hx4 : mK (G 0) 0 x ≠ -1 := fun q => qc2 (fab_root hO hA ho.1 q i3)
      have hs := fdep_st hO hA hx4
      have hq : fab (mK (G 0)) x o = false := by cases hq : fab (mK (G 0)) x o with
          | true => exact absurd hq qc2
          | false => rfl
      exact ih (mK (G 0) 0 x) ⟨by omega, by omega, by rw [← frt_st hO hA hx4]; exact i3, by rw [i4]; exact flc_f hO hA (by omega) hq⟩ (by omega)
  · exact ⟨by omega, by omega, he, rfl⟩
set_option maxHeartbeats 4000000 in
/-- reference: away -/
theorem c5_away {k : Nat} {G : fS} {f : Int → Int} {B : Int} {h : jH} (hG : jOb sM k G h) (hf : G 0 = f) (hO : jOk B (mK f)) (hA : fAc (mK f)) {p o : Int} (hp : 0 ≤ p ∧ p < f 0) (ho : 0 ≤ o ∧ o < f 0) (he : frt (mK f) p = frt (mK f) o) : jM mX5_away 3 0 0 [] [.ref k, iv p, iv o] h (jRet (iv (faw (mK f) p o)) h) jno := by
  refine j_method (by decide +kernel) rfl (fun _ _ _ => trivial) (Nat.le_of_ble_eq_true rfl) ?_
  generalize hZ : jZ [] 0 0 _ _ = Z
  show J mX5_away (jR 3 0 0) [] Z 0 [(0, .ref k), (1, iv p), (2, iv o)] [] h 0 0
  subst hf
  have hn := mK_n hO
  have hb := hO.b
  refine j_aload_n dX5_away_0 rfl rfl ?_
  refine j_iload_n dX5_away_1 rfl rfl ?_
  refine j_callV (c5_depth hG (f := (G 0)) rfl hO hA (by omega)) dX5_away_2 jc_X5_118 jmV_X5_depth rfl rfl hG.1 rfl rfl (by simp) jfr_nil (Nat.le_of_ble_eq_true rfl) ⟨Nat.le_of_ble_eq_true rfl, Nat.le_of_ble_eq_true rfl⟩ ⟨Nat.le_of_ble_eq_true rfl, Nat.le_of_ble_eq_true rfl⟩ (fun r h1 hp9 => ?_) (fun E h9 q => q.elim)
  obtain ⟨rfl, rfl⟩ := hp9
  have hd9 := fdep_rg (mK (G 0)) p
  refine j_aload_n dX5_away_5 rfl rfl ?_
  refine j_iload_n dX5_away_6 rfl rfl ?_
  refine j_callV (c5_depth hG (f := (G 0)) rfl hO hA (by omega)) dX5_away_7 jc_X5_118 jmV_X5_depth rfl rfl hG.1 rfl rfl (by simp) jfr_nil (Nat.le_of_ble_eq_true rfl) ⟨Nat.le_of_ble_eq_true rfl, Nat.le_of_ble_eq_true rfl⟩ ⟨Nat.le_of_ble_eq_true rfl, Nat.le_of_ble_eq_true rfl⟩ (fun r h2 hp9 => ?_) (fun E h9 q => q.elim)
  obtain ⟨rfl, rfl⟩ := hp9
  have hd9 := fdep_rg (mK (G 0)) o
  refine j_iadd dX5_away_10 ?_
  refine j_iconst dX5_away_11 ?_
  refine j_aload_n dX5_away_12 rfl rfl ?_
  refine j_aload_n dX5_away_13 rfl rfl ?_
  refine j_iload_n dX5_away_14 rfl rfl ?_
  refine j_iload_n dX5_away_15 rfl rfl ?_
  refine j_callV (c5_lowestCommon hG (f := (G 0)) rfl hO hA (by omega) (by omega) he) dX5_away_16 jc_X5_128 jmV_X5_lowestCommon rfl rfl hG.1 rfl rfl (by simp) jfr_nil (Nat.le_of_ble_eq_true rfl) ⟨Nat.le_of_ble_eq_true rfl, Nat.le_of_ble_eq_true rfl⟩ ⟨Nat.le_of_ble_eq_true rfl, Nat.le_of_ble_eq_true rfl⟩ (fun r h3 hp9 => ?_) (fun E h9 q => q.elim)
  obtain ⟨rfl, rfl⟩ := hp9
  have hf9 := mflc hO hA (p := p) (o := o) (by omega) (by omega) he
  refine j_callV (c5_depth hG (f := (G 0)) rfl hO hA (by omega)) dX5_away_19 jc_X5_118 jmV_X5_depth rfl rfl hG.1 rfl rfl (by simp) jfr_nil (Nat.le_of_ble_eq_true rfl) ⟨Nat.le_of_ble_eq_true rfl, Nat.le_of_ble_eq_true rfl⟩ ⟨Nat.le_of_ble_eq_true rfl, Nat.le_of_ble_eq_true rfl⟩ (fun r h4 hp9 => ?_) (fun E h9 q => q.elim)
  obtain ⟨rfl, rfl⟩ := hp9
  have hd9 := fdep_rg (mK (G 0)) (flc (mK (G 0)) p o)
  refine j_imul dX5_away_22 ?_
  refine j_isub dX5_away_23 ?_
  subst hZ
  exact j_ireturn dX5_away_24 rfl rfl (jRet.i rfl) (Nat.le_refl _) (Nat.le_refl _)
set_option maxHeartbeats 4000000 in
/-- reference: areOfOne -/
theorem c5_areOfOne {k : Nat} {G : fS} {f : Int → Int} {B : Int} {h : jH} (hG : jOb sM k G h) (hf : G 0 = f) (hO : jOk B (mK f)) (hA : fAc (mK f)) {p o : Int} (hp : 0 ≤ p ∧ p < f 0) (ho : 0 ≤ o ∧ o < f 0) : jM mX5_areOfOne 2 0 0 [] [.ref k, iv p, iv o] h (jRet (iv (bi (frt (mK f) p = frt (mK f) o))) h) jno := by
  refine j_method (by decide +kernel) rfl (fun _ _ _ => trivial) (Nat.le_of_ble_eq_true rfl) ?_
  generalize hZ : jZ [] 0 0 _ _ = Z
  show J mX5_areOfOne (jR 2 0 0) [] Z 0 [(0, .ref k), (1, iv p), (2, iv o)] [] h 0 0
  subst hf
  have hn := mK_n hO
  have hb := hO.b
  refine j_aload_n dX5_areOfOne_0 rfl rfl ?_
  refine j_iload_n dX5_areOfOne_1 rfl rfl ?_
  refine j_callV (c5_rootOf hG (f := (G 0)) rfl hO hA (by omega)) dX5_areOfOne_2 jc_X5_102 jmV_X5_rootOf rfl rfl hG.1 rfl rfl (by simp) jfr_nil (Nat.le_of_ble_eq_true rfl) ⟨Nat.le_of_ble_eq_true rfl, Nat.le_of_ble_eq_true rfl⟩ ⟨Nat.le_of_ble_eq_true rfl, Nat.le_of_ble_eq_true rfl⟩ (fun r h1 hp9 => ?_) (fun E h9 q => q.elim)
  obtain ⟨rfl, rfl⟩ := hp9
  have hr9 := mfrt hO hA (x := p) (by omega)
  refine j_aload_n dX5_areOfOne_5 rfl rfl ?_
  refine j_iload_n dX5_areOfOne_6 rfl rfl ?_
  refine j_callV (c5_rootOf hG (f := (G 0)) rfl hO hA (by omega)) dX5_areOfOne_7 jc_X5_102 jmV_X5_rootOf rfl rfl hG.1 rfl rfl (by simp) jfr_nil (Nat.le_of_ble_eq_true rfl) ⟨Nat.le_of_ble_eq_true rfl, Nat.le_of_ble_eq_true rfl⟩ ⟨Nat.le_of_ble_eq_true rfl, Nat.le_of_ble_eq_true rfl⟩ (fun r h2 hp9 => ?_) (fun E h9 q => q.elim)
  obtain ⟨rfl, rfl⟩ := hp9
  have hr9 := mfrt hO hA (x := o) (by omega)
  refine j_icmp_ne (tgt := 17) dX5_areOfOne_10 (by decide) (by omega) (fun c3 => ?_) (fun c3 => ?_)
  · refine j_iconst dX5_areOfOne_17 ?_
    subst hZ
    exact j_ireturn dX5_areOfOne_18 rfl rfl (jRet.i (by first | exact bi_t (by omega) | exact bi_f (by omega))) (Nat.le_refl _) (Nat.le_refl _)
  · refine j_iconst dX5_areOfOne_13 ?_
    refine j_goto (tgt := 18) dX5_areOfOne_14 (by decide) ?_
    subst hZ
    exact j_ireturn dX5_areOfOne_18 rfl rfl (jRet.i (by first | exact bi_t (by omega) | exact bi_f (by omega))) (Nat.le_refl _) (Nat.le_refl _)
def m_common (G : fS) (p o a : Int) : Int × fS := if (bi (0 ≤ p ∧ p < (G 0) 0)) = 0 then (0, gn G 6 1) else if (bi (0 ≤ o ∧ o < (G 0) 0)) = 0 then (0, gn G 6 1) else if (bi (frt (mK (G 0)) p = frt (mK (G 0)) o)) = 0 then (0, gn G 6 2) else (flc (mK (G 0)) p o, gn G 6 0)
set_option maxHeartbeats 4000000 in
/-- reference: common -/
theorem c5_common {k : Nat} {G : fS} {f : Int → Int} {B : Int} {h : jH} (hG : jOb sM k G h) (hf : G 0 = f) (hO : jOk B (mK f)) (hA : fAc (mK f)) {p o : Int} (hp : -2147483648 ≤ p ∧ p ≤ 2147483647) (ho : -2147483648 ≤ o ∧ o ≤ 2147483647) {a : Int} : jM mX5_common 4 0 0 [] [.ref k, iv p, iv o, iv a] h (jWi sM k (m_common G p o a) h) jno := by
  refine j_method (by decide +kernel) rfl (fun _ _ _ => trivial) (Nat.le_of_ble_eq_true rfl) ?_
  generalize hZ : jZ [] 0 0 _ _ = Z
  show J mX5_common (jR 4 0 0) [] Z 0 [(0, .ref k), (1, iv p), (2, iv o), (3, iv a)] [] h 0 0
  subst hf
  have hn := mK_n hO
  have hb := hO.b
  have hE0 : jEx k 10 h h := jEx.rf
  refine j_aload_n dX5_common_0 rfl rfl ?_
  refine j_aload_n dX5_common_1 rfl rfl ?_
  refine j_iload_n dX5_common_2 rfl rfl ?_
  refine j_callV (c5_has hG (f := (G 0)) rfl (by omega) (by omega)) dX5_common_3 jc_X5_89 jmV_X5_has rfl rfl hG.1 rfl rfl (by simp) jfr_nil (Nat.le_of_ble_eq_true rfl) ⟨Nat.le_of_ble_eq_true rfl, Nat.le_of_ble_eq_true rfl⟩ ⟨Nat.le_of_ble_eq_true rfl, Nat.le_of_ble_eq_true rfl⟩ (fun r h1 hp9 => ?_) (fun E h9 q => q.elim)
  obtain ⟨rfl, rfl⟩ := hp9
  refine j_if_eq (tgt := 17) dX5_common_6 (by decide) (bi_r32 _) (fun c2 => ?_) (fun c2 => ?_)
  · have qc2 := bi_z c2
    refine j_iconst dX5_common_17 ?_
    refine j_goto (tgt := 35) dX5_common_18 (by decide) ?_
    refine jo_put (S := sM) dX5_common_35 jf_X5_42 (fun q hq => by cases hq; exact ⟨rfl, rfl⟩) (jHold_int _) okM hG rfl (fun h3 hG3 hX3 => ?_)
    have hE4 := hE0.tr hX3
    refine j_aload_n dX5_common_38 rfl rfl ?_
    refine j_getfield (v := iv 1) dX5_common_39 jf_X5_42 hG3.1 rfl ?_
    refine j_if_le (tgt := 49) dX5_common_42 (by decide) (by omega) (fun c5 => absurd c5 (by decide)) (fun c5 => ?_)
    refine j_iconst dX5_common_45 ?_
    refine j_goto (tgt := 55) dX5_common_46 (by decide) ?_
    subst hZ
    exact j_ireturn dX5_common_55 rfl rfl (jWi.i (if_pos c2) hG3 hE4) (Nat.le_refl _) (Nat.le_refl _)
  · have qc2 := bi_nz c2
    refine j_aload_n dX5_common_9 rfl rfl ?_
    refine j_iload_n dX5_common_10 rfl rfl ?_
    refine j_callV (c5_has hG (f := (G 0)) rfl (by omega) (by omega)) dX5_common_11 jc_X5_89 jmV_X5_has rfl rfl hG.1 rfl rfl (by simp) jfr_nil (Nat.le_of_ble_eq_true rfl) ⟨Nat.le_of_ble_eq_true rfl, Nat.le_of_ble_eq_true rfl⟩ ⟨Nat.le_of_ble_eq_true rfl, Nat.le_of_ble_eq_true rfl⟩ (fun r h6 hp9 => ?_) (fun E h9 q => q.elim)
    obtain ⟨rfl, rfl⟩ := hp9
    refine j_if_ne (tgt := 21) dX5_common_14 (by decide) (bi_r32 _) (fun c7 => ?_) (fun c7 => ?_)
    · have qc7 := bi_nz c7
      refine j_aload_n dX5_common_21 rfl rfl ?_
      refine j_iload_n dX5_common_22 rfl rfl ?_
      refine j_iload_n dX5_common_23 rfl rfl ?_
      refine j_callV (c5_areOfOne hG (f := (G 0)) rfl hO hA (by omega) (by omega)) dX5_common_24 jc_X5_131 jmV_X5_areOfOne rfl rfl hG.1 rfl rfl (by simp) jfr_nil (Nat.le_of_ble_eq_true rfl) ⟨Nat.le_of_ble_eq_true rfl, Nat.le_of_ble_eq_true rfl⟩ ⟨Nat.le_of_ble_eq_true rfl, Nat.le_of_ble_eq_true rfl⟩ (fun r h8 hp9 => ?_) (fun E h9 q => q.elim)
      obtain ⟨rfl, rfl⟩ := hp9
      refine j_if_ne (tgt := 34) dX5_common_27 (by decide) (bi_r32 _) (fun c9 => ?_) (fun c9 => ?_)
      · have qc9 := bi_nz c9
        refine j_iconst dX5_common_34 ?_
        refine jo_put (S := sM) dX5_common_35 jf_X5_42 (fun q hq => by cases hq; exact ⟨rfl, rfl⟩) (jHold_int _) okM hG rfl (fun h10 hG10 hX10 => ?_)
        have hE11 := hE0.tr hX10
        refine j_aload_n dX5_common_38 rfl rfl ?_
        refine j_getfield (v := iv 0) dX5_common_39 jf_X5_42 hG10.1 rfl ?_
        refine j_if_le (tgt := 49) dX5_common_42 (by decide) (by omega) (fun c12 => ?_) (fun c12 => absurd (by decide) c12)
        refine j_aload_n dX5_common_49 rfl rfl ?_
        refine j_iload_n dX5_common_50 rfl rfl ?_
        refine j_iload_n dX5_common_51 rfl rfl ?_
        refine j_callV (c5_lowestCommon hG10 (f := (G 0)) rfl hO hA (by omega) (by omega) (by assumption)) dX5_common_52 jc_X5_128 jmV_X5_lowestCommon rfl rfl hG10.1 rfl rfl (by simp) jfr_nil (Nat.le_of_ble_eq_true rfl) ⟨Nat.le_of_ble_eq_true rfl, Nat.le_of_ble_eq_true rfl⟩ ⟨Nat.le_of_ble_eq_true rfl, Nat.le_of_ble_eq_true rfl⟩ (fun r h13 hp9 => ?_) (fun E h9 q => q.elim)
        obtain ⟨rfl, rfl⟩ := hp9
        subst hZ
        exact j_ireturn dX5_common_55 rfl rfl (jWi.i ((if_neg c2).trans ((if_neg c7).trans (if_neg c9))) hG10 hE11) (Nat.le_refl _) (Nat.le_refl _)
      · have qc9 := bi_z c9
        refine j_iconst dX5_common_30 ?_
        refine j_goto (tgt := 35) dX5_common_31 (by decide) ?_
        refine jo_put (S := sM) dX5_common_35 jf_X5_42 (fun q hq => by cases hq; exact ⟨rfl, rfl⟩) (jHold_int _) okM hG rfl (fun h14 hG14 hX14 => ?_)
        have hE15 := hE0.tr hX14
        refine j_aload_n dX5_common_38 rfl rfl ?_
        refine j_getfield (v := iv 2) dX5_common_39 jf_X5_42 hG14.1 rfl ?_
        refine j_if_le (tgt := 49) dX5_common_42 (by decide) (by omega) (fun c16 => absurd c16 (by decide)) (fun c16 => ?_)
        refine j_iconst dX5_common_45 ?_
        refine j_goto (tgt := 55) dX5_common_46 (by decide) ?_
        subst hZ
        exact j_ireturn dX5_common_55 rfl rfl (jWi.i ((if_neg c2).trans ((if_neg c7).trans (if_pos c9))) hG14 hE15) (Nat.le_refl _) (Nat.le_refl _)
    · have qc7 := bi_z c7
      refine j_iconst dX5_common_17 ?_
      refine j_goto (tgt := 35) dX5_common_18 (by decide) ?_
      refine jo_put (S := sM) dX5_common_35 jf_X5_42 (fun q hq => by cases hq; exact ⟨rfl, rfl⟩) (jHold_int _) okM hG rfl (fun h17 hG17 hX17 => ?_)
      have hE18 := hE0.tr hX17
      refine j_aload_n dX5_common_38 rfl rfl ?_
      refine j_getfield (v := iv 1) dX5_common_39 jf_X5_42 hG17.1 rfl ?_
      refine j_if_le (tgt := 49) dX5_common_42 (by decide) (by omega) (fun c19 => absurd c19 (by decide)) (fun c19 => ?_)
      refine j_iconst dX5_common_45 ?_
      refine j_goto (tgt := 55) dX5_common_46 (by decide) ?_
      subst hZ
      exact j_ireturn dX5_common_55 rfl rfl (jWi.i ((if_neg c2).trans (if_pos c7)) hG17 hE18) (Nat.le_refl _) (Nat.le_refl _)
def m_degree (G : fS) (p o : Int) : Int × fS := if (bi (0 ≤ p ∧ p < (G 0) 0)) = 0 then (0, gn G 6 1) else if (bi (0 ≤ o ∧ o < (G 0) 0)) = 0 then (0, gn G 6 1) else if (bi (frt (mK (G 0)) p = frt (mK (G 0)) o)) = 0 then (0, gn G 6 2) else (faw (mK (G 0)) p o, gn G 6 0)
set_option maxHeartbeats 4000000 in
/-- reference: degree -/
theorem c5_degree {k : Nat} {G : fS} {f : Int → Int} {B : Int} {h : jH} (hG : jOb sM k G h) (hf : G 0 = f) (hO : jOk B (mK f)) (hA : fAc (mK f)) {p o : Int} (hp : -2147483648 ≤ p ∧ p ≤ 2147483647) (ho : -2147483648 ≤ o ∧ o ≤ 2147483647) : jM mX5_degree 4 0 0 [] [.ref k, iv p, iv o] h (jWi sM k (m_degree G p o) h) jno := by
  refine j_method (by decide +kernel) rfl (fun _ _ _ => trivial) (Nat.le_of_ble_eq_true rfl) ?_
  generalize hZ : jZ [] 0 0 _ _ = Z
  show J mX5_degree (jR 4 0 0) [] Z 0 [(0, .ref k), (1, iv p), (2, iv o)] [] h 0 0
  subst hf
  have hn := mK_n hO
  have hb := hO.b
  have hE0 : jEx k 10 h h := jEx.rf
  refine j_aload_n dX5_degree_0 rfl rfl ?_
  refine j_aload_n dX5_degree_1 rfl rfl ?_
  refine j_iload_n dX5_degree_2 rfl rfl ?_
  refine j_callV (c5_has hG (f := (G 0)) rfl (by omega) (by omega)) dX5_degree_3 jc_X5_89 jmV_X5_has rfl rfl hG.1 rfl rfl (by simp) jfr_nil (Nat.le_of_ble_eq_true rfl) ⟨Nat.le_of_ble_eq_true rfl, Nat.le_of_ble_eq_true rfl⟩ ⟨Nat.le_of_ble_eq_true rfl, Nat.le_of_ble_eq_true rfl⟩ (fun r h1 hp9 => ?_) (fun E h9 q => q.elim)
  obtain ⟨rfl, rfl⟩ := hp9
  refine j_if_eq (tgt := 17) dX5_degree_6 (by decide) (bi_r32 _) (fun c2 => ?_) (fun c2 => ?_)
  · have qc2 := bi_z c2
    refine j_iconst dX5_degree_17 ?_
    refine j_goto (tgt := 35) dX5_degree_18 (by decide) ?_
    refine jo_put (S := sM) dX5_degree_35 jf_X5_42 (fun q hq => by cases hq; exact ⟨rfl, rfl⟩) (jHold_int _) okM hG rfl (fun h3 hG3 hX3 => ?_)
    have hE4 := hE0.tr hX3
    refine j_aload_n dX5_degree_38 rfl rfl ?_
    refine j_getfield (v := iv 1) dX5_degree_39 jf_X5_42 hG3.1 rfl ?_
    refine j_if_le (tgt := 49) dX5_degree_42 (by decide) (by omega) (fun c5 => absurd c5 (by decide)) (fun c5 => ?_)
    refine j_iconst dX5_degree_45 ?_
    refine j_goto (tgt := 55) dX5_degree_46 (by decide) ?_
    subst hZ
    exact j_ireturn dX5_degree_55 rfl rfl (jWi.i (if_pos c2) hG3 hE4) (Nat.le_refl _) (Nat.le_refl _)
  · have qc2 := bi_nz c2
    refine j_aload_n dX5_degree_9 rfl rfl ?_
    refine j_iload_n dX5_degree_10 rfl rfl ?_
    refine j_callV (c5_has hG (f := (G 0)) rfl (by omega) (by omega)) dX5_degree_11 jc_X5_89 jmV_X5_has rfl rfl hG.1 rfl rfl (by simp) jfr_nil (Nat.le_of_ble_eq_true rfl) ⟨Nat.le_of_ble_eq_true rfl, Nat.le_of_ble_eq_true rfl⟩ ⟨Nat.le_of_ble_eq_true rfl, Nat.le_of_ble_eq_true rfl⟩ (fun r h6 hp9 => ?_) (fun E h9 q => q.elim)
    obtain ⟨rfl, rfl⟩ := hp9
    refine j_if_ne (tgt := 21) dX5_degree_14 (by decide) (bi_r32 _) (fun c7 => ?_) (fun c7 => ?_)
    · have qc7 := bi_nz c7
      refine j_aload_n dX5_degree_21 rfl rfl ?_
      refine j_iload_n dX5_degree_22 rfl rfl ?_
      refine j_iload_n dX5_degree_23 rfl rfl ?_
      refine j_callV (c5_areOfOne hG (f := (G 0)) rfl hO hA (by omega) (by omega)) dX5_degree_24 jc_X5_131 jmV_X5_areOfOne rfl rfl hG.1 rfl rfl (by simp) jfr_nil (Nat.le_of_ble_eq_true rfl) ⟨Nat.le_of_ble_eq_true rfl, Nat.le_of_ble_eq_true rfl⟩ ⟨Nat.le_of_ble_eq_true rfl, Nat.le_of_ble_eq_true rfl⟩ (fun r h8 hp9 => ?_) (fun E h9 q => q.elim)
      obtain ⟨rfl, rfl⟩ := hp9
      refine j_if_ne (tgt := 34) dX5_degree_27 (by decide) (bi_r32 _) (fun c9 => ?_) (fun c9 => ?_)
      · have qc9 := bi_nz c9
        refine j_iconst dX5_degree_34 ?_
        refine jo_put (S := sM) dX5_degree_35 jf_X5_42 (fun q hq => by cases hq; exact ⟨rfl, rfl⟩) (jHold_int _) okM hG rfl (fun h10 hG10 hX10 => ?_)
        have hE11 := hE0.tr hX10
        refine j_aload_n dX5_degree_38 rfl rfl ?_
        refine j_getfield (v := iv 0) dX5_degree_39 jf_X5_42 hG10.1 rfl ?_
        refine j_if_le (tgt := 49) dX5_degree_42 (by decide) (by omega) (fun c12 => ?_) (fun c12 => absurd (by decide) c12)
        refine j_aload_n dX5_degree_49 rfl rfl ?_
        refine j_iload_n dX5_degree_50 rfl rfl ?_
        refine j_iload_n dX5_degree_51 rfl rfl ?_
        refine j_callV (c5_away hG10 (f := (G 0)) rfl hO hA (by omega) (by omega) (by assumption)) dX5_degree_52 jc_X5_134 jmV_X5_away rfl rfl hG10.1 rfl rfl (by simp) jfr_nil (Nat.le_of_ble_eq_true rfl) ⟨Nat.le_of_ble_eq_true rfl, Nat.le_of_ble_eq_true rfl⟩ ⟨Nat.le_of_ble_eq_true rfl, Nat.le_of_ble_eq_true rfl⟩ (fun r h13 hp9 => ?_) (fun E h9 q => q.elim)
        obtain ⟨rfl, rfl⟩ := hp9
        have hw9 := faw_rg (mK (G 0)) p o
        subst hZ
        exact j_ireturn dX5_degree_55 rfl rfl (jWi.i ((if_neg c2).trans ((if_neg c7).trans (if_neg c9))) hG10 hE11) (Nat.le_refl _) (Nat.le_refl _)
      · have qc9 := bi_z c9
        refine j_iconst dX5_degree_30 ?_
        refine j_goto (tgt := 35) dX5_degree_31 (by decide) ?_
        refine jo_put (S := sM) dX5_degree_35 jf_X5_42 (fun q hq => by cases hq; exact ⟨rfl, rfl⟩) (jHold_int _) okM hG rfl (fun h14 hG14 hX14 => ?_)
        have hE15 := hE0.tr hX14
        refine j_aload_n dX5_degree_38 rfl rfl ?_
        refine j_getfield (v := iv 2) dX5_degree_39 jf_X5_42 hG14.1 rfl ?_
        refine j_if_le (tgt := 49) dX5_degree_42 (by decide) (by omega) (fun c16 => absurd c16 (by decide)) (fun c16 => ?_)
        refine j_iconst dX5_degree_45 ?_
        refine j_goto (tgt := 55) dX5_degree_46 (by decide) ?_
        subst hZ
        exact j_ireturn dX5_degree_55 rfl rfl (jWi.i ((if_neg c2).trans ((if_neg c7).trans (if_pos c9))) hG14 hE15) (Nat.le_refl _) (Nat.le_refl _)
    · have qc7 := bi_z c7
      refine j_iconst dX5_degree_17 ?_
      refine j_goto (tgt := 35) dX5_degree_18 (by decide) ?_
      refine jo_put (S := sM) dX5_degree_35 jf_X5_42 (fun q hq => by cases hq; exact ⟨rfl, rfl⟩) (jHold_int _) okM hG rfl (fun h17 hG17 hX17 => ?_)
      have hE18 := hE0.tr hX17
      refine j_aload_n dX5_degree_38 rfl rfl ?_
      refine j_getfield (v := iv 1) dX5_degree_39 jf_X5_42 hG17.1 rfl ?_
      refine j_if_le (tgt := 49) dX5_degree_42 (by decide) (by omega) (fun c19 => absurd c19 (by decide)) (fun c19 => ?_)
      refine j_iconst dX5_degree_45 ?_
      refine j_goto (tgt := 55) dX5_degree_46 (by decide) ?_
      subst hZ
      exact j_ireturn dX5_degree_55 rfl rfl (jWi.i ((if_neg c2).trans (if_pos c7)) hG17 hE18) (Nat.le_refl _) (Nat.le_refl _)
def m_elder (G : fS) (p e a : Int) : Int × fS := if (bi (0 ≤ p ∧ p < (G 0) 0)) = 0 then (0, gn G 6 1) else if (m_elderOf (G 0) p e) = (-2) then (0, gn G 6 2) else (m_elderOf (G 0) p e, gn G 6 0)
set_option maxHeartbeats 4000000 in
/-- reference: elder -/
theorem c5_elder {k : Nat} {G : fS} {f : Int → Int} {B : Int} {h : jH} (hG : jOb sM k G h) (hf : G 0 = f) (hO : jOk B (mK f)) (hA : fAc (mK f)) {p e a : Int} (hp : -2147483648 ≤ p ∧ p ≤ 2147483647) (he : -2147483648 ≤ e ∧ e ≤ 2147483647) : jM mX5_elder 4 0 0 [] [.ref k, iv p, iv e, iv a] h (jWi sM k (m_elder G p e a) h) jno := by
  refine j_method (by decide +kernel) rfl (fun _ _ _ => trivial) (Nat.le_of_ble_eq_true rfl) ?_
  generalize hZ : jZ [] 0 0 _ _ = Z
  show J mX5_elder (jR 4 0 0) [] Z 0 [(0, .ref k), (1, iv p), (2, iv e), (3, iv a)] [] h 0 0
  subst hf
  have hn := mK_n hO
  have hb := hO.b
  have hE0 : jEx k 10 h h := jEx.rf
  refine j_aload_n dX5_elder_0 rfl rfl ?_
  refine j_aload_n dX5_elder_1 rfl rfl ?_
  refine j_iload_n dX5_elder_2 rfl rfl ?_
  refine j_callV (c5_has hG (f := (G 0)) rfl (by omega) (by omega)) dX5_elder_3 jc_X5_89 jmV_X5_has rfl rfl hG.1 rfl rfl (by simp) jfr_nil (Nat.le_of_ble_eq_true rfl) ⟨Nat.le_of_ble_eq_true rfl, Nat.le_of_ble_eq_true rfl⟩ ⟨Nat.le_of_ble_eq_true rfl, Nat.le_of_ble_eq_true rfl⟩ (fun r h1 hp9 => ?_) (fun E h9 q => q.elim)
  obtain ⟨rfl, rfl⟩ := hp9
  refine j_if_ne (tgt := 13) dX5_elder_6 (by decide) (bi_r32 _) (fun c2 => ?_) (fun c2 => ?_)
  · have qc2 := bi_nz c2
    refine j_aload_n dX5_elder_13 rfl rfl ?_
    refine j_iload_n dX5_elder_14 rfl rfl ?_
    refine j_iload_n dX5_elder_15 rfl rfl ?_
    refine j_callV (c5_elderOf hG (f := (G 0)) rfl hO hA (by omega) (by omega)) dX5_elder_16 jc_X5_121 jmV_X5_elderOf rfl rfl hG.1 rfl rfl (by simp) jfr_nil (Nat.le_of_ble_eq_true rfl) ⟨Nat.le_of_ble_eq_true rfl, Nat.le_of_ble_eq_true rfl⟩ ⟨Nat.le_of_ble_eq_true rfl, Nat.le_of_ble_eq_true rfl⟩ (fun r h3 hp9 => ?_) (fun E h9 q => q.elim)
    obtain ⟨rfl, rfl⟩ := hp9
    have hm9 := m_elderOf_r (e := e) hO (p := p) (by omega)
    refine j_bipush dX5_elder_19 (by decide +kernel) ?_
    refine j_icmp_ne (tgt := 28) dX5_elder_21 (by decide) (by omega) (fun c4 => ?_) (fun c4 => ?_)
    · refine j_iconst dX5_elder_28 ?_
      refine jo_put (S := sM) dX5_elder_29 jf_X5_42 (fun q hq => by cases hq; exact ⟨rfl, rfl⟩) (jHold_int _) okM hG rfl (fun h5 hG5 hX5 => ?_)
      have hE6 := hE0.tr hX5
      refine j_aload_n dX5_elder_32 rfl rfl ?_
      refine j_getfield (v := iv 0) dX5_elder_33 jf_X5_42 hG5.1 rfl ?_
      refine j_if_le (tgt := 43) dX5_elder_36 (by decide) (by omega) (fun c7 => ?_) (fun c7 => absurd (by decide) c7)
      refine j_aload_n dX5_elder_43 rfl rfl ?_
      refine j_iload_n dX5_elder_44 rfl rfl ?_
      refine j_iload_n dX5_elder_45 rfl rfl ?_
      refine j_callV (c5_elderOf hG5 (f := (G 0)) rfl hO hA (by omega) (by omega)) dX5_elder_46 jc_X5_121 jmV_X5_elderOf rfl rfl hG5.1 rfl rfl (by simp) jfr_nil (Nat.le_of_ble_eq_true rfl) ⟨Nat.le_of_ble_eq_true rfl, Nat.le_of_ble_eq_true rfl⟩ ⟨Nat.le_of_ble_eq_true rfl, Nat.le_of_ble_eq_true rfl⟩ (fun r h8 hp9 => ?_) (fun E h9 q => q.elim)
      obtain ⟨rfl, rfl⟩ := hp9
      have hm9 := m_elderOf_r (e := e) hO (p := p) (by omega)
      subst hZ
      exact j_ireturn dX5_elder_49 rfl rfl (jWi.i ((if_neg c2).trans (if_neg c4)) hG5 hE6) (Nat.le_refl _) (Nat.le_refl _)
    · refine j_iconst dX5_elder_24 ?_
      refine j_goto (tgt := 29) dX5_elder_25 (by decide) ?_
      refine jo_put (S := sM) dX5_elder_29 jf_X5_42 (fun q hq => by cases hq; exact ⟨rfl, rfl⟩) (jHold_int _) okM hG rfl (fun h9 hG9 hX9 => ?_)
      have hE10 := hE0.tr hX9
      refine j_aload_n dX5_elder_32 rfl rfl ?_
      refine j_getfield (v := iv 2) dX5_elder_33 jf_X5_42 hG9.1 rfl ?_
      refine j_if_le (tgt := 43) dX5_elder_36 (by decide) (by omega) (fun c11 => absurd c11 (by decide)) (fun c11 => ?_)
      refine j_iconst dX5_elder_39 ?_
      refine j_goto (tgt := 49) dX5_elder_40 (by decide) ?_
      subst hZ
      exact j_ireturn dX5_elder_49 rfl rfl (jWi.i ((if_neg c2).trans (if_pos c4)) hG9 hE10) (Nat.le_refl _) (Nat.le_refl _)
  · have qc2 := bi_z c2
    refine j_iconst dX5_elder_9 ?_
    refine j_goto (tgt := 29) dX5_elder_10 (by decide) ?_
    refine jo_put (S := sM) dX5_elder_29 jf_X5_42 (fun q hq => by cases hq; exact ⟨rfl, rfl⟩) (jHold_int _) okM hG rfl (fun h12 hG12 hX12 => ?_)
    have hE13 := hE0.tr hX12
    refine j_aload_n dX5_elder_32 rfl rfl ?_
    refine j_getfield (v := iv 1) dX5_elder_33 jf_X5_42 hG12.1 rfl ?_
    refine j_if_le (tgt := 43) dX5_elder_36 (by decide) (by omega) (fun c14 => absurd c14 (by decide)) (fun c14 => ?_)
    refine j_iconst dX5_elder_39 ?_
    refine j_goto (tgt := 49) dX5_elder_40 (by decide) ?_
    subst hZ
    exact j_ireturn dX5_elder_49 rfl rfl (jWi.i (if_pos c2) hG12 hE13) (Nat.le_refl _) (Nat.le_refl _)
def mlp : Nat → Int → Int
  | 0, _ => 0
  | k + 1, l => if 0 < l then (l - Int.tdiv l 2 * 2) + mlp k (Int.tdiv l 2) else 0
theorem mlp_st {l : Int} (h : 0 < l ∧ l < 32) : mlp 5 l = (l - Int.tdiv l 2 * 2) + mlp 5 (Int.tdiv l 2) := by
  have k : ∀ q : Fin 32, 0 < q.val → mlp 5 ((q.val : Nat) : Int) = (((q.val : Nat) : Int) - Int.tdiv ((q.val : Nat) : Int) 2 * 2) + mlp 5 (Int.tdiv ((q.val : Nat) : Int) 2) := by decide +kernel
  have e := k ⟨l.toNat, by omega⟩ (by show 0 < l.toNat; omega)
  dsimp only at e
  rw [Int.toNat_of_nonneg (by omega)] at e
  exact e
theorem tdiv2 {l : Int} (h : 0 ≤ l) : Int.tdiv l 2 = l / 2 := Int.tdiv_eq_ediv_of_nonneg h
def m_leaps (G : fS) (p e : Int) : Int × fS := if bi (0 ≤ p ∧ p < G 0 0) = 0 then (0, gn G 6 1) else if m_elderOf (G 0) p e = -2 then (0, gn G 6 2) else (mlp 5 e, gn G 6 0)
set_option maxHeartbeats 4000000 in
/-- reference: leaps -/
theorem c5_leaps {k : Nat} {G : fS} {f : Int → Int} {B : Int} {h : jH} (hG : jOb sM k G h) (hf : G 0 = f) (hO : jOk B (mK f)) (hA : fAc (mK f)) {p e : Int} (hp : -2147483648 ≤ p ∧ p ≤ 2147483647) (he : -2147483648 ≤ e ∧ e ≤ 2147483647) : jM mX5_leaps 4 0 0 [] [.ref k, iv p, iv e] h (jWi sM k (m_leaps G p e) h) jno := by
  refine j_method (by decide +kernel) rfl (fun _ _ _ => trivial) (Nat.le_of_ble_eq_true rfl) ?_
  generalize hZ : jZ [] 0 0 _ _ = Z
  show J mX5_leaps (jR 4 0 0) [] Z 0 [(0, .ref k), (1, iv p), (2, iv e)] [] h 0 0
  subst hf
  have hn := mK_n hO
  have hb := hO.b
  have hE0 : jEx k 10 h h := jEx.rf
  refine j_aload_n dX5_leaps_0 rfl rfl ?_
  refine j_aload_n dX5_leaps_1 rfl rfl ?_
  refine j_iload_n dX5_leaps_2 rfl rfl ?_
  refine j_callV (c5_has hG (f := (G 0)) rfl (by omega) (by omega)) dX5_leaps_3 jc_X5_89 jmV_X5_has rfl rfl hG.1 rfl rfl (by simp) jfr_nil (Nat.le_of_ble_eq_true rfl) ⟨Nat.le_of_ble_eq_true rfl, Nat.le_of_ble_eq_true rfl⟩ ⟨Nat.le_of_ble_eq_true rfl, Nat.le_of_ble_eq_true rfl⟩ (fun r h1 hp9 => ?_) (fun E h9 q => q.elim)
  obtain ⟨rfl, rfl⟩ := hp9
  refine j_if_ne (tgt := 13) dX5_leaps_6 (by decide) (bi_r32 _) (fun c2 => ?_) (fun c2 => ?_)
  · have qc2 := bi_nz c2
    refine j_aload_n dX5_leaps_13 rfl rfl ?_
    refine j_iload_n dX5_leaps_14 rfl rfl ?_
    refine j_iload_n dX5_leaps_15 rfl rfl ?_
    refine j_callV (c5_elderOf hG (f := (G 0)) rfl hO hA (by omega) (by omega)) dX5_leaps_16 jc_X5_121 jmV_X5_elderOf rfl rfl hG.1 rfl rfl (by simp) jfr_nil (Nat.le_of_ble_eq_true rfl) ⟨Nat.le_of_ble_eq_true rfl, Nat.le_of_ble_eq_true rfl⟩ ⟨Nat.le_of_ble_eq_true rfl, Nat.le_of_ble_eq_true rfl⟩ (fun r h3 hp9 => ?_) (fun E h9 q => q.elim)
    obtain ⟨rfl, rfl⟩ := hp9
    have hm9 := m_elderOf_r (e := e) hO (p := p) (by omega)
    refine j_bipush dX5_leaps_19 (by decide +kernel) ?_
    refine j_icmp_ne (tgt := 28) dX5_leaps_21 (by decide) (by omega) (fun c4 => ?_) (fun c4 => ?_)
    · have hel := m_elderOf_g c4
      refine j_iconst dX5_leaps_28 ?_
      refine jo_put (S := sM) dX5_leaps_29 jf_X5_42 (fun q hq => by cases hq; exact ⟨rfl, rfl⟩) (jHold_int _) okM hG rfl (fun h5 hG5 hX5 => ?_)
      have hE6 := hE0.tr hX5
      refine j_iconst dX5_leaps_32 ?_
      refine j_istore_n (L' := [(0, _), (1, _), (2, _), (3, _)]) dX5_leaps_33 rfl (by decide) rfl ?_
      refine j_iload_n dX5_leaps_34 rfl rfl ?_
      refine j_istore (L' := [(0, _), (1, _), (2, _), (3, _), (4, _)]) dX5_leaps_35 (by decide) rfl ?_
      refine jloop (P := fun z9 : Int × Int => J mX5_leaps (jR 4 0 0) [] Z 37 [(0, .ref k), (1, iv p), (2, iv e), (3, iv z9.1), (4, iv z9.2)] [] h5 0 0) (fun z9 => 0 ≤ z9.2 ∧ z9.2 < 32 ∧ mlp 5 e = z9.1 + mlp 5 z9.2) (fun z9 => z9.2.toNat) ?_ (0, e) ?_
      · rintro ⟨a, l⟩ hinv ih
        dsimp only at hinv ih ⊢
        obtain ⟨i1, i2, i3⟩ := hinv
        have hl9 := tdiv2 i1
        refine j_iload dX5_leaps_37 rfl ?_
        refine j_if_le (tgt := 65) dX5_leaps_39 (by decide) (by omega) (fun c7 => ?_) (fun c7 => ?_)
        · refine j_iload_n dX5_leaps_65 rfl rfl ?_
          subst hZ
          exact j_ireturn dX5_leaps_66 rfl rfl (jWi.i ((((if_neg c2).trans (if_neg c4))).trans (by rw [i3, show l = 0 by omega]; show (a + 0, _) = _; rw [Int.add_zero])) hG5 hE6) (Nat.le_refl _) (Nat.le_refl _)
        · refine j_aload_n dX5_leaps_42 rfl rfl ?_
          refine j_getfield (v := iv 0) dX5_leaps_43 jf_X5_42 hG5.1 rfl ?_
          refine j_if_ne (tgt := 65) dX5_leaps_46 (by decide) (by omega) (fun c8 => (c8 rfl).elim) (fun c8 => ?_)
          refine j_iload_n dX5_leaps_49 rfl rfl ?_
          refine j_iload dX5_leaps_50 rfl ?_
          refine j_iconst dX5_leaps_52 ?_
          refine j_irem (z := l - Int.tdiv l 2 * 2) dX5_leaps_53 (jz_ne (by omega) (by omega)) (jz_rem (by omega) (by omega)) ?_
          refine j_iadd dX5_leaps_54 ?_
          refine j_istore_n (L' := [(0, _), (1, _), (2, _), (3, _), (4, _)]) dX5_leaps_55 rfl (by decide) rfl ?_
          refine j_iload dX5_leaps_56 rfl ?_
          refine j_iconst dX5_leaps_58 ?_
          refine j_idiv (z := Int.tdiv l 2) dX5_leaps_59 (jz_ne (by omega) (by omega)) (jz_div (by omega) (by omega)) ?_
          refine j_istore (L' := [(0, _), (1, _), (2, _), (3, _), (4, _)]) dX5_leaps_60 (by decide) rfl ?_
          refine j_goto (tgt := 37) dX5_leaps_62 (by decide) ?_
          have e9 := mlp_st (l := l) (by omega)
          exact ih (a + (l - Int.tdiv l 2 * 2), Int.tdiv l 2) ⟨by show 0 ≤ Int.tdiv l 2; omega, by show Int.tdiv l 2 < 32; omega, by show mlp 5 e = a + (l - Int.tdiv l 2 * 2) + mlp 5 (Int.tdiv l 2); omega⟩ (by show (Int.tdiv l 2).toNat < l.toNat; omega)
      · dsimp only
        exact ⟨by omega, by omega, by omega⟩
    · refine j_iconst dX5_leaps_24 ?_
      refine j_goto (tgt := 29) dX5_leaps_25 (by decide) ?_
      refine jo_put (S := sM) dX5_leaps_29 jf_X5_42 (fun q hq => by cases hq; exact ⟨rfl, rfl⟩) (jHold_int _) okM hG rfl (fun h9 hG9 hX9 => ?_)
      have hE10 := hE0.tr hX9
      refine j_iconst dX5_leaps_32 ?_
      refine j_istore_n (L' := [(0, _), (1, _), (2, _), (3, _)]) dX5_leaps_33 rfl (by decide) rfl ?_
      refine j_iload_n dX5_leaps_34 rfl rfl ?_
      refine j_istore (L' := [(0, _), (1, _), (2, _), (3, _), (4, _)]) dX5_leaps_35 (by decide) rfl ?_
      refine j_iload dX5_leaps_37 rfl ?_
      refine j_if_le (tgt := 65) dX5_leaps_39 (by decide) (by omega) (fun c11 => ?_) (fun c11 => ?_)
      · refine j_iload_n dX5_leaps_65 rfl rfl ?_
        subst hZ
        exact j_ireturn dX5_leaps_66 rfl rfl (jWi.i ((if_neg c2).trans (if_pos c4)) hG9 hE10) (Nat.le_refl _) (Nat.le_refl _)
      · refine j_aload_n dX5_leaps_42 rfl rfl ?_
        refine j_getfield (v := iv 2) dX5_leaps_43 jf_X5_42 hG9.1 rfl ?_
        refine j_if_ne (tgt := 65) dX5_leaps_46 (by decide) (by omega) (fun c12 => ?_) (fun c12 => absurd c12 (by decide))
        refine j_iload_n dX5_leaps_65 rfl rfl ?_
        subst hZ
        exact j_ireturn dX5_leaps_66 rfl rfl (jWi.i ((if_neg c2).trans (if_pos c4)) hG9 hE10) (Nat.le_refl _) (Nat.le_refl _)
  · have qc2 := bi_z c2
    refine j_iconst dX5_leaps_9 ?_
    refine j_goto (tgt := 29) dX5_leaps_10 (by decide) ?_
    refine jo_put (S := sM) dX5_leaps_29 jf_X5_42 (fun q hq => by cases hq; exact ⟨rfl, rfl⟩) (jHold_int _) okM hG rfl (fun h13 hG13 hX13 => ?_)
    have hE14 := hE0.tr hX13
    refine j_iconst dX5_leaps_32 ?_
    refine j_istore_n (L' := [(0, _), (1, _), (2, _), (3, _)]) dX5_leaps_33 rfl (by decide) rfl ?_
    refine j_iload_n dX5_leaps_34 rfl rfl ?_
    refine j_istore (L' := [(0, _), (1, _), (2, _), (3, _), (4, _)]) dX5_leaps_35 (by decide) rfl ?_
    refine j_iload dX5_leaps_37 rfl ?_
    refine j_if_le (tgt := 65) dX5_leaps_39 (by decide) (by omega) (fun c15 => ?_) (fun c15 => ?_)
    · refine j_iload_n dX5_leaps_65 rfl rfl ?_
      subst hZ
      exact j_ireturn dX5_leaps_66 rfl rfl (jWi.i (if_pos c2) hG13 hE14) (Nat.le_refl _) (Nat.le_refl _)
    · refine j_aload_n dX5_leaps_42 rfl rfl ?_
      refine j_getfield (v := iv 1) dX5_leaps_43 jf_X5_42 hG13.1 rfl ?_
      refine j_if_ne (tgt := 65) dX5_leaps_46 (by decide) (by omega) (fun c16 => ?_) (fun c16 => absurd c16 (by decide))
      refine j_iload_n dX5_leaps_65 rfl rfl ?_
      subst hZ
      exact j_ireturn dX5_leaps_66 rfl rfl (jWi.i (if_pos c2) hG13 hE14) (Nat.le_refl _) (Nat.le_refl _)
