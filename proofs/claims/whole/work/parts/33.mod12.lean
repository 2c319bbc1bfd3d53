theorem fel_in {B : Int} {F : fS} (hO : jOk B F) : ∀ (k : Nat) (x : Int), -1 ≤ x ∧ x < F 6 0 → -1 ≤ fel F k x ∧ fel F k x < F 6 0
  | 0, _, h => h
  | k + 1, x, h => by
    unfold fel
    split
    · exact h
    · exact fel_in hO k _ (hO.p x)
theorem fhe_rg {B : Int} {F : fS} (hO : jOk B F) (hA : fAc F) {p : Int} (_ : 0 ≤ p ∧ p < F 6 0) : -1 ≤ fhe F p ∧ fhe F p < F 6 0 := by
  have _ := hA
  cases hq : (des F 24 p).find? (fun x => decide (F 3 x ≠ 0)) with
  | some x =>
    rw [fhe_s hq]
    obtain ⟨_, _, _, a⟩ := des_up 24 p (List.mem_of_find?_eq_some hq)
    omega
  | none =>
    rw [fhe_n hq]
    have h1 := hO.s p
    have h2 := fel_in hO 24 (F 0 p) (hO.p p)
    split
    · exact h2
    · exact h1
def m_doDie (G : fS) (p : Int) : Int × fS := if (bi (0 ≤ p ∧ p < (G 0) 0)) = 0 then ((m_fails G 1).1, (m_fails G 1).2) else if (mK (G 0) 3 p) = 0 then ((m_refuse G 2 2 p).1, (m_refuse G 2 2 p).2) else if 0 ≤ (fhe (mK (G 0)) p) then if ((jfu (jfu (G 0) (53 + p) 0) (53 + (fhe (mK (G 0)) p)) (((jfu (G 0) (53 + p) 0) (53 + (fhe (mK (G 0)) p))) + ((G 0) (53 + p)))) (29 + p)) < 0 then (fhe (mK (G 0)) p, gs (m_rows G p) 0 (jfu (jfu (jfu (G 0) (53 + p) 0) (53 + (fhe (mK (G 0)) p)) (((jfu (G 0) (53 + p) 0) (53 + (fhe (mK (G 0)) p))) + ((G 0) (53 + p)))) (77 + p) 0)) else (fhe (mK (G 0)) p, gs (m_parts (gs (m_rows G p) 0 (jfu (jfu (G 0) (53 + p) 0) (53 + (fhe (mK (G 0)) p)) (((jfu (G 0) (53 + p) 0) (53 + (fhe (mK (G 0)) p))) + ((G 0) (53 + p))))) p) 0 (jfu ((m_parts (gs (m_rows G p) 0 (jfu (jfu (G 0) (53 + p) 0) (53 + (fhe (mK (G 0)) p)) (((jfu (G 0) (53 + p) 0) (53 + (fhe (mK (G 0)) p))) + ((G 0) (53 + p))))) p) 0) (77 + p) 0)) else if ((jfu (jfu (G 0) (53 + p) 0) 4 (((jfu (G 0) (53 + p) 0) 4) + ((G 0) (53 + p)))) (29 + p)) < 0 then (fhe (mK (G 0)) p, gs (m_rows G p) 0 (jfu (jfu (jfu (G 0) (53 + p) 0) 4 (((jfu (G 0) (53 + p) 0) 4) + ((G 0) (53 + p)))) (77 + p) 0)) else (fhe (mK (G 0)) p, gs (m_parts (gs (m_rows G p) 0 (jfu (jfu (G 0) (53 + p) 0) 4 (((jfu (G 0) (53 + p) 0) 4) + ((G 0) (53 + p))))) p) 0 (jfu ((m_parts (gs (m_rows G p) 0 (jfu (jfu (G 0) (53 + p) 0) 4 (((jfu (G 0) (53 + p) 0) 4) + ((G 0) (53 + p))))) p) 0) (77 + p) 0))
set_option maxHeartbeats 4000000 in
/-- reference: doDie -/
theorem c5_doDie {k : Nat} {G : fS} {f : Int → Int} {B : Int} {h : jH} (hG : jOb sM k G h) (hf : G 0 = f) (hO : jOk B (mK f)) (hA : fAc (mK f)) {p : Int} (hp : -2147483648 ≤ p ∧ p ≤ 2147483647) : jM mX5_doDie 33 0 0 [] [.ref k, iv p] h (jWi sM k (m_doDie G p) h) jno := by
  refine j_method (by decide +kernel) rfl (fun _ _ _ => trivial) (Nat.le_of_ble_eq_true rfl) ?_
  generalize hZ : jZ [] 0 0 _ _ = Z
  show J mX5_doDie (jR 33 0 0) [] Z 0 [(0, .ref k), (1, iv p)] [] h 0 0
  subst hf
  have hn := mK_n hO
  have hb := hO.b
  have hE0 : jEx k 10 h h := jEx.rf
  refine j_aload_n dX5_doDie_0 rfl rfl ?_
  refine j_iload_n dX5_doDie_1 rfl rfl ?_
  refine j_callV (c5_has hG (f := (G 0)) rfl (by omega) (by omega)) dX5_doDie_2 jc_X5_89 jmV_X5_has rfl rfl hG.1 rfl rfl (by simp) jfr_nil (Nat.le_of_ble_eq_true rfl) ⟨Nat.le_of_ble_eq_true rfl, Nat.le_of_ble_eq_true rfl⟩ ⟨Nat.le_of_ble_eq_true rfl, Nat.le_of_ble_eq_true rfl⟩ (fun r h1 hp9 => ?_) (fun E h9 q => q.elim)
  obtain ⟨rfl, rfl⟩ := hp9
  refine j_if_ne (tgt := 14) dX5_doDie_5 (by decide) (bi_r32 _) (fun c2 => ?_) (fun c2 => ?_)
  · have qc2 := bi_nz c2
    refine j_aload_n dX5_doDie_14 rfl rfl ?_
    refine j_iload_n dX5_doDie_15 rfl rfl ?_
    refine j_callV (c5_lives hG (f := (G 0)) rfl hO (by omega)) dX5_doDie_16 jc_X5_96 jmV_X5_lives rfl rfl hG.1 rfl rfl (by simp) jfr_nil (Nat.le_of_ble_eq_true rfl) ⟨Nat.le_of_ble_eq_true rfl, Nat.le_of_ble_eq_true rfl⟩ ⟨Nat.le_of_ble_eq_true rfl, Nat.le_of_ble_eq_true rfl⟩ (fun r h3 hp9 => ?_) (fun E h9 q => q.elim)
    obtain ⟨rfl, rfl⟩ := hp9
    have hl9 := hO.l p
    refine j_if_ne (tgt := 30) dX5_doDie_19 (by decide) (by omega) (fun c4 => ?_) (fun c4 => ?_)
    · have e7 := mK_1 (f := G 0) (p := p) (by omega)
      have e8 := hO.s p
      have e6 : mK (G 0) 6 0 = G 0 0 := rfl
      refine j_aload_n dX5_doDie_30 rfl rfl ?_
      refine j_iload_n dX5_doDie_31 rfl rfl ?_
      refine j_callV (c5_heirOf hG (f := (G 0)) rfl hO hA (by omega)) dX5_doDie_32 jc_X5_188 jmV_X5_heirOf rfl rfl hG.1 rfl rfl (by simp) jfr_nil (Nat.le_of_ble_eq_true rfl) ⟨Nat.le_of_ble_eq_true rfl, Nat.le_of_ble_eq_true rfl⟩ ⟨Nat.le_of_ble_eq_true rfl, Nat.le_of_ble_eq_true rfl⟩ (fun r h5 hp9 => ?_) (fun E h9 q => q.elim)
      obtain ⟨rfl, hG6, hX7⟩ := hp9
      have hE8 := hE0.tr hX7
      have hh9 := fhe_rg hO hA (p := p) (by show 0 ≤ p ∧ p < G 0 0; omega)
      have hh8 : mK (G 0) 6 0 = G 0 0 := rfl
      refine j_istore_n (L' := [(0, _), (1, _), (2, _)]) dX5_doDie_35 rfl (by decide) rfl ?_
      refine j_aload_n dX5_doDie_36 rfl rfl ?_
      refine j_getfield (v := .ref (k + 1)) dX5_doDie_37 jf_X5_9 hG6.1 rfl ?_
      refine j_bipush dX5_doDie_40 (by decide +kernel) ?_
      refine j_iload_n dX5_doDie_42 rfl rfl ?_
      refine j_iadd dX5_doDie_43 ?_
      refine j_iaload (f := G 0) dX5_doDie_44 (hG6.a 0 1 0 141 rfl) (by omega) (by decide) ?_
      refine j_istore_n (L' := [(0, _), (1, _), (2, _), (3, _)]) dX5_doDie_45 rfl (by decide) rfl ?_
      refine j_aload_n dX5_doDie_46 rfl rfl ?_
      refine j_getfield (v := .ref (k + 1)) dX5_doDie_47 jf_X5_9 hG6.1 rfl ?_
      refine j_bipush dX5_doDie_50 (by decide +kernel) ?_
      refine j_iload_n dX5_doDie_52 rfl rfl ?_
      refine j_iadd dX5_doDie_53 ?_
      refine j_iconst dX5_doDie_54 ?_
      refine jo_ias (S := sM) (k := k) dX5_doDie_55 okM hG6 (i := 0) (p := 1) rfl (by omega) (by decide) (fun h9 hG9 hX9 => ?_)
      have hE10 := hE8.tr hX9
      refine j_aload_n dX5_doDie_56 rfl rfl ?_
      refine j_getfield (v := .ref (k + 1)) dX5_doDie_57 jf_X5_9 hG9.1 rfl ?_
      refine j_iload_n dX5_doDie_60 rfl rfl ?_
      refine j_if_ge (tgt := 68) dX5_doDie_61 (by decide) (by omega) (fun c11 => ?_) (fun c11 => ?_)
      · refine j_bipush dX5_doDie_68 (by decide +kernel) ?_
        refine j_iload_n dX5_doDie_70 rfl rfl ?_
        refine j_iadd dX5_doDie_71 ?_
        refine j_dup2 dX5_doDie_72 rfl rfl ?_
        refine j_iaload (f := jfu (G 0) (53 + p) 0) dX5_doDie_73 (hG9.a 0 1 0 141 rfl) (by omega) (by decide) ?_
        refine j_iload_n dX5_doDie_74 rfl rfl ?_
        refine j_iadd dX5_doDie_75 ?_
        refine jo_ias (S := sM) (k := k) dX5_doDie_76 okM hG9 (i := 0) (p := 1) rfl (by omega) (by decide) (fun h12 hG12 hX12 => ?_)
        have hE13 := hE10.tr hX12
        have hG14 : jOb sM k (gs (m_rows G p) 0 (jfu (jfu (G 0) (53 + p) 0) (53 + (fhe (mK (G 0)) p)) (((jfu (G 0) (53 + p) 0) (53 + (fhe (mK (G 0)) p))) + ((G 0) (53 + p))))) h12 := Eq.mp (congrArg (fun z => jOb sM k z _) gs_gs) hG12
        have e9 : (jfu (jfu (G 0) (53 + p) 0) (53 + (fhe (mK (G 0)) p)) (((jfu (G 0) (53 + p) 0) (53 + (fhe (mK (G 0)) p))) + ((G 0) (53 + p)))) (29 + p) = G 0 (29 + p) := (jfu_n (by omega)).trans (jfu_n (by omega))
        refine j_aload_n dX5_doDie_77 rfl rfl ?_
        refine j_getfield (v := .ref (k + 1)) dX5_doDie_78 jf_X5_9 hG14.1 rfl ?_
        refine j_bipush dX5_doDie_81 (by decide +kernel) ?_
        refine j_iload_n dX5_doDie_83 rfl rfl ?_
        refine j_iadd dX5_doDie_84 ?_
        refine j_iaload (f := jfu (jfu (G 0) (53 + p) 0) (53 + (fhe (mK (G 0)) p)) (((jfu (G 0) (53 + p) 0) (53 + (fhe (mK (G 0)) p))) + ((G 0) (53 + p)))) dX5_doDie_85 (hG14.a 0 1 0 141 rfl) (by omega) (by decide) ?_
        refine j_if_lt (tgt := 94) dX5_doDie_86 (by decide) (by omega) (fun c15 => ?_) (fun c15 => ?_)
        · refine j_aload_n dX5_doDie_94 rfl rfl ?_
          refine j_getfield (v := .ref (k + 1)) dX5_doDie_95 jf_X5_9 hG14.1 rfl ?_
          refine j_bipush dX5_doDie_98 (by decide +kernel) ?_
          refine j_iload_n dX5_doDie_100 rfl rfl ?_
          refine j_iadd dX5_doDie_101 ?_
          refine j_iconst dX5_doDie_102 ?_
          refine jo_ias (S := sM) (k := k) dX5_doDie_103 okM hG14 (i := 0) (p := 1) rfl (by omega) (by decide) (fun h16 hG16 hX16 => ?_)
          have hE17 := hE13.tr hX16
          have hG18 : jOb sM k (gs (m_rows G p) 0 (jfu (jfu (jfu (G 0) (53 + p) 0) (53 + (fhe (mK (G 0)) p)) (((jfu (G 0) (53 + p) 0) (53 + (fhe (mK (G 0)) p))) + ((G 0) (53 + p)))) (77 + p) 0)) h16 := Eq.mp (congrArg (fun z => jOb sM k z _) gs_gs) hG16
          refine j_iload_n dX5_doDie_104 rfl rfl ?_
          subst hZ
          exact j_ireturn dX5_doDie_105 rfl rfl (jWi.i ((if_neg c2).trans ((if_neg c4).trans ((if_pos c11).trans (if_pos c15)))) hG18 hE17) (Nat.le_refl _) (Nat.le_refl _)
        · refine j_aload_n dX5_doDie_89 rfl rfl ?_
          refine j_iload_n dX5_doDie_90 rfl rfl ?_
          refine j_callV (c5_parts hG14 (by omega) (by show 0 ≤ (jfu (jfu (G 0) (53 + p) 0) (53 + (fhe (mK (G 0)) p)) (((jfu (G 0) (53 + p) 0) (53 + (fhe (mK (G 0)) p))) + ((G 0) (53 + p)))) (29 + p) ∧ (jfu (jfu (G 0) (53 + p) 0) (53 + (fhe (mK (G 0)) p)) (((jfu (G 0) (53 + p) 0) (53 + (fhe (mK (G 0)) p))) + ((G 0) (53 + p)))) (29 + p) < 24; omega)) dX5_doDie_91 jc_X5_170 jmV_X5_parts rfl rfl hG14.1 rfl rfl (by simp) jfr_nil (Nat.le_of_ble_eq_true rfl) ⟨Nat.le_of_ble_eq_true rfl, Nat.le_of_ble_eq_true rfl⟩ ⟨Nat.le_of_ble_eq_true rfl, Nat.le_of_ble_eq_true rfl⟩ (fun r h19 hp9 => ?_) (fun E h9 q => q.elim)
          obtain ⟨rfl, hG20, hX21⟩ := hp9
          have hE22 := hE13.tr hX21
          refine j_aload_n dX5_doDie_94 rfl rfl ?_
          refine j_getfield (v := .ref (k + 1)) dX5_doDie_95 jf_X5_9 hG20.1 rfl ?_
          refine j_bipush dX5_doDie_98 (by decide +kernel) ?_
          refine j_iload_n dX5_doDie_100 rfl rfl ?_
          refine j_iadd dX5_doDie_101 ?_
          refine j_iconst dX5_doDie_102 ?_
          refine jo_ias (S := sM) (k := k) dX5_doDie_103 okM hG20 (i := 0) (p := 1) rfl (by omega) (by decide) (fun h23 hG23 hX23 => ?_)
          have hE24 := hE22.tr hX23
          refine j_iload_n dX5_doDie_104 rfl rfl ?_
          subst hZ
          exact j_ireturn dX5_doDie_105 rfl rfl (jWi.i ((if_neg c2).trans ((if_neg c4).trans ((if_pos c11).trans (if_neg c15)))) hG23 hE24) (Nat.le_refl _) (Nat.le_refl _)
      · refine j_iconst dX5_doDie_64 ?_
        refine j_goto (tgt := 72) dX5_doDie_65 (by decide) ?_
        refine j_dup2 dX5_doDie_72 rfl rfl ?_
        refine j_iaload (f := jfu (G 0) (53 + p) 0) dX5_doDie_73 (hG9.a 0 1 0 141 rfl) (by omega) (by decide) ?_
        refine j_iload_n dX5_doDie_74 rfl rfl ?_
        refine j_iadd dX5_doDie_75 ?_
        refine jo_ias (S := sM) (k := k) dX5_doDie_76 okM hG9 (i := 0) (p := 1) rfl (by omega) (by decide) (fun h25 hG25 hX25 => ?_)
        have hE26 := hE10.tr hX25
        have hG27 : jOb sM k (gs (m_rows G p) 0 (jfu (jfu (G 0) (53 + p) 0) 4 (((jfu (G 0) (53 + p) 0) 4) + ((G 0) (53 + p))))) h25 := Eq.mp (congrArg (fun z => jOb sM k z _) gs_gs) hG25
        have e9 : (jfu (jfu (G 0) (53 + p) 0) 4 (((jfu (G 0) (53 + p) 0) 4) + ((G 0) (53 + p)))) (29 + p) = G 0 (29 + p) := (jfu_n (by omega)).trans (jfu_n (by omega))
        refine j_aload_n dX5_doDie_77 rfl rfl ?_
        refine j_getfield (v := .ref (k + 1)) dX5_doDie_78 jf_X5_9 hG27.1 rfl ?_
        refine j_bipush dX5_doDie_81 (by decide +kernel) ?_
        refine j_iload_n dX5_doDie_83 rfl rfl ?_
        refine j_iadd dX5_doDie_84 ?_
        refine j_iaload (f := jfu (jfu (G 0) (53 + p) 0) 4 (((jfu (G 0) (53 + p) 0) 4) + ((G 0) (53 + p)))) dX5_doDie_85 (hG27.a 0 1 0 141 rfl) (by omega) (by decide) ?_
        refine j_if_lt (tgt := 94) dX5_doDie_86 (by decide) (by omega) (fun c28 => ?_) (fun c28 => ?_)
        · refine j_aload_n dX5_doDie_94 rfl rfl ?_
          refine j_getfield (v := .ref (k + 1)) dX5_doDie_95 jf_X5_9 hG27.1 rfl ?_
          refine j_bipush dX5_doDie_98 (by decide +kernel) ?_
          refine j_iload_n dX5_doDie_100 rfl rfl ?_
          refine j_iadd dX5_doDie_101 ?_
          refine j_iconst dX5_doDie_102 ?_
          refine jo_ias (S := sM) (k := k) dX5_doDie_103 okM hG27 (i := 0) (p := 1) rfl (by omega) (by decide) (fun h29 hG29 hX29 => ?_)
          have hE30 := hE26.tr hX29
          have hG31 : jOb sM k (gs (m_rows G p) 0 (jfu (jfu (jfu (G 0) (53 + p) 0) 4 (((jfu (G 0) (53 + p) 0) 4) + ((G 0) (53 + p)))) (77 + p) 0)) h29 := Eq.mp (congrArg (fun z => jOb sM k z _) gs_gs) hG29
          refine j_iload_n dX5_doDie_104 rfl rfl ?_
          subst hZ
          exact j_ireturn dX5_doDie_105 rfl rfl (jWi.i ((if_neg c2).trans ((if_neg c4).trans ((if_neg c11).trans (if_pos c28)))) hG31 hE30) (Nat.le_refl _) (Nat.le_refl _)
        · refine j_aload_n dX5_doDie_89 rfl rfl ?_
          refine j_iload_n dX5_doDie_90 rfl rfl ?_
          refine j_callV (c5_parts hG27 (by omega) (by show 0 ≤ (jfu (jfu (G 0) (53 + p) 0) 4 (((jfu (G 0) (53 + p) 0) 4) + ((G 0) (53 + p)))) (29 + p) ∧ (jfu (jfu (G 0) (53 + p) 0) 4 (((jfu (G 0) (53 + p) 0) 4) + ((G 0) (53 + p)))) (29 + p) < 24; omega)) dX5_doDie_91 jc_X5_170 jmV_X5_parts rfl rfl hG27.1 rfl rfl (by simp) jfr_nil (Nat.le_of_ble_eq_true rfl) ⟨Nat.le_of_ble_eq_true rfl, Nat.le_of_ble_eq_true rfl⟩ ⟨Nat.le_of_ble_eq_true rfl, Nat.le_of_ble_eq_true rfl⟩ (fun r h32 hp9 => ?_) (fun E h9 q => q.elim)
          obtain ⟨rfl, hG33, hX34⟩ := hp9
          have hE35 := hE26.tr hX34
          refine j_aload_n dX5_doDie_94 rfl rfl ?_
          refine j_getfield (v := .ref (k + 1)) dX5_doDie_95 jf_X5_9 hG33.1 rfl ?_
          refine j_bipush dX5_doDie_98 (by decide +kernel) ?_
          refine j_iload_n dX5_doDie_100 rfl rfl ?_
          refine j_iadd dX5_doDie_101 ?_
          refine j_iconst dX5_doDie_102 ?_
          refine jo_ias (S := sM) (k := k) dX5_doDie_103 okM hG33 (i := 0) (p := 1) rfl (by omega) (by decide) (fun h36 hG36 hX36 => ?_)
          have hE37 := hE35.tr hX36
          refine j_iload_n dX5_doDie_104 rfl rfl ?_
          subst hZ
          exact j_ireturn dX5_doDie_105 rfl rfl (jWi.i ((if_neg c2).trans ((if_neg c4).trans ((if_neg c11).trans (if_neg c28)))) hG36 hE37) (Nat.le_refl _) (Nat.le_refl _)
    · refine j_aload_n dX5_doDie_22 rfl rfl ?_
      refine j_iconst dX5_doDie_23 ?_
      refine j_iconst dX5_doDie_24 ?_
      refine j_iload_n dX5_doDie_25 rfl rfl ?_
      refine j_callV (c5_refuse hG) dX5_doDie_26 jc_X5_72 jmV_X5_refuse rfl rfl hG.1 rfl rfl (by simp) jfr_nil (Nat.le_of_ble_eq_true rfl) ⟨Nat.le_of_ble_eq_true rfl, Nat.le_of_ble_eq_true rfl⟩ ⟨Nat.le_of_ble_eq_true rfl, Nat.le_of_ble_eq_true rfl⟩ (fun r h38 hp9 => ?_) (fun E h9 q => q.elim)
      obtain ⟨rfl, hG39, hX40⟩ := hp9
      have hE41 := hE0.tr hX40
      subst hZ
      exact j_ireturn dX5_doDie_29 rfl rfl (jWi.i ((if_neg c2).trans (if_pos c4)) hG39 hE41) (Nat.le_refl _) (Nat.le_refl _)
  · have qc2 := bi_z c2
    refine j_aload_n dX5_doDie_8 rfl rfl ?_
    refine j_iconst dX5_doDie_9 ?_
    refine j_callV (c5_fails hG) dX5_doDie_10 jc_X5_93 jmV_X5_fails rfl rfl hG.1 rfl rfl (by simp) jfr_nil (Nat.le_of_ble_eq_true rfl) ⟨Nat.le_of_ble_eq_true rfl, Nat.le_of_ble_eq_true rfl⟩ ⟨Nat.le_of_ble_eq_true rfl, Nat.le_of_ble_eq_true rfl⟩ (fun r h42 hp9 => ?_) (fun E h9 q => q.elim)
    obtain ⟨rfl, hG43, hX44⟩ := hp9
    have hE45 := hE0.tr hX44
    subst hZ
    exact j_ireturn dX5_doDie_13 rfl rfl (jWi.i (if_pos c2) hG43 hE45) (Nat.le_refl _) (Nat.le_refl _)
def m_heir (G : fS) (p : Int) : Int × fS := if (bi (0 ≤ p ∧ p < (G 0) 0)) = 0 then (0, gn G 6 1) else if (mK (G 0) 3 p) = 0 then (0, gn G 6 2) else (fhe (mK (G 0)) p, m_rows (gn G 6 0) p)
set_option maxHeartbeats 4000000 in
/-- reference: heir -/
theorem c5_heir {k : Nat} {G : fS} {f : Int → Int} {B : Int} {h : jH} (hG : jOb sM k G h) (hf : G 0 = f) (hO : jOk B (mK f)) (hA : fAc (mK f)) {p : Int} (hp : -2147483648 ≤ p ∧ p ≤ 2147483647) : jM mX5_heir 33 0 0 [] [.ref k, iv p] h (jWi sM k (m_heir G p) h) jno := by
  refine j_method (by decide +kernel) rfl (fun _ _ _ => trivial) (Nat.le_of_ble_eq_true rfl) ?_
  generalize hZ : jZ [] 0 0 _ _ = Z
  show J mX5_heir (jR 33 0 0) [] Z 0 [(0, .ref k), (1, iv p)] [] h 0 0
  subst hf
  have hn := mK_n hO
  have hb := hO.b
  have hE0 : jEx k 10 h h := jEx.rf
  refine j_aload_n dX5_heir_0 rfl rfl ?_
  refine j_aload_n dX5_heir_1 rfl rfl ?_
  refine j_iload_n dX5_heir_2 rfl rfl ?_
  refine j_callV (c5_has hG (f := (G 0)) rfl (by omega) (by omega)) dX5_heir_3 jc_X5_89 jmV_X5_has rfl rfl hG.1 rfl rfl (by simp) jfr_nil (Nat.le_of_ble_eq_true rfl) ⟨Nat.le_of_ble_eq_true rfl, Nat.le_of_ble_eq_true rfl⟩ ⟨Nat.le_of_ble_eq_true rfl, Nat.le_of_ble_eq_true rfl⟩ (fun r h1 hp9 => ?_) (fun E h9 q => q.elim)
  obtain ⟨rfl, rfl⟩ := hp9
  refine j_if_ne (tgt := 13) dX5_heir_6 (by decide) (bi_r32 _) (fun c2 => ?_) (fun c2 => ?_)
  · have qc2 := bi_nz c2
    refine j_aload_n dX5_heir_13 rfl rfl ?_
    refine j_iload_n dX5_heir_14 rfl rfl ?_
    refine j_callV (c5_lives hG (f := (G 0)) rfl hO (by omega)) dX5_heir_15 jc_X5_96 jmV_X5_lives rfl rfl hG.1 rfl rfl (by simp) jfr_nil (Nat.le_of_ble_eq_true rfl) ⟨Nat.le_of_ble_eq_true rfl, Nat.le_of_ble_eq_true rfl⟩ ⟨Nat.le_of_ble_eq_true rfl, Nat.le_of_ble_eq_true rfl⟩ (fun r h3 hp9 => ?_) (fun E h9 q => q.elim)
    obtain ⟨rfl, rfl⟩ := hp9
    have hl9 := hO.l p
    refine j_if_ne (tgt := 25) dX5_heir_18 (by decide) (by omega) (fun c4 => ?_) (fun c4 => ?_)
    · refine j_iconst dX5_heir_25 ?_
      refine jo_put (S := sM) dX5_heir_26 jf_X5_42 (fun q hq => by cases hq; exact ⟨rfl, rfl⟩) (jHold_int _) okM hG rfl (fun h5 hG5 hX5 => ?_)
      have hE6 := hE0.tr hX5
      refine j_aload_n dX5_heir_29 rfl rfl ?_
      refine j_getfield (v := iv 0) dX5_heir_30 jf_X5_42 hG5.1 rfl ?_
      refine j_if_le (tgt := 40) dX5_heir_33 (by decide) (by omega) (fun c7 => ?_) (fun c7 => absurd (by decide) c7)
      refine j_aload_n dX5_heir_40 rfl rfl ?_
      refine j_iload_n dX5_heir_41 rfl rfl ?_
      refine j_callV (c5_heirOf hG5 (f := (G 0)) rfl hO hA (by omega)) dX5_heir_42 jc_X5_188 jmV_X5_heirOf rfl rfl hG5.1 rfl rfl (by simp) jfr_nil (Nat.le_of_ble_eq_true rfl) ⟨Nat.le_of_ble_eq_true rfl, Nat.le_of_ble_eq_true rfl⟩ ⟨Nat.le_of_ble_eq_true rfl, Nat.le_of_ble_eq_true rfl⟩ (fun r h8 hp9 => ?_) (fun E h9 q => q.elim)
      obtain ⟨rfl, hG9, hX10⟩ := hp9
      have hE11 := hE6.tr hX10
      have hh9 := fhe_rg hO hA (p := p) (by show 0 ≤ p ∧ p < G 0 0; omega)
      have hh8 : mK (G 0) 6 0 = G 0 0 := rfl
      subst hZ
      exact j_ireturn dX5_heir_45 rfl rfl (jWi.i ((if_neg c2).trans (if_neg c4)) hG9 hE11) (Nat.le_refl _) (Nat.le_refl _)
    · refine j_iconst dX5_heir_21 ?_
      refine j_goto (tgt := 26) dX5_heir_22 (by decide) ?_
      refine jo_put (S := sM) dX5_heir_26 jf_X5_42 (fun q hq => by cases hq; exact ⟨rfl, rfl⟩) (jHold_int _) okM hG rfl (fun h12 hG12 hX12 => ?_)
      have hE13 := hE0.tr hX12
      refine j_aload_n dX5_heir_29 rfl rfl ?_
      refine j_getfield (v := iv 2) dX5_heir_30 jf_X5_42 hG12.1 rfl ?_
      refine j_if_le (tgt := 40) dX5_heir_33 (by decide) (by omega) (fun c14 => absurd c14 (by decide)) (fun c14 => ?_)
      refine j_iconst dX5_heir_36 ?_
      refine j_goto (tgt := 45) dX5_heir_37 (by decide) ?_
      subst hZ
      exact j_ireturn dX5_heir_45 rfl rfl (jWi.i ((if_neg c2).trans (if_pos c4)) hG12 hE13) (Nat.le_refl _) (Nat.le_refl _)
  · have qc2 := bi_z c2
    refine j_iconst dX5_heir_9 ?_
    refine j_goto (tgt := 26) dX5_heir_10 (by decide) ?_
    refine jo_put (S := sM) dX5_heir_26 jf_X5_42 (fun q hq => by cases hq; exact ⟨rfl, rfl⟩) (jHold_int _) okM hG rfl (fun h15 hG15 hX15 => ?_)
    have hE16 := hE0.tr hX15
    refine j_aload_n dX5_heir_29 rfl rfl ?_
    refine j_getfield (v := iv 1) dX5_heir_30 jf_X5_42 hG15.1 rfl ?_
    refine j_if_le (tgt := 40) dX5_heir_33 (by decide) (by omega) (fun c17 => absurd c17 (by decide)) (fun c17 => ?_)
    refine j_iconst dX5_heir_36 ?_
    refine j_goto (tgt := 45) dX5_heir_37 (by decide) ?_
    subst hZ
    exact j_ireturn dX5_heir_45 rfl rfl (jWi.i (if_pos c2) hG15 hE16) (Nat.le_refl _) (Nat.le_refl _)
/-- how many stand before p by coins -/
def krk (K : fS) (p : Int) : Int := csum (fun o => bi (K 2 o - K 2 p > 0 ∨ (K 2 o - K 2 p = 0 ∧ o < p))) (K 6 0).toNat
/-- the last from i on that stands at the place, within k, else f -/
def mfl (K : fS) (pl : Int) : Nat → Int → Int → Int
  | 0, _, f => f
  | k + 1, i, f => mfl K pl k (i + 1) (if krk K i = pl then i else f)
theorem mfl_s {K : fS} {pl : Int} {k : Nat} {i f : Int} : mfl K pl (k + 1) i f = mfl K pl k (i + 1) (if krk K i = pl then i else f) := rfl
def m_ranked (G : fS) (q : Int) : Int × fS := if bi (0 ≤ q ∧ q ≤ (G 0) 0 - 1) = 0 then (0, gn G 6 1) else (mfl (mK (G 0)) q ((G 0) 0).toNat 0 0, gn G 6 0)
set_option maxHeartbeats 4000000 in
/-- reference: ranked -/
theorem c5_ranked {k : Nat} {G : fS} {f : Int → Int} {B : Int} {h : jH} (hG : jOb sM k G h) (hf : G 0 = f) (hO : jOk B (mK f)) {q : Int} (hq : -2147483648 ≤ q ∧ q ≤ 2147483647) : jM mX5_ranked 2 0 0 [] [.ref k, iv q] h (jWi sM k (m_ranked G q) h) jno := by
  refine j_method (by decide +kernel) rfl (fun _ _ _ => trivial) (Nat.le_of_ble_eq_true rfl) ?_
  generalize hZ : jZ [] 0 0 _ _ = Z
  show J mX5_ranked (jR 2 0 0) [] Z 0 [(0, .ref k), (1, iv q)] [] h 0 0
  subst hf
  have hn := mK_n hO
  have hb := hO.b
  have hE0 : jEx k 10 h h := jEx.rf
  refine j_aload_n dX5_ranked_0 rfl rfl ?_
  refine j_iload_n dX5_ranked_1 rfl rfl ?_
  refine j_iconst dX5_ranked_2 ?_
  refine j_aload_n dX5_ranked_3 rfl rfl ?_
  refine j_getfield (v := .ref (k + 1)) dX5_ranked_4 jf_X5_9 hG.1 rfl ?_
  refine j_iconst dX5_ranked_7 ?_
  refine j_iaload (f := G 0) dX5_ranked_8 (hG.a 0 1 0 141 rfl) (by omega) (by decide) ?_
  refine j_iconst dX5_ranked_9 ?_
  refine j_isub dX5_ranked_10 ?_
  refine j_callS (c5_in (by omega)) dX5_ranked_11 jc_X5_64 jmS_X5_in rfl rfl rfl (by simp) jfr_nil (Nat.le_of_ble_eq_true rfl) ⟨Nat.le_of_ble_eq_true rfl, Nat.le_of_ble_eq_true rfl⟩ ⟨Nat.le_of_ble_eq_true rfl, Nat.le_of_ble_eq_true rfl⟩ (fun r h1 hp9 => ?_) (fun E h9 q => q.elim)
  obtain ⟨rfl, rfl⟩ := hp9
  refine j_if_eq (tgt := 21) dX5_ranked_14 (by decide) (bi_r32 _) (fun c2 => ?_) (fun c2 => ?_)
  · have qc2 := bi_z c2
    refine j_iconst dX5_ranked_21 ?_
    refine jo_put (S := sM) dX5_ranked_22 jf_X5_42 (fun q hq => by cases hq; exact ⟨rfl, rfl⟩) (jHold_int _) okM hG rfl (fun h3 hG3 hX3 => ?_)
    have hE4 := hE0.tr hX3
    refine j_iconst dX5_ranked_25 ?_
    refine j_istore_n (L' := [(0, _), (1, _), (2, _)]) dX5_ranked_26 rfl (by decide) rfl ?_
    refine j_iconst dX5_ranked_27 ?_
    refine j_istore_n (L' := [(0, _), (1, _), (2, _), (3, _)]) dX5_ranked_28 rfl (by decide) rfl ?_
    refine j_iload_n dX5_ranked_29 rfl rfl ?_
    refine j_aload_n dX5_ranked_30 rfl rfl ?_
    refine j_getfield (v := .ref (k + 1)) dX5_ranked_31 jf_X5_9 hG3.1 rfl ?_
    refine j_iconst dX5_ranked_34 ?_
    refine j_iaload (f := G 0) dX5_ranked_35 (hG3.a 0 1 0 141 rfl) (by omega) (by decide) ?_
    refine j_icmp_ge (tgt := 135) dX5_ranked_36 (by decide) (by omega) (fun c5 => ?_) (fun c5 => ?_)
    · refine j_iload_n dX5_ranked_135 rfl rfl ?_
      subst hZ
      exact j_ireturn dX5_ranked_136 rfl rfl (jWi.i (if_pos c2) hG3 hE4) (Nat.le_refl _) (Nat.le_refl _)
    · refine j_aload_n dX5_ranked_39 rfl rfl ?_
      refine j_getfield (v := iv 1) dX5_ranked_40 jf_X5_42 hG3.1 rfl ?_
      refine j_if_ne (tgt := 135) dX5_ranked_43 (by decide) (by omega) (fun c6 => ?_) (fun c6 => absurd c6 (by decide))
      refine j_iload_n dX5_ranked_135 rfl rfl ?_
      subst hZ
      exact j_ireturn dX5_ranked_136 rfl rfl (jWi.i (if_pos c2) hG3 hE4) (Nat.le_refl _) (Nat.le_refl _)
  · have qc2 := bi_nz c2
    refine j_iconst dX5_ranked_17 ?_
    refine j_goto (tgt := 22) dX5_ranked_18 (by decide) ?_
    refine jo_put (S := sM) dX5_ranked_22 jf_X5_42 (fun q hq => by cases hq; exact ⟨rfl, rfl⟩) (jHold_int _) okM hG rfl (fun h7 hG7 hX7 => ?_)
    have hE8 := hE0.tr hX7
    refine j_iconst dX5_ranked_25 ?_
    refine j_istore_n (L' := [(0, _), (1, _), (2, _)]) dX5_ranked_26 rfl (by decide) rfl ?_
    refine j_iconst dX5_ranked_27 ?_
    refine j_istore_n (L' := [(0, _), (1, _), (2, _), (3, _)]) dX5_ranked_28 rfl (by decide) rfl ?_
    refine jloop (P := fun z9 : Int × Int => J mX5_ranked (jR 2 0 0) [] Z 29 [(0, .ref k), (1, iv q), (2, iv z9.2), (3, iv z9.1)] [] h7 0 0) (fun z9 => 0 ≤ z9.1 ∧ z9.1 ≤ G 0 0 ∧ mfl (mK (G 0)) q ((G 0) 0).toNat 0 0 = mfl (mK (G 0)) q ((G 0) 0 - z9.1).toNat z9.1 z9.2) (fun z9 => ((G 0) 0 - z9.1).toNat) ?_ (0, 0) ?_
    · rintro ⟨i, r⟩ hinv ih
      dsimp only at hinv ih ⊢
      obtain ⟨i1, i2, i3⟩ := hinv
      refine j_iload_n dX5_ranked_29 rfl rfl ?_
      refine j_aload_n dX5_ranked_30 rfl rfl ?_
      refine j_getfield (v := .ref (k + 1)) dX5_ranked_31 jf_X5_9 hG7.1 rfl ?_
      refine j_iconst dX5_ranked_34 ?_
      refine j_iaload (f := G 0) dX5_ranked_35 (hG7.a 0 1 0 141 rfl) (by omega) (by decide) ?_
      refine j_icmp_ge (tgt := 135) dX5_ranked_36 (by decide) (by omega) (fun c9 => ?_) (fun c9 => ?_)
      · refine j_iload_n dX5_ranked_135 rfl rfl ?_
        subst hZ
        exact j_ireturn dX5_ranked_136 rfl rfl (jWi.i (((if_neg c2)).trans (by rw [i3, show ((G 0) 0 - i).toNat = 0 by omega]; rfl)) hG7 hE8) (Nat.le_refl _) (Nat.le_refl _)
      · refine j_aload_n dX5_ranked_39 rfl rfl ?_
        refine j_getfield (v := iv 0) dX5_ranked_40 jf_X5_42 hG7.1 rfl ?_
        refine j_if_ne (tgt := 135) dX5_ranked_43 (by decide) (by omega) (fun c10 => (c10 rfl).elim) (fun c10 => ?_)
        refine j_iconst dX5_ranked_46 ?_
        refine j_istore (L' := [(0, _), (1, _), (2, _), (3, _), (4, _)]) dX5_ranked_47 (by decide) rfl ?_
        refine j_iconst dX5_ranked_49 ?_
        refine j_istore (L' := [(0, _), (1, _), (2, _), (3, _), (4, _), (5, _)]) dX5_ranked_50 (by decide) rfl ?_
        refine jloop (P := fun z9 : Int × Int => J mX5_ranked (jR 2 0 0) [] Z 52 [(0, .ref k), (1, iv q), (2, iv r), (3, iv i), (4, iv z9.1), (5, iv z9.2)] [] h7 0 0) (fun z9 => 0 ≤ z9.2 ∧ z9.2 ≤ G 0 0 ∧ z9.1 = csum (fun o => bi (mK (G 0) 2 o - mK (G 0) 2 i > 0 ∨ (mK (G 0) 2 o - mK (G 0) 2 i = 0 ∧ o < i))) z9.2.toNat ∧ 0 ≤ z9.1 ∧ z9.1 ≤ z9.2) (fun z9 => ((G 0) 0 - z9.2).toNat) ?_ (0, 0) ?_
        · rintro ⟨a, j⟩ hinv2 ih2
          dsimp only at hinv2 ih2 ⊢
          obtain ⟨j1, j2, j3, j4, j5⟩ := hinv2
          have y1 := fun q9 => mK_2 (f := G 0) (p := j) ⟨j1, q9⟩
          have y2 := mK_2 (f := G 0) (p := i) (by omega)
          have y3 := hO.c i
          have y4 := hO.c j
          refine j_iload dX5_ranked_52 rfl ?_
          refine j_aload_n dX5_ranked_54 rfl rfl ?_
          refine j_getfield (v := .ref (k + 1)) dX5_ranked_55 jf_X5_9 hG7.1 rfl ?_
          refine j_iconst dX5_ranked_58 ?_
          refine j_iaload (f := G 0) dX5_ranked_59 (hG7.a 0 1 0 141 rfl) (by omega) (by decide) ?_
          refine j_icmp_ge (tgt := 117) dX5_ranked_60 (by decide) (by omega) (fun c11 => ?_) (fun c11 => ?_)
          · refine j_iload dX5_ranked_117 rfl ?_
            refine j_iload_n dX5_ranked_119 rfl rfl ?_
            refine j_icmp_ne (tgt := 127) dX5_ranked_120 (by decide) (by omega) (fun c12 => ?_) (fun c12 => ?_)
            · refine j_iload_n dX5_ranked_127 rfl rfl ?_
              refine j_istore_n (L' := [(0, _), (1, _), (2, _), (3, _), (4, _), (5, _)]) dX5_ranked_128 rfl (by decide) rfl ?_
              refine j_iinc (L' := [(0, _), (1, _), (2, _), (3, _), (4, _), (5, _)]) dX5_ranked_129 rfl (by decide) rfl ?_
              refine j_goto (tgt := 29) dX5_ranked_132 (by decide) ?_
              refine J.keep [0, 1, 2, 3] (L' := [(0, _), (1, _), (2, _), (3, _)]) rfl ?_
              rw [fsuc (by omega : i < (G 0) 0), mfl_s] at i3
              have e8 : krk (mK (G 0)) i = a := by rw [j3, show j = (G 0) 0 by omega]; rfl
              rw [e8, if_neg c12] at i3
              exact ih (i + 1, r) ⟨by show 0 ≤ i + 1; omega, by show i + 1 ≤ G 0 0; omega, i3⟩ (by show ((G 0) 0 - (i + 1)).toNat < ((G 0) 0 - i).toNat; omega)
            · refine j_iload_n dX5_ranked_123 rfl rfl ?_
              refine j_goto (tgt := 128) dX5_ranked_124 (by decide) ?_
              refine j_istore_n (L' := [(0, _), (1, _), (2, _), (3, _), (4, _), (5, _)]) dX5_ranked_128 rfl (by decide) rfl ?_
              refine j_iinc (L' := [(0, _), (1, _), (2, _), (3, _), (4, _), (5, _)]) dX5_ranked_129 rfl (by decide) rfl ?_
              refine j_goto (tgt := 29) dX5_ranked_132 (by decide) ?_
              refine J.keep [0, 1, 2, 3] (L' := [(0, _), (1, _), (2, _), (3, _)]) rfl ?_
              rw [fsuc (by omega : i < (G 0) 0), mfl_s] at i3
              have e8 : krk (mK (G 0)) i = a := by rw [j3, show j = (G 0) 0 by omega]; rfl
              rw [e8, if_pos c12] at i3
              exact ih (i + 1, i) ⟨by show 0 ≤ i + 1; omega, by show i + 1 ≤ G 0 0; omega, i3⟩ (by show ((G 0) 0 - (i + 1)).toNat < ((G 0) 0 - i).toNat; omega)
          · have y5 := y1 (by omega)
            refine j_aload_n dX5_ranked_63 rfl rfl ?_
            refine j_getfield (v := .ref (k + 1)) dX5_ranked_64 jf_X5_9 hG7.1 rfl ?_
            refine j_bipush dX5_ranked_67 (by decide +kernel) ?_
            refine j_iload dX5_ranked_69 rfl ?_
            refine j_iadd dX5_ranked_71 ?_
            refine j_iaload (f := G 0) dX5_ranked_72 (hG7.a 0 1 0 141 rfl) (by omega) (by decide) ?_
            refine j_aload_n dX5_ranked_73 rfl rfl ?_
            refine j_getfield (v := .ref (k + 1)) dX5_ranked_74 jf_X5_9 hG7.1 rfl ?_
            refine j_bipush dX5_ranked_77 (by decide +kernel) ?_
            refine j_iload_n dX5_ranked_79 rfl rfl ?_
            refine j_iadd dX5_ranked_80 ?_
            refine j_iaload (f := G 0) dX5_ranked_81 (hG7.a 0 1 0 141 rfl) (by omega) (by decide) ?_
            refine j_isub dX5_ranked_82 ?_
            refine j_istore (L' := [(0, _), (1, _), (2, _), (3, _), (4, _), (5, _), (6, _)]) dX5_ranked_83 (by decide) rfl ?_
            refine j_iload dX5_ranked_85 rfl ?_
            refine j_iload dX5_ranked_87 rfl ?_
            refine j_if_gt (tgt := 103) dX5_ranked_89 (by decide) (by omega) (fun c13 => ?_) (fun c13 => ?_)
            · refine j_iconst dX5_ranked_103 ?_
              refine j_goto (tgt := 108) dX5_ranked_104 (by decide) ?_
              refine j_iadd dX5_ranked_108 ?_
              refine j_istore (L' := [(0, _), (1, _), (2, _), (3, _), (4, _), (5, _), (6, _)]) dX5_ranked_109 (by decide) rfl ?_
              refine j_iinc (L' := [(0, _), (1, _), (2, _), (3, _), (4, _), (5, _), (6, _)]) dX5_ranked_111 rfl (by decide) rfl ?_
              refine j_goto (tgt := 52) dX5_ranked_114 (by decide) ?_
              refine J.keep [0, 1, 2, 3, 4, 5] (L' := [(0, _), (1, _), (2, _), (3, _), (4, _), (5, _)]) rfl ?_
              have e9 := csum_s (fun o => bi (mK (G 0) 2 o - mK (G 0) 2 i > 0 ∨ (mK (G 0) 2 o - mK (G 0) 2 i = 0 ∧ o < i))) j1
              try dsimp only at e9
              first
                | (rw [bi_t (by omega)] at e9; have ih9 := ih2 (a + 1, j + 1); dsimp only at ih9; exact ih9 ⟨by omega, by omega, by omega, by omega, by omega⟩ (by omega))
                | (rw [bi_f (by omega)] at e9; have ih9 := ih2 (a + 0, j + 1); dsimp only at ih9; exact ih9 ⟨by omega, by omega, by omega, by omega, by omega⟩ (by omega))
            · refine j_iload dX5_ranked_92 rfl ?_
              refine j_if_ne (tgt := 107) dX5_ranked_94 (by decide) (by omega) (fun c14 => ?_) (fun c14 => ?_)
              · refine j_iconst dX5_ranked_107 ?_
                refine j_iadd dX5_ranked_108 ?_
                refine j_istore (L' := [(0, _), (1, _), (2, _), (3, _), (4, _), (5, _), (6, _)]) dX5_ranked_109 (by decide) rfl ?_
                refine j_iinc (L' := [(0, _), (1, _), (2, _), (3, _), (4, _), (5, _), (6, _)]) dX5_ranked_111 rfl (by decide) rfl ?_
                refine j_goto (tgt := 52) dX5_ranked_114 (by decide) ?_
                refine J.keep [0, 1, 2, 3, 4, 5] (L' := [(0, _), (1, _), (2, _), (3, _), (4, _), (5, _)]) rfl ?_
                have e9 := csum_s (fun o => bi (mK (G 0) 2 o - mK (G 0) 2 i > 0 ∨ (mK (G 0) 2 o - mK (G 0) 2 i = 0 ∧ o < i))) j1
                try dsimp only at e9
                first
                  | (rw [bi_t (by omega)] at e9; have ih9 := ih2 (a + 1, j + 1); dsimp only at ih9; exact ih9 ⟨by omega, by omega, by omega, by omega, by omega⟩ (by omega))
                  | (rw [bi_f (by omega)] at e9; have ih9 := ih2 (a + 0, j + 1); dsimp only at ih9; exact ih9 ⟨by omega, by omega, by omega, by omega, by omega⟩ (by omega))
              · refine j_iload dX5_ranked_97 rfl ?_
                refine j_iload_n dX5_ranked_99 rfl rfl ?_
                refine j_icmp_ge (tgt := 107) dX5_ranked_100 (by decide) (by omega) (fun c15 => ?_) (fun c15 => ?_)
                · refine j_iconst dX5_ranked_107 ?_
                  refine j_iadd dX5_ranked_108 ?_
                  refine j_istore (L' := [(0, _), (1, _), (2, _), (3, _), (4, _), (5, _), (6, _)]) dX5_ranked_109 (by decide) rfl ?_
                  refine j_iinc (L' := [(0, _), (1, _), (2, _), (3, _), (4, _), (5, _), (6, _)]) dX5_ranked_111 rfl (by decide) rfl ?_
                  refine j_goto (tgt := 52) dX5_ranked_114 (by decide) ?_
                  refine J.keep [0, 1, 2, 3, 4, 5] (L' := [(0, _), (1, _), (2, _), (3, _), (4, _), (5, _)]) rfl ?_
                  have e9 := csum_s (fun o => bi (mK (G 0) 2 o - mK (G 0) 2 i > 0 ∨ (mK (G 0) 2 o - mK (G 0) 2 i = 0 ∧ o < i))) j1
                  try dsimp only at e9
                  first
                    | (rw [bi_t (by omega)] at e9; have ih9 := ih2 (a + 1, j + 1); dsimp only at ih9; exact ih9 ⟨by omega, by omega, by omega, by omega, by omega⟩ (by omega))
                    | (rw [bi_f (by omega)] at e9; have ih9 := ih2 (a + 0, j + 1); dsimp only at ih9; exact ih9 ⟨by omega, by omega, by omega, by omega, by omega⟩ (by omega))
                · refine j_iconst dX5_ranked_103 ?_
                  refine j_goto (tgt := 108) dX5_ranked_104 (by decide) ?_
                  refine j_iadd dX5_ranked_108 ?_
                  refine j_istore (L' := [(0, _), (1, _), (2, _), (3, _), (4, _), (5, _), (6, _)]) dX5_ranked_109 (by decide) rfl ?_
                  refine j_iinc (L' := [(0, _), (1, _), (2, _), (3, _), (4, _), (5, _), (6, _)]) dX5_ranked_111 rfl (by decide) rfl ?_
                  refine j_goto (tgt := 52) dX5_ranked_114 (by decide) ?_
                  refine J.keep [0, 1, 2, 3, 4, 5] (L' := [(0, _), (1, _), (2, _), (3, _), (4, _), (5, _)]) rfl ?_
                  have e9 := csum_s (fun o => bi (mK (G 0) 2 o - mK (G 0) 2 i > 0 ∨ (mK (G 0) 2 o - mK (G 0) 2 i = 0 ∧ o < i))) j1
                  try dsimp only at e9
                  first
                    | (rw [bi_t (by omega)] at e9; have ih9 := ih2 (a + 1, j + 1); dsimp only at ih9; exact ih9 ⟨by omega, by omega, by omega, by omega, by omega⟩ (by omega))
                    | (rw [bi_f (by omega)] at e9; have ih9 := ih2 (a + 0, j + 1); dsimp only at ih9; exact ih9 ⟨by omega, by omega, by omega, by omega, by omega⟩ (by omega))
        · dsimp only
          exact ⟨by omega, by omega, rfl, by omega, by omega⟩
    · dsimp only
      exact ⟨by omega, by omega, by rw [Int.sub_zero]⟩
