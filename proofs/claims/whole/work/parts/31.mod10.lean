theorem mok_spo2 {B : Int} {f : Int → Int} {p o : Int} (h : jOk B (mK f)) (hp : 0 ≤ p ∧ p < f 0) (ho : 0 ≤ o ∧ o < f 0) : jOk B (mK (jfu (jfu f (29 + p) o) (29 + o) p)) := by
  have e : jfu f (29 + p) o 0 = f 0 := jfu_n (by omega)
  exact mok_spo (mok_spo h hp (by omega)) (by rw [e]; exact ho) (by rw [e]; omega)
theorem jOk.up {B B' : Int} {F : fS} (h : jOk B F) (hB : B ≤ B' ∧ B' ≤ 20000000) : jOk B' F := by
  obtain ⟨a1, a2, a3, a4, a5, a6, a7, a8, a9, a10, a11, a12⟩ := h
  exact ⟨a1, a2, a3, a4, a5, fun i => ⟨(a6 i).1, Int.le_trans (a6 i).2 hB.1⟩, a7, a8, ⟨a9.1, Int.le_trans a9.2 hB.1⟩, ⟨a10.1, Int.le_trans a10.2 hB.1⟩, ⟨a11.1, Int.le_trans a11.2 hB.1⟩, hB.2⟩
theorem m_endQ_ok {B : Int} {G : fS} (hO : jOk B (mK (G 0))) (hB : B + 20 ≤ 20000000) : jOk (B + 20) (mK ((m_endQ G).2 0)) := by
  rw [(m_endQ_K hO).2]
  exact jOk_end hO hB
theorem m_canMarry_t {G : fS} {p o : Int} (h : ¬ (m_canMarry G p o).1 = 0) : (m_canMarry G p o).2 = G := by
  unfold m_canMarry at h ⊢
  repeat' split at h
  all_goals first | exact absurd rfl h | skip
  all_goals simp only [*, if_true, if_false, not_true_eq_false, not_false_eq_true, ite_self] at *
  all_goals rfl
noncomputable def m_doGraft (G : fS) (p o : Int) : Int × fS := if (bi (0 ≤ p ∧ p < (G 0) 0)) = 0 then ((m_fails G 1).1, (m_fails G 1).2) else if (bi (0 ≤ o ∧ o < (G 0) 0)) = 0 then ((m_fails G 1).1, (m_fails G 1).2) else if (mK (G 0) 0 p) < 0 then if (frt (mK (G 0)) o) = p then ((m_refuse G 2 4 p).1, (m_refuse G 2 4 p).2) else (csum (fun c => bi (mK (((m_endQ (gs G 0 (jfu (G 0) (5 + p) o))).2) 0) 0 c = -1)) ((((m_endQ (gs G 0 (jfu (G 0) (5 + p) o))).2) 0) 0).toNat, (m_endQ (gs G 0 (jfu (G 0) (5 + p) o))).2) else ((m_refuse G 2 3 (mK (G 0) 0 p)).1, (m_refuse G 2 3 (mK (G 0) 0 p)).2)
set_option maxHeartbeats 4000000 in
/-- reference: doGraft -/
theorem c5_doGraft {k : Nat} {G : fS} {f : Int → Int} {B : Int} {h : jH} (hG : jOb sM k G h) (hf : G 0 = f) (hO : jOk B (mK f)) (hA : fAc (mK f)) {p o : Int} (hp : -2147483648 ≤ p ∧ p ≤ 2147483647) (ho : -2147483648 ≤ o ∧ o ≤ 2147483647) (hB : B + 20 ≤ 20000000) : jM mX5_doGraft 4 0 0 [] [.ref k, iv p, iv o] h (jWi sM k (m_doGraft G p o) h) jno := by
  refine j_method (by decide +kernel) rfl (fun _ _ _ => trivial) (Nat.le_of_ble_eq_true rfl) ?_
  generalize hZ : jZ [] 0 0 _ _ = Z
  show J mX5_doGraft (jR 4 0 0) [] Z 0 [(0, .ref k), (1, iv p), (2, iv o)] [] h 0 0
  subst hf
  have hn := mK_n hO
  have hb := hO.b
  have hE0 : jEx k 10 h h := jEx.rf
  refine j_aload_n dX5_doGraft_0 rfl rfl ?_
  refine j_iload_n dX5_doGraft_1 rfl rfl ?_
  refine j_callV (c5_has hG (f := (G 0)) rfl (by omega) (by omega)) dX5_doGraft_2 jc_X5_89 jmV_X5_has rfl rfl hG.1 rfl rfl (by simp) jfr_nil (Nat.le_of_ble_eq_true rfl) ⟨Nat.le_of_ble_eq_true rfl, Nat.le_of_ble_eq_true rfl⟩ ⟨Nat.le_of_ble_eq_true rfl, Nat.le_of_ble_eq_true rfl⟩ (fun r h1 hp9 => ?_) (fun E h9 q => q.elim)
  obtain ⟨rfl, rfl⟩ := hp9
  refine j_if_eq (tgt := 16) dX5_doGraft_5 (by decide) (bi_r32 _) (fun c2 => ?_) (fun c2 => ?_)
  · have qc2 := bi_z c2
    refine j_aload_n dX5_doGraft_16 rfl rfl ?_
    refine j_iconst dX5_doGraft_17 ?_
    refine j_callV (c5_fails hG) dX5_doGraft_18 jc_X5_93 jmV_X5_fails rfl rfl hG.1 rfl rfl (by simp) jfr_nil (Nat.le_of_ble_eq_true rfl) ⟨Nat.le_of_ble_eq_true rfl, Nat.le_of_ble_eq_true rfl⟩ ⟨Nat.le_of_ble_eq_true rfl, Nat.le_of_ble_eq_true rfl⟩ (fun r h3 hp9 => ?_) (fun E h9 q => q.elim)
    obtain ⟨rfl, hG4, hX5⟩ := hp9
    have hE6 := hE0.tr hX5
    subst hZ
    exact j_ireturn dX5_doGraft_21 rfl rfl (jWi.i (if_pos c2) hG4 hE6) (Nat.le_refl _) (Nat.le_refl _)
  · have qc2 := bi_nz c2
    refine j_aload_n dX5_doGraft_8 rfl rfl ?_
    refine j_iload_n dX5_doGraft_9 rfl rfl ?_
    refine j_callV (c5_has hG (f := (G 0)) rfl (by omega) (by omega)) dX5_doGraft_10 jc_X5_89 jmV_X5_has rfl rfl hG.1 rfl rfl (by simp) jfr_nil (Nat.le_of_ble_eq_true rfl) ⟨Nat.le_of_ble_eq_true rfl, Nat.le_of_ble_eq_true rfl⟩ ⟨Nat.le_of_ble_eq_true rfl, Nat.le_of_ble_eq_true rfl⟩ (fun r h7 hp9 => ?_) (fun E h9 q => q.elim)
    obtain ⟨rfl, rfl⟩ := hp9
    refine j_if_ne (tgt := 22) dX5_doGraft_13 (by decide) (bi_r32 _) (fun c8 => ?_) (fun c8 => ?_)
    · have qc8 := bi_nz c8
      refine j_aload_n dX5_doGraft_22 rfl rfl ?_
      refine j_iload_n dX5_doGraft_23 rfl rfl ?_
      refine j_callV (c5_parent hG (f := (G 0)) rfl hO (by omega)) dX5_doGraft_24 jc_X5_68 jmV_X5_parent rfl rfl hG.1 rfl rfl (by simp) jfr_nil (Nat.le_of_ble_eq_true rfl) ⟨Nat.le_of_ble_eq_true rfl, Nat.le_of_ble_eq_true rfl⟩ ⟨Nat.le_of_ble_eq_true rfl, Nat.le_of_ble_eq_true rfl⟩ (fun r h9 hp9 => ?_) (fun E h9 q => q.elim)
      obtain ⟨rfl, rfl⟩ := hp9
      have hpp9 : -1 ≤ mK (G 0) 0 p ∧ mK (G 0) 0 p < (G 0) 0 := hO.p p
      refine j_if_lt (tgt := 42) dX5_doGraft_27 (by decide) (by omega) (fun c10 => ?_) (fun c10 => ?_)
      · refine j_aload_n dX5_doGraft_42 rfl rfl ?_
        refine j_iload_n dX5_doGraft_43 rfl rfl ?_
        refine j_callV (c5_rootOf hG (f := (G 0)) rfl hO hA (by omega)) dX5_doGraft_44 jc_X5_102 jmV_X5_rootOf rfl rfl hG.1 rfl rfl (by simp) jfr_nil (Nat.le_of_ble_eq_true rfl) ⟨Nat.le_of_ble_eq_true rfl, Nat.le_of_ble_eq_true rfl⟩ ⟨Nat.le_of_ble_eq_true rfl, Nat.le_of_ble_eq_true rfl⟩ (fun r h11 hp9 => ?_) (fun E h9 q => q.elim)
        obtain ⟨rfl, rfl⟩ := hp9
        have hr9 := mfrt hO hA (x := o) (by omega)
        refine j_iload_n dX5_doGraft_47 rfl rfl ?_
        refine j_icmp_ne (tgt := 59) dX5_doGraft_48 (by decide) (by omega) (fun c12 => ?_) (fun c12 => ?_)
        · refine j_aload_n dX5_doGraft_59 rfl rfl ?_
          refine j_getfield (v := .ref (k + 1)) dX5_doGraft_60 jf_X5_9 hG.1 rfl ?_
          refine j_iconst dX5_doGraft_63 ?_
          refine j_iload_n dX5_doGraft_64 rfl rfl ?_
          refine j_iadd dX5_doGraft_65 ?_
          refine j_iload_n dX5_doGraft_66 rfl rfl ?_
          refine jo_ias (S := sM) (k := k) dX5_doGraft_67 okM hG (i := 0) (p := 1) rfl (by omega) (by decide) (fun h13 hG13 hX13 => ?_)
          have hE14 := hE0.tr hX13
          have hO15 : jOk B (mK (jfu (G 0) (5 + p) o)) := mok_par hO (by omega) (by omega)
          refine j_aload_n dX5_doGraft_68 rfl rfl ?_
          refine j_callV (c5_endQuarrels hG13 (f := (jfu (G 0) (5 + p) o)) rfl hO15) dX5_doGraft_69 jc_X5_105 jmV_X5_endQuarrels rfl rfl hG13.1 rfl rfl (by simp) jfr_nil (Nat.le_of_ble_eq_true rfl) ⟨Nat.le_of_ble_eq_true rfl, Nat.le_of_ble_eq_true rfl⟩ ⟨Nat.le_of_ble_eq_true rfl, Nat.le_of_ble_eq_true rfl⟩ (fun r h17 hp9 => ?_) (fun E h9 q => q.elim)
          obtain ⟨rfl, hG18, hX19⟩ := hp9
          have hE20 := hE14.tr hX19
          have hO16 := m_endQ_ok (G := (gs G 0 (jfu (G 0) (5 + p) o))) hO15 hB
          refine j_istore_n (L' := [(0, _), (1, _), (2, _), (3, _)]) dX5_doGraft_72 rfl (by decide) rfl ?_
          refine j_aload_n dX5_doGraft_73 rfl rfl ?_
          refine j_callV (c5_oaks hG18 (f := (((m_endQ (gs G 0 (jfu (G 0) (5 + p) o))).2) 0)) rfl hO16) dX5_doGraft_74 jc_X5_108 jmV_X5_oaks rfl rfl hG18.1 rfl rfl (by simp) jfr_nil (Nat.le_of_ble_eq_true rfl) ⟨Nat.le_of_ble_eq_true rfl, Nat.le_of_ble_eq_true rfl⟩ ⟨Nat.le_of_ble_eq_true rfl, Nat.le_of_ble_eq_true rfl⟩ (fun r h21 hp9 => ?_) (fun E h9 q => q.elim)
          obtain ⟨rfl, rfl⟩ := hp9
          have hk9 := csum_bi (P := fun c => mK (((m_endQ (gs G 0 (jfu (G 0) (5 + p) o))).2) 0) 0 c = -1) ((((m_endQ (gs G 0 (jfu (G 0) (5 + p) o))).2) 0) 0).toNat
          subst hZ
          exact j_ireturn dX5_doGraft_77 rfl rfl (jWi.i ((if_neg c2).trans ((if_neg c8).trans ((if_pos c10).trans (if_neg c12)))) hG18 hE20) (Nat.le_refl _) (Nat.le_refl _)
        · refine j_aload_n dX5_doGraft_51 rfl rfl ?_
          refine j_iconst dX5_doGraft_52 ?_
          refine j_iconst dX5_doGraft_53 ?_
          refine j_iload_n dX5_doGraft_54 rfl rfl ?_
          refine j_callV (c5_refuse hG) dX5_doGraft_55 jc_X5_72 jmV_X5_refuse rfl rfl hG.1 rfl rfl (by simp) jfr_nil (Nat.le_of_ble_eq_true rfl) ⟨Nat.le_of_ble_eq_true rfl, Nat.le_of_ble_eq_true rfl⟩ ⟨Nat.le_of_ble_eq_true rfl, Nat.le_of_ble_eq_true rfl⟩ (fun r h22 hp9 => ?_) (fun E h9 q => q.elim)
          obtain ⟨rfl, hG23, hX24⟩ := hp9
          have hE25 := hE0.tr hX24
          subst hZ
          exact j_ireturn dX5_doGraft_58 rfl rfl (jWi.i ((if_neg c2).trans ((if_neg c8).trans ((if_pos c10).trans (if_pos c12)))) hG23 hE25) (Nat.le_refl _) (Nat.le_refl _)
      · refine j_aload_n dX5_doGraft_30 rfl rfl ?_
        refine j_iconst dX5_doGraft_31 ?_
        refine j_iconst dX5_doGraft_32 ?_
        refine j_aload_n dX5_doGraft_33 rfl rfl ?_
        refine j_iload_n dX5_doGraft_34 rfl rfl ?_
        refine j_callV (c5_parent hG (f := (G 0)) rfl hO (by omega)) dX5_doGraft_35 jc_X5_68 jmV_X5_parent rfl rfl hG.1 rfl rfl (by simp) jfr_nil (Nat.le_of_ble_eq_true rfl) ⟨Nat.le_of_ble_eq_true rfl, Nat.le_of_ble_eq_true rfl⟩ ⟨Nat.le_of_ble_eq_true rfl, Nat.le_of_ble_eq_true rfl⟩ (fun r h26 hp9 => ?_) (fun E h9 q => q.elim)
        obtain ⟨rfl, rfl⟩ := hp9
        have hpp9 : -1 ≤ mK (G 0) 0 p ∧ mK (G 0) 0 p < (G 0) 0 := hO.p p
        refine j_callV (c5_refuse hG) dX5_doGraft_38 jc_X5_72 jmV_X5_refuse rfl rfl hG.1 rfl rfl (by simp) jfr_nil (Nat.le_of_ble_eq_true rfl) ⟨Nat.le_of_ble_eq_true rfl, Nat.le_of_ble_eq_true rfl⟩ ⟨Nat.le_of_ble_eq_true rfl, Nat.le_of_ble_eq_true rfl⟩ (fun r h27 hp9 => ?_) (fun E h9 q => q.elim)
        obtain ⟨rfl, hG28, hX29⟩ := hp9
        have hE30 := hE0.tr hX29
        subst hZ
        exact j_ireturn dX5_doGraft_41 rfl rfl (jWi.i ((if_neg c2).trans ((if_neg c8).trans (if_neg c10))) hG28 hE30) (Nat.le_refl _) (Nat.le_refl _)
    · have qc8 := bi_z c8
      refine j_aload_n dX5_doGraft_16 rfl rfl ?_
      refine j_iconst dX5_doGraft_17 ?_
      refine j_callV (c5_fails hG) dX5_doGraft_18 jc_X5_93 jmV_X5_fails rfl rfl hG.1 rfl rfl (by simp) jfr_nil (Nat.le_of_ble_eq_true rfl) ⟨Nat.le_of_ble_eq_true rfl, Nat.le_of_ble_eq_true rfl⟩ ⟨Nat.le_of_ble_eq_true rfl, Nat.le_of_ble_eq_true rfl⟩ (fun r h31 hp9 => ?_) (fun E h9 q => q.elim)
      obtain ⟨rfl, hG32, hX33⟩ := hp9
      have hE34 := hE0.tr hX33
      subst hZ
      exact j_ireturn dX5_doGraft_21 rfl rfl (jWi.i ((if_neg c2).trans (if_pos c8)) hG32 hE34) (Nat.le_refl _) (Nat.le_refl _)
theorem m_canMarry_r (G : fS) (p o : Int) : (m_canMarry G p o).1 = 0 ∨ (m_canMarry G p o).1 = 1 := by
  unfold m_canMarry
  repeat' split
  all_goals first | exact Or.inl rfl | exact Or.inr rfl
noncomputable def m_doMarry (G : fS) (p o : Int) : Int × fS := if (bi (0 ≤ p ∧ p < (G 0) 0)) = 0 then ((m_fails G 1).1, (m_fails G 1).2) else if (bi (0 ≤ o ∧ o < (G 0) 0)) = 0 then ((m_fails G 1).1, (m_fails G 1).2) else if ((m_canMarry G p o).1) = 0 then (0, (m_canMarry G p o).2) else ((m_endQ (gs G 0 (jfu (jfu (G 0) (29 + p) o) (29 + o) p))).1, (m_endQ (gs G 0 (jfu (jfu (G 0) (29 + p) o) (29 + o) p))).2)
set_option maxHeartbeats 4000000 in
/-- reference: doMarry -/
theorem c5_doMarry {k : Nat} {G : fS} {f : Int → Int} {B : Int} {h : jH} (hG : jOb sM k G h) (hf : G 0 = f) (hO : jOk B (mK f)) (hA : fAc (mK f)) {p o : Int} (hp : -2147483648 ≤ p ∧ p ≤ 2147483647) (ho : -2147483648 ≤ o ∧ o ≤ 2147483647) : jM mX5_doMarry 5 0 0 [] [.ref k, iv p, iv o] h (jWi sM k (m_doMarry G p o) h) jno := by
  refine j_method (by decide +kernel) rfl (fun _ _ _ => trivial) (Nat.le_of_ble_eq_true rfl) ?_
  generalize hZ : jZ [] 0 0 _ _ = Z
  show J mX5_doMarry (jR 5 0 0) [] Z 0 [(0, .ref k), (1, iv p), (2, iv o)] [] h 0 0
  subst hf
  have hn := mK_n hO
  have hb := hO.b
  have hE0 : jEx k 10 h h := jEx.rf
  refine j_aload_n dX5_doMarry_0 rfl rfl ?_
  refine j_iload_n dX5_doMarry_1 rfl rfl ?_
  refine j_callV (c5_has hG (f := (G 0)) rfl (by omega) (by omega)) dX5_doMarry_2 jc_X5_89 jmV_X5_has rfl rfl hG.1 rfl rfl (by simp) jfr_nil (Nat.le_of_ble_eq_true rfl) ⟨Nat.le_of_ble_eq_true rfl, Nat.le_of_ble_eq_true rfl⟩ ⟨Nat.le_of_ble_eq_true rfl, Nat.le_of_ble_eq_true rfl⟩ (fun r h1 hp9 => ?_) (fun E h9 q => q.elim)
  obtain ⟨rfl, rfl⟩ := hp9
  refine j_if_eq (tgt := 16) dX5_doMarry_5 (by decide) (bi_r32 _) (fun c2 => ?_) (fun c2 => ?_)
  · have qc2 := bi_z c2
    refine j_aload_n dX5_doMarry_16 rfl rfl ?_
    refine j_iconst dX5_doMarry_17 ?_
    refine j_callV (c5_fails hG) dX5_doMarry_18 jc_X5_93 jmV_X5_fails rfl rfl hG.1 rfl rfl (by simp) jfr_nil (Nat.le_of_ble_eq_true rfl) ⟨Nat.le_of_ble_eq_true rfl, Nat.le_of_ble_eq_true rfl⟩ ⟨Nat.le_of_ble_eq_true rfl, Nat.le_of_ble_eq_true rfl⟩ (fun r h3 hp9 => ?_) (fun E h9 q => q.elim)
    obtain ⟨rfl, hG4, hX5⟩ := hp9
    have hE6 := hE0.tr hX5
    subst hZ
    exact j_ireturn dX5_doMarry_21 rfl rfl (jWi.i (if_pos c2) hG4 hE6) (Nat.le_refl _) (Nat.le_refl _)
  · have qc2 := bi_nz c2
    refine j_aload_n dX5_doMarry_8 rfl rfl ?_
    refine j_iload_n dX5_doMarry_9 rfl rfl ?_
    refine j_callV (c5_has hG (f := (G 0)) rfl (by omega) (by omega)) dX5_doMarry_10 jc_X5_89 jmV_X5_has rfl rfl hG.1 rfl rfl (by simp) jfr_nil (Nat.le_of_ble_eq_true rfl) ⟨Nat.le_of_ble_eq_true rfl, Nat.le_of_ble_eq_true rfl⟩ ⟨Nat.le_of_ble_eq_true rfl, Nat.le_of_ble_eq_true rfl⟩ (fun r h7 hp9 => ?_) (fun E h9 q => q.elim)
    obtain ⟨rfl, rfl⟩ := hp9
    refine j_if_ne (tgt := 22) dX5_doMarry_13 (by decide) (bi_r32 _) (fun c8 => ?_) (fun c8 => ?_)
    · have qc8 := bi_nz c8
      refine j_aload_n dX5_doMarry_22 rfl rfl ?_
      refine j_iload_n dX5_doMarry_23 rfl rfl ?_
      refine j_iload_n dX5_doMarry_24 rfl rfl ?_
      refine j_callV (c5_canMarry hG (f := (G 0)) rfl hO hA (by omega) (by omega)) dX5_doMarry_25 jc_X5_164 jmV_X5_canMarry rfl rfl hG.1 rfl rfl (by simp) jfr_nil (Nat.le_of_ble_eq_true rfl) ⟨Nat.le_of_ble_eq_true rfl, Nat.le_of_ble_eq_true rfl⟩ ⟨Nat.le_of_ble_eq_true rfl, Nat.le_of_ble_eq_true rfl⟩ (fun r h9 hp9 => ?_) (fun E h9 q => q.elim)
      obtain ⟨rfl, hG10, hX11⟩ := hp9
      have hE12 := hE0.tr hX11
      refine j_if_ne (tgt := 33) dX5_doMarry_28 (by decide) (by have := m_canMarry_r G p o; omega) (fun c13 => ?_) (fun c13 => ?_)
      · have hG14 : jOb sM k G h9 := m_canMarry_t c13 ▸ hG10
        refine j_aload_n dX5_doMarry_33 rfl rfl ?_
        refine j_getfield (v := .ref (k + 1)) dX5_doMarry_34 jf_X5_9 hG14.1 rfl ?_
        refine j_bipush dX5_doMarry_37 (by decide +kernel) ?_
        refine j_iload_n dX5_doMarry_39 rfl rfl ?_
        refine j_iadd dX5_doMarry_40 ?_
        refine j_iload_n dX5_doMarry_41 rfl rfl ?_
        refine jo_ias (S := sM) (k := k) dX5_doMarry_42 okM hG14 (i := 0) (p := 1) rfl (by omega) (by decide) (fun h15 hG15 hX15 => ?_)
        have hE16 := hE12.tr hX15
        have hO17 : jOk B (mK (jfu (G 0) (29 + p) o)) := (by first | exact mok_spo2 hO (by omega) (by omega) | exact mok_spo hO (by omega) (by omega))
        refine j_aload_n dX5_doMarry_43 rfl rfl ?_
        refine j_getfield (v := .ref (k + 1)) dX5_doMarry_44 jf_X5_9 hG15.1 rfl ?_
        refine j_bipush dX5_doMarry_47 (by decide +kernel) ?_
        refine j_iload_n dX5_doMarry_49 rfl rfl ?_
        refine j_iadd dX5_doMarry_50 ?_
        refine j_iload_n dX5_doMarry_51 rfl rfl ?_
        refine jo_ias (S := sM) (k := k) dX5_doMarry_52 okM hG15 (i := 0) (p := 1) rfl (by omega) (by decide) (fun h18 hG18 hX18 => ?_)
        have hE19 := hE16.tr hX18
        have hG20 : jOb sM k (gs G 0 (jfu (jfu (G 0) (29 + p) o) (29 + o) p)) h18 := Eq.mp (congrArg (fun z => jOb sM k z _) gs_gs) hG18
        have hO21 : jOk B (mK (jfu (jfu (G 0) (29 + p) o) (29 + o) p)) := (by first | exact mok_spo2 hO (by omega) (by omega) | exact mok_spo hO17 (by omega) (by omega))
        refine j_aload_n dX5_doMarry_53 rfl rfl ?_
        refine j_callV (c5_endQuarrels hG20 (f := (jfu (jfu (G 0) (29 + p) o) (29 + o) p)) rfl hO21) dX5_doMarry_54 jc_X5_105 jmV_X5_endQuarrels rfl rfl hG20.1 rfl rfl (by simp) jfr_nil (Nat.le_of_ble_eq_true rfl) ⟨Nat.le_of_ble_eq_true rfl, Nat.le_of_ble_eq_true rfl⟩ ⟨Nat.le_of_ble_eq_true rfl, Nat.le_of_ble_eq_true rfl⟩ (fun r h23 hp9 => ?_) (fun E h9 q => q.elim)
        obtain ⟨rfl, hG24, hX25⟩ := hp9
        have hE26 := hE19.tr hX25
        subst hZ
        exact j_ireturn dX5_doMarry_57 rfl rfl (jWi.i ((if_neg c2).trans ((if_neg c8).trans (if_neg c13))) hG24 hE26) (Nat.le_refl _) (Nat.le_refl _)
      · refine j_iconst dX5_doMarry_31 ?_
        subst hZ
        exact j_ireturn dX5_doMarry_32 rfl rfl (jWi.i ((if_neg c2).trans ((if_neg c8).trans (if_pos c13))) hG10 hE12) (Nat.le_refl _) (Nat.le_refl _)
    · have qc8 := bi_z c8
      refine j_aload_n dX5_doMarry_16 rfl rfl ?_
      refine j_iconst dX5_doMarry_17 ?_
      refine j_callV (c5_fails hG) dX5_doMarry_18 jc_X5_93 jmV_X5_fails rfl rfl hG.1 rfl rfl (by simp) jfr_nil (Nat.le_of_ble_eq_true rfl) ⟨Nat.le_of_ble_eq_true rfl, Nat.le_of_ble_eq_true rfl⟩ ⟨Nat.le_of_ble_eq_true rfl, Nat.le_of_ble_eq_true rfl⟩ (fun r h27 hp9 => ?_) (fun E h9 q => q.elim)
      obtain ⟨rfl, hG28, hX29⟩ := hp9
      have hE30 := hE0.tr hX29
      subst hZ
      exact j_ireturn dX5_doMarry_21 rfl rfl (jWi.i ((if_neg c2).trans (if_pos c8)) hG28 hE30) (Nat.le_refl _) (Nat.le_refl _)
