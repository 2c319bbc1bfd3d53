theorem c5_sn {k : Nat} {G : fS} {h : jH} (hG : jOb sM k G h) {v : Int} (hv : 0 ≤ v ∧ v ≤ 20000000) (hl : 0 ≤ G 14 0 ∧ G 14 0 + 7 < 40) : jM mX5_saysNumber 9 0 0 [] [.ref k, iv v] h (jWv sM k (m_lin G (dgs 7 v)) h) jno :=
  c5_saysNumber 7 k G h hG v ⟨hv.1, by have e : (10 : Int) ^ (7 + 1) = 100000000 := (by decide); rw [e]; omega, hv.2⟩ ⟨hl.1, by have := hl.2; omega⟩
def m_line (G : fS) (p : Int) : Int × fS := if (bi (0 ≤ p ∧ p < (G 0) 0)) = 0 then (0, gn G 6 1) else if (mK (G 0) 0 p) < 0 then if ((G 0) (29 + p)) < 0 then if ((G 0) (53 + p)) ≤ 0 then if (mK (G 0) 3 p) = 0 then ((0 : Int) + (([35] ++ dgs 7 p ++ [120]).length : Int), m_lin (gn (gn G 6 0) 14 0) ([35] ++ dgs 7 p ++ [120])) else ((0 : Int) + (([35] ++ dgs 7 p).length : Int), m_lin (gn (gn G 6 0) 14 0) ([35] ++ dgs 7 p)) else if (mK (G 0) 3 p) = 0 then ((0 : Int) + (([35] ++ dgs 7 p ++ [61] ++ dgs 7 ((G 0) (53 + p)) ++ [120]).length : Int), m_lin (gn (gn G 6 0) 14 0) ([35] ++ dgs 7 p ++ [61] ++ dgs 7 ((G 0) (53 + p)) ++ [120])) else ((0 : Int) + (([35] ++ dgs 7 p ++ [61] ++ dgs 7 ((G 0) (53 + p))).length : Int), m_lin (gn (gn G 6 0) 14 0) ([35] ++ dgs 7 p ++ [61] ++ dgs 7 ((G 0) (53 + p)))) else if ((G 0) (53 + p)) ≤ 0 then if (mK (G 0) 3 p) = 0 then ((0 : Int) + (([35] ++ dgs 7 p ++ [43] ++ dgs 7 ((G 0) (29 + p)) ++ [120]).length : Int), m_lin (gn (gn G 6 0) 14 0) ([35] ++ dgs 7 p ++ [43] ++ dgs 7 ((G 0) (29 + p)) ++ [120])) else ((0 : Int) + (([35] ++ dgs 7 p ++ [43] ++ dgs 7 ((G 0) (29 + p))).length : Int), m_lin (gn (gn G 6 0) 14 0) ([35] ++ dgs 7 p ++ [43] ++ dgs 7 ((G 0) (29 + p)))) else if (mK (G 0) 3 p) = 0 then ((0 : Int) + (([35] ++ dgs 7 p ++ [43] ++ dgs 7 ((G 0) (29 + p)) ++ [61] ++ dgs 7 ((G 0) (53 + p)) ++ [120]).length : Int), m_lin (gn (gn G 6 0) 14 0) ([35] ++ dgs 7 p ++ [43] ++ dgs 7 ((G 0) (29 + p)) ++ [61] ++ dgs 7 ((G 0) (53 + p)) ++ [120])) else ((0 : Int) + (([35] ++ dgs 7 p ++ [43] ++ dgs 7 ((G 0) (29 + p)) ++ [61] ++ dgs 7 ((G 0) (53 + p))).length : Int), m_lin (gn (gn G 6 0) 14 0) ([35] ++ dgs 7 p ++ [43] ++ dgs 7 ((G 0) (29 + p)) ++ [61] ++ dgs 7 ((G 0) (53 + p)))) else if ((G 0) (29 + p)) < 0 then if ((G 0) (53 + p)) ≤ 0 then if (mK (G 0) 3 p) = 0 then ((0 : Int) + (([35] ++ dgs 7 p ++ [60] ++ dgs 7 (mK (G 0) 0 p) ++ [120]).length : Int), m_lin (gn (gn G 6 0) 14 0) ([35] ++ dgs 7 p ++ [60] ++ dgs 7 (mK (G 0) 0 p) ++ [120])) else ((0 : Int) + (([35] ++ dgs 7 p ++ [60] ++ dgs 7 (mK (G 0) 0 p)).length : Int), m_lin (gn (gn G 6 0) 14 0) ([35] ++ dgs 7 p ++ [60] ++ dgs 7 (mK (G 0) 0 p))) else if (mK (G 0) 3 p) = 0 then ((0 : Int) + (([35] ++ dgs 7 p ++ [60] ++ dgs 7 (mK (G 0) 0 p) ++ [61] ++ dgs 7 ((G 0) (53 + p)) ++ [120]).length : Int), m_lin (gn (gn G 6 0) 14 0) ([35] ++ dgs 7 p ++ [60] ++ dgs 7 (mK (G 0) 0 p) ++ [61] ++ dgs 7 ((G 0) (53 + p)) ++ [120])) else ((0 : Int) + (([35] ++ dgs 7 p ++ [60] ++ dgs 7 (mK (G 0) 0 p) ++ [61] ++ dgs 7 ((G 0) (53 + p))).length : Int), m_lin (gn (gn G 6 0) 14 0) ([35] ++ dgs 7 p ++ [60] ++ dgs 7 (mK (G 0) 0 p) ++ [61] ++ dgs 7 ((G 0) (53 + p)))) else if ((G 0) (53 + p)) ≤ 0 then if (mK (G 0) 3 p) = 0 then ((0 : Int) + (([35] ++ dgs 7 p ++ [60] ++ dgs 7 (mK (G 0) 0 p) ++ [43] ++ dgs 7 ((G 0) (29 + p)) ++ [120]).length : Int), m_lin (gn (gn G 6 0) 14 0) ([35] ++ dgs 7 p ++ [60] ++ dgs 7 (mK (G 0) 0 p) ++ [43] ++ dgs 7 ((G 0) (29 + p)) ++ [120])) else ((0 : Int) + (([35] ++ dgs 7 p ++ [60] ++ dgs 7 (mK (G 0) 0 p) ++ [43] ++ dgs 7 ((G 0) (29 + p))).length : Int), m_lin (gn (gn G 6 0) 14 0) ([35] ++ dgs 7 p ++ [60] ++ dgs 7 (mK (G 0) 0 p) ++ [43] ++ dgs 7 ((G 0) (29 + p)))) else if (mK (G 0) 3 p) = 0 then ((0 : Int) + (([35] ++ dgs 7 p ++ [60] ++ dgs 7 (mK (G 0) 0 p) ++ [43] ++ dgs 7 ((G 0) (29 + p)) ++ [61] ++ dgs 7 ((G 0) (53 + p)) ++ [120]).length : Int), m_lin (gn (gn G 6 0) 14 0) ([35] ++ dgs 7 p ++ [60] ++ dgs 7 (mK (G 0) 0 p) ++ [43] ++ dgs 7 ((G 0) (29 + p)) ++ [61] ++ dgs 7 ((G 0) (53 + p)) ++ [120])) else ((0 : Int) + (([35] ++ dgs 7 p ++ [60] ++ dgs 7 (mK (G 0) 0 p) ++ [43] ++ dgs 7 ((G 0) (29 + p)) ++ [61] ++ dgs 7 ((G 0) (53 + p))).length : Int), m_lin (gn (gn G 6 0) 14 0) ([35] ++ dgs 7 p ++ [60] ++ dgs 7 (mK (G 0) 0 p) ++ [43] ++ dgs 7 ((G 0) (29 + p)) ++ [61] ++ dgs 7 ((G 0) (53 + p))))
set_option maxHeartbeats 4000000 in
/-- reference: line -/
theorem c5_line {k : Nat} {G : fS} {f : Int → Int} {B : Int} {h : jH} (hG : jOb sM k G h) (hf : G 0 = f) (hO : jOk B (mK f)) {p : Int} (hp : -2147483648 ≤ p ∧ p ≤ 2147483647) : jM mX5_line 12 0 0 [] [.ref k, iv p] h (jWi sM k (m_line G p) h) jno := by
  refine j_method (by decide +kernel) rfl (fun _ _ _ => trivial) (Nat.le_of_ble_eq_true rfl) ?_
  generalize hZ : jZ [] 0 0 _ _ = Z
  show J mX5_line (jR 12 0 0) [] Z 0 [(0, .ref k), (1, iv p)] [] h 0 0
  subst hf
  have hn := mK_n hO
  have hb := hO.b
  have hE0 : jEx k 10 h h := jEx.rf
  refine j_aload_n dX5_line_0 rfl rfl ?_
  refine j_aload_n dX5_line_1 rfl rfl ?_
  refine j_iload_n dX5_line_2 rfl rfl ?_
  refine j_callV (c5_has hG (f := (G 0)) rfl (by omega) (by omega)) dX5_line_3 jc_X5_89 jmV_X5_has rfl rfl hG.1 rfl rfl (by simp) jfr_nil (Nat.le_of_ble_eq_true rfl) ⟨Nat.le_of_ble_eq_true rfl, Nat.le_of_ble_eq_true rfl⟩ ⟨Nat.le_of_ble_eq_true rfl, Nat.le_of_ble_eq_true rfl⟩ (fun r h1 hp9 => ?_) (fun E h9 q => q.elim)
  obtain ⟨rfl, rfl⟩ := hp9
  refine j_if_eq (tgt := 13) dX5_line_6 (by decide) (bi_r32 _) (fun c2 => ?_) (fun c2 => ?_)
  · have qc2 := bi_z c2
    refine j_iconst dX5_line_13 ?_
    refine jo_put (S := sM) dX5_line_14 jf_X5_42 (fun q hq => by cases hq; exact ⟨rfl, rfl⟩) (jHold_int _) okM hG rfl (fun h3 hG3 hX3 => ?_)
    have hE4 := hE0.tr hX3
    refine j_aload_n dX5_line_17 rfl rfl ?_
    refine j_getfield (v := iv 1) dX5_line_18 jf_X5_42 hG3.1 rfl ?_
    refine j_if_le (tgt := 26) dX5_line_21 (by decide) (by omega) (fun c5 => absurd c5 (by decide)) (fun c5 => ?_)
    refine j_iconst dX5_line_24 ?_
    subst hZ
    exact j_ireturn dX5_line_25 rfl rfl (jWi.i (if_pos c2) hG3 hE4) (Nat.le_refl _) (Nat.le_refl _)
  · have qc2 := bi_nz c2
    have e1 := mK_1 (f := G 0) (p := p) (by omega)
    have e2 := mK_2 (f := G 0) (p := p) (by omega)
    have e3 := hO.s p
    have e4 := hO.c p
    have e6 : mK (G 0) 6 0 = G 0 0 := rfl
    refine j_iconst dX5_line_9 ?_
    refine j_goto (tgt := 14) dX5_line_10 (by decide) ?_
    refine jo_put (S := sM) dX5_line_14 jf_X5_42 (fun q hq => by cases hq; exact ⟨rfl, rfl⟩) (jHold_int _) okM hG rfl (fun h6 hG6 hX6 => ?_)
    have hE7 := hE0.tr hX6
    refine j_aload_n dX5_line_17 rfl rfl ?_
    refine j_getfield (v := iv 0) dX5_line_18 jf_X5_42 hG6.1 rfl ?_
    refine j_if_le (tgt := 26) dX5_line_21 (by decide) (by omega) (fun c8 => ?_) (fun c8 => absurd (by decide) c8)
    refine j_aload_n dX5_line_26 rfl rfl ?_
    refine j_iconst dX5_line_27 ?_
    refine jo_put (S := sM) dX5_line_28 jf_X5_194 (fun q hq => by cases hq; exact ⟨rfl, rfl⟩) (jHold_int _) okM hG6 rfl (fun h9 hG9 hX9 => ?_)
    have hE10 := hE7.tr hX9
    refine j_aload_n dX5_line_31 rfl rfl ?_
    refine j_bipush dX5_line_32 (by decide +kernel) ?_
    refine j_callV (c5_says hG9 (by omega) (by show 0 ≤ 0 ∧ 0 < 40; omega)) dX5_line_34 jc_X5_200 jmV_X5_says rfl rfl hG9.1 rfl rfl (by simp) jfr_nil (Nat.le_of_ble_eq_true rfl) ⟨Nat.le_of_ble_eq_true rfl, Nat.le_of_ble_eq_true rfl⟩ ⟨Nat.le_of_ble_eq_true rfl, Nat.le_of_ble_eq_true rfl⟩ (fun r h11 hp9 => ?_) (fun E h9 q => q.elim)
    obtain ⟨rfl, hG12, hX13⟩ := hp9
    have hE14 := hE10.tr hX13
    have hG15 : jOb sM k (m_lin (gn (gn G 6 0) 14 0) ([35])) h11 := hG12
    refine j_aload_n dX5_line_37 rfl rfl ?_
    refine j_iload_n dX5_line_38 rfl rfl ?_
    have hl16 : ([35]).length ≤ 1 := by simp only [List.length_append, List.length_cons, List.length_nil]; omega
    refine j_callV (c5_sn hG15 (by omega) (by show 0 ≤ (0 : Int) + (([35]).length : Int) ∧ (0 : Int) + (([35]).length : Int) + 7 < 40; omega)) dX5_line_39 jc_X5_197 jmV_X5_saysNumber rfl rfl hG15.1 rfl rfl (by simp) jfr_nil (Nat.le_of_ble_eq_true rfl) ⟨Nat.le_of_ble_eq_true rfl, Nat.le_of_ble_eq_true rfl⟩ ⟨Nat.le_of_ble_eq_true rfl, Nat.le_of_ble_eq_true rfl⟩ (fun r h18 hp9 => ?_) (fun E h9 q => q.elim)
    obtain ⟨rfl, hG19, hX20⟩ := hp9
    have hE21 := hE14.tr hX20
    have hG22 : jOb sM k (m_lin (gn (gn G 6 0) 14 0) ([35] ++ dgs 7 p)) h18 := Eq.mp (congrArg (fun z => jOb sM k z _) (m_lin_app _ _ _)) hG19
    have hd17 := dgs_len 7 p
    refine j_aload_n dX5_line_42 rfl rfl ?_
    refine j_iload_n dX5_line_43 rfl rfl ?_
    refine j_callV (c5_parent hG22 (f := (G 0)) rfl hO (by omega)) dX5_line_44 jc_X5_68 jmV_X5_parent rfl rfl hG22.1 rfl rfl (by simp) jfr_nil (Nat.le_of_ble_eq_true rfl) ⟨Nat.le_of_ble_eq_true rfl, Nat.le_of_ble_eq_true rfl⟩ ⟨Nat.le_of_ble_eq_true rfl, Nat.le_of_ble_eq_true rfl⟩ (fun r h23 hp9 => ?_) (fun E h9 q => q.elim)
    obtain ⟨rfl, rfl⟩ := hp9
    have hpp9 : -1 ≤ mK (G 0) 0 p ∧ mK (G 0) 0 p < (G 0) 0 := hO.p p
    refine j_if_lt (tgt := 65) dX5_line_47 (by decide) (by omega) (fun c24 => ?_) (fun c24 => ?_)
    · refine j_aload_n dX5_line_65 rfl rfl ?_
      refine j_getfield (v := .ref (k + 1)) dX5_line_66 jf_X5_9 hG22.1 rfl ?_
      refine j_bipush dX5_line_69 (by decide +kernel) ?_
      refine j_iload_n dX5_line_71 rfl rfl ?_
      refine j_iadd dX5_line_72 ?_
      refine j_iaload (f := G 0) dX5_line_73 (hG22.a 0 1 0 141 rfl) (by omega) (by decide) ?_
      refine j_if_lt (tgt := 96) dX5_line_74 (by decide) (by omega) (fun c25 => ?_) (fun c25 => ?_)
      · refine j_aload_n dX5_line_96 rfl rfl ?_
        refine j_getfield (v := .ref (k + 1)) dX5_line_97 jf_X5_9 hG22.1 rfl ?_
        refine j_bipush dX5_line_100 (by decide +kernel) ?_
        refine j_iload_n dX5_line_102 rfl rfl ?_
        refine j_iadd dX5_line_103 ?_
        refine j_iaload (f := G 0) dX5_line_104 (hG22.a 0 1 0 141 rfl) (by omega) (by decide) ?_
        refine j_if_le (tgt := 127) dX5_line_105 (by decide) (by omega) (fun c26 => ?_) (fun c26 => ?_)
        · refine j_aload_n dX5_line_127 rfl rfl ?_
          refine j_iload_n dX5_line_128 rfl rfl ?_
          refine j_callV (c5_lives hG22 (f := (G 0)) rfl hO (by omega)) dX5_line_129 jc_X5_96 jmV_X5_lives rfl rfl hG22.1 rfl rfl (by simp) jfr_nil (Nat.le_of_ble_eq_true rfl) ⟨Nat.le_of_ble_eq_true rfl, Nat.le_of_ble_eq_true rfl⟩ ⟨Nat.le_of_ble_eq_true rfl, Nat.le_of_ble_eq_true rfl⟩ (fun r h27 hp9 => ?_) (fun E h9 q => q.elim)
          obtain ⟨rfl, rfl⟩ := hp9
          have hl9 := hO.l p
          refine j_if_ne (tgt := 141) dX5_line_132 (by decide) (by omega) (fun c28 => ?_) (fun c28 => ?_)
          · refine j_aload_n dX5_line_141 rfl rfl ?_
            refine j_getfield (v := iv ((0 : Int) + (([35] ++ dgs 7 p).length : Int))) dX5_line_142 jf_X5_194 hG22.1 rfl ?_
            subst hZ
            exact j_ireturn dX5_line_145 rfl rfl (jWi.i ((if_neg c2).trans ((if_pos c24).trans ((if_pos c25).trans ((if_pos c26).trans (if_neg c28))))) hG22 hE21) (Nat.le_refl _) (Nat.le_refl _)
          · refine j_aload_n dX5_line_135 rfl rfl ?_
            refine j_bipush dX5_line_136 (by decide +kernel) ?_
            have hl29 : ([35] ++ dgs 7 p).length ≤ 9 := by simp only [List.length_append, List.length_cons, List.length_nil]; omega
            refine j_callV (c5_says hG22 (by omega) (by show 0 ≤ (0 : Int) + (([35] ++ dgs 7 p).length : Int) ∧ (0 : Int) + (([35] ++ dgs 7 p).length : Int) < 40; omega)) dX5_line_138 jc_X5_200 jmV_X5_says rfl rfl hG22.1 rfl rfl (by simp) jfr_nil (Nat.le_of_ble_eq_true rfl) ⟨Nat.le_of_ble_eq_true rfl, Nat.le_of_ble_eq_true rfl⟩ ⟨Nat.le_of_ble_eq_true rfl, Nat.le_of_ble_eq_true rfl⟩ (fun r h30 hp9 => ?_) (fun E h9 q => q.elim)
            obtain ⟨rfl, hG31, hX32⟩ := hp9
            have hE33 := hE21.tr hX32
            have hG34 : jOb sM k (m_lin (gn (gn G 6 0) 14 0) ([35] ++ dgs 7 p ++ [120])) h30 := Eq.mp (congrArg (fun z => jOb sM k z _) (m_lin_app _ _ _)) hG31
            refine j_aload_n dX5_line_141 rfl rfl ?_
            refine j_getfield (v := iv ((0 : Int) + (([35] ++ dgs 7 p ++ [120]).length : Int))) dX5_line_142 jf_X5_194 hG34.1 rfl ?_
            subst hZ
            exact j_ireturn dX5_line_145 rfl rfl (jWi.i ((if_neg c2).trans ((if_pos c24).trans ((if_pos c25).trans ((if_pos c26).trans (if_pos c28))))) hG34 hE33) (Nat.le_refl _) (Nat.le_refl _)
        · refine j_aload_n dX5_line_108 rfl rfl ?_
          refine j_bipush dX5_line_109 (by decide +kernel) ?_
          have hl35 : ([35] ++ dgs 7 p).length ≤ 9 := by simp only [List.length_append, List.length_cons, List.length_nil]; omega
          refine j_callV (c5_says hG22 (by omega) (by show 0 ≤ (0 : Int) + (([35] ++ dgs 7 p).length : Int) ∧ (0 : Int) + (([35] ++ dgs 7 p).length : Int) < 40; omega)) dX5_line_111 jc_X5_200 jmV_X5_says rfl rfl hG22.1 rfl rfl (by simp) jfr_nil (Nat.le_of_ble_eq_true rfl) ⟨Nat.le_of_ble_eq_true rfl, Nat.le_of_ble_eq_true rfl⟩ ⟨Nat.le_of_ble_eq_true rfl, Nat.le_of_ble_eq_true rfl⟩ (fun r h36 hp9 => ?_) (fun E h9 q => q.elim)
          obtain ⟨rfl, hG37, hX38⟩ := hp9
          have hE39 := hE21.tr hX38
          have hG40 : jOb sM k (m_lin (gn (gn G 6 0) 14 0) ([35] ++ dgs 7 p ++ [61])) h36 := Eq.mp (congrArg (fun z => jOb sM k z _) (m_lin_app _ _ _)) hG37
          refine j_aload_n dX5_line_114 rfl rfl ?_
          refine j_aload_n dX5_line_115 rfl rfl ?_
          refine j_getfield (v := .ref (k + 1)) dX5_line_116 jf_X5_9 hG40.1 rfl ?_
          refine j_bipush dX5_line_119 (by decide +kernel) ?_
          refine j_iload_n dX5_line_121 rfl rfl ?_
          refine j_iadd dX5_line_122 ?_
          refine j_iaload (f := G 0) dX5_line_123 (hG40.a 0 1 0 141 rfl) (by omega) (by decide) ?_
          have hl41 : ([35] ++ dgs 7 p ++ [61]).length ≤ 10 := by simp only [List.length_append, List.length_cons, List.length_nil]; omega
          refine j_callV (c5_sn hG40 (by omega) (by show 0 ≤ (0 : Int) + (([35] ++ dgs 7 p ++ [61]).length : Int) ∧ (0 : Int) + (([35] ++ dgs 7 p ++ [61]).length : Int) + 7 < 40; omega)) dX5_line_124 jc_X5_197 jmV_X5_saysNumber rfl rfl hG40.1 rfl rfl (by simp) jfr_nil (Nat.le_of_ble_eq_true rfl) ⟨Nat.le_of_ble_eq_true rfl, Nat.le_of_ble_eq_true rfl⟩ ⟨Nat.le_of_ble_eq_true rfl, Nat.le_of_ble_eq_true rfl⟩ (fun r h43 hp9 => ?_) (fun E h9 q => q.elim)
          obtain ⟨rfl, hG44, hX45⟩ := hp9
          have hE46 := hE39.tr hX45
          have hG47 : jOb sM k (m_lin (gn (gn G 6 0) 14 0) ([35] ++ dgs 7 p ++ [61] ++ dgs 7 ((G 0) (53 + p)))) h43 := Eq.mp (congrArg (fun z => jOb sM k z _) (m_lin_app _ _ _)) hG44
          have hd42 := dgs_len 7 ((G 0) (53 + p))
          refine j_aload_n dX5_line_127 rfl rfl ?_
          refine j_iload_n dX5_line_128 rfl rfl ?_
          refine j_callV (c5_lives hG47 (f := (G 0)) rfl hO (by omega)) dX5_line_129 jc_X5_96 jmV_X5_lives rfl rfl hG47.1 rfl rfl (by simp) jfr_nil (Nat.le_of_ble_eq_true rfl) ⟨Nat.le_of_ble_eq_true rfl, Nat.le_of_ble_eq_true rfl⟩ ⟨Nat.le_of_ble_eq_true rfl, Nat.le_of_ble_eq_true rfl⟩ (fun r h48 hp9 => ?_) (fun E h9 q => q.elim)
          obtain ⟨rfl, rfl⟩ := hp9
          have hl9 := hO.l p
          refine j_if_ne (tgt := 141) dX5_line_132 (by decide) (by omega) (fun c49 => ?_) (fun c49 => ?_)
          · refine j_aload_n dX5_line_141 rfl rfl ?_
            refine j_getfield (v := iv ((0 : Int) + (([35] ++ dgs 7 p ++ [61] ++ dgs 7 ((G 0) (53 + p))).length : Int))) dX5_line_142 jf_X5_194 hG47.1 rfl ?_
            subst hZ
            exact j_ireturn dX5_line_145 rfl rfl (jWi.i ((if_neg c2).trans ((if_pos c24).trans ((if_pos c25).trans ((if_neg c26).trans (if_neg c49))))) hG47 hE46) (Nat.le_refl _) (Nat.le_refl _)
          · refine j_aload_n dX5_line_135 rfl rfl ?_
            refine j_bipush dX5_line_136 (by decide +kernel) ?_
            have hl50 : ([35] ++ dgs 7 p ++ [61] ++ dgs 7 ((G 0) (53 + p))).length ≤ 18 := by simp only [List.length_append, List.length_cons, List.length_nil]; omega
            refine j_callV (c5_says hG47 (by omega) (by show 0 ≤ (0 : Int) + (([35] ++ dgs 7 p ++ [61] ++ dgs 7 ((G 0) (53 + p))).length : Int) ∧ (0 : Int) + (([35] ++ dgs 7 p ++ [61] ++ dgs 7 ((G 0) (53 + p))).length : Int) < 40; omega)) dX5_line_138 jc_X5_200 jmV_X5_says rfl rfl hG47.1 rfl rfl (by simp) jfr_nil (Nat.le_of_ble_eq_true rfl) ⟨Nat.le_of_ble_eq_true rfl, Nat.le_of_ble_eq_true rfl⟩ ⟨Nat.le_of_ble_eq_true rfl, Nat.le_of_ble_eq_true rfl⟩ (fun r h51 hp9 => ?_) (fun E h9 q => q.elim)
            obtain ⟨rfl, hG52, hX53⟩ := hp9
            have hE54 := hE46.tr hX53
            have hG55 : jOb sM k (m_lin (gn (gn G 6 0) 14 0) ([35] ++ dgs 7 p ++ [61] ++ dgs 7 ((G 0) (53 + p)) ++ [120])) h51 := Eq.mp (congrArg (fun z => jOb sM k z _) (m_lin_app _ _ _)) hG52
            refine j_aload_n dX5_line_141 rfl rfl ?_
            refine j_getfield (v := iv ((0 : Int) + (([35] ++ dgs 7 p ++ [61] ++ dgs 7 ((G 0) (53 + p)) ++ [120]).length : Int))) dX5_line_142 jf_X5_194 hG55.1 rfl ?_
            subst hZ
            exact j_ireturn dX5_line_145 rfl rfl (jWi.i ((if_neg c2).trans ((if_pos c24).trans ((if_pos c25).trans ((if_neg c26).trans (if_pos c49))))) hG55 hE54) (Nat.le_refl _) (Nat.le_refl _)
      · refine j_aload_n dX5_line_77 rfl rfl ?_
        refine j_bipush dX5_line_78 (by decide +kernel) ?_
        have hl56 : ([35] ++ dgs 7 p).length ≤ 9 := by simp only [List.length_append, List.length_cons, List.length_nil]; omega
        refine j_callV (c5_says hG22 (by omega) (by show 0 ≤ (0 : Int) + (([35] ++ dgs 7 p).length : Int) ∧ (0 : Int) + (([35] ++ dgs 7 p).length : Int) < 40; omega)) dX5_line_80 jc_X5_200 jmV_X5_says rfl rfl hG22.1 rfl rfl (by simp) jfr_nil (Nat.le_of_ble_eq_true rfl) ⟨Nat.le_of_ble_eq_true rfl, Nat.le_of_ble_eq_true rfl⟩ ⟨Nat.le_of_ble_eq_true rfl, Nat.le_of_ble_eq_true rfl⟩ (fun r h57 hp9 => ?_) (fun E h9 q => q.elim)
        obtain ⟨rfl, hG58, hX59⟩ := hp9
        have hE60 := hE21.tr hX59
        have hG61 : jOb sM k (m_lin (gn (gn G 6 0) 14 0) ([35] ++ dgs 7 p ++ [43])) h57 := Eq.mp (congrArg (fun z => jOb sM k z _) (m_lin_app _ _ _)) hG58
        refine j_aload_n dX5_line_83 rfl rfl ?_
        refine j_aload_n dX5_line_84 rfl rfl ?_
        refine j_getfield (v := .ref (k + 1)) dX5_line_85 jf_X5_9 hG61.1 rfl ?_
        refine j_bipush dX5_line_88 (by decide +kernel) ?_
        refine j_iload_n dX5_line_90 rfl rfl ?_
        refine j_iadd dX5_line_91 ?_
        refine j_iaload (f := G 0) dX5_line_92 (hG61.a 0 1 0 141 rfl) (by omega) (by decide) ?_
        have hl62 : ([35] ++ dgs 7 p ++ [43]).length ≤ 10 := by simp only [List.length_append, List.length_cons, List.length_nil]; omega
        refine j_callV (c5_sn hG61 (by omega) (by show 0 ≤ (0 : Int) + (([35] ++ dgs 7 p ++ [43]).length : Int) ∧ (0 : Int) + (([35] ++ dgs 7 p ++ [43]).length : Int) + 7 < 40; omega)) dX5_line_93 jc_X5_197 jmV_X5_saysNumber rfl rfl hG61.1 rfl rfl (by simp) jfr_nil (Nat.le_of_ble_eq_true rfl) ⟨Nat.le_of_ble_eq_true rfl, Nat.le_of_ble_eq_true rfl⟩ ⟨Nat.le_of_ble_eq_true rfl, Nat.le_of_ble_eq_true rfl⟩ (fun r h64 hp9 => ?_) (fun E h9 q => q.elim)
        obtain ⟨rfl, hG65, hX66⟩ := hp9
        have hE67 := hE60.tr hX66
        have hG68 : jOb sM k (m_lin (gn (gn G 6 0) 14 0) ([35] ++ dgs 7 p ++ [43] ++ dgs 7 ((G 0) (29 + p)))) h64 := Eq.mp (congrArg (fun z => jOb sM k z _) (m_lin_app _ _ _)) hG65
        have hd63 := dgs_len 7 ((G 0) (29 + p))
        refine j_aload_n dX5_line_96 rfl rfl ?_
        refine j_getfield (v := .ref (k + 1)) dX5_line_97 jf_X5_9 hG68.1 rfl ?_
        refine j_bipush dX5_line_100 (by decide +kernel) ?_
        refine j_iload_n dX5_line_102 rfl rfl ?_
        refine j_iadd dX5_line_103 ?_
        refine j_iaload (f := G 0) dX5_line_104 (hG68.a 0 1 0 141 rfl) (by omega) (by decide) ?_
        refine j_if_le (tgt := 127) dX5_line_105 (by decide) (by omega) (fun c69 => ?_) (fun c69 => ?_)
        · refine j_aload_n dX5_line_127 rfl rfl ?_
          refine j_iload_n dX5_line_128 rfl rfl ?_
          refine j_callV (c5_lives hG68 (f := (G 0)) rfl hO (by omega)) dX5_line_129 jc_X5_96 jmV_X5_lives rfl rfl hG68.1 rfl rfl (by simp) jfr_nil (Nat.le_of_ble_eq_true rfl) ⟨Nat.le_of_ble_eq_true rfl, Nat.le_of_ble_eq_true rfl⟩ ⟨Nat.le_of_ble_eq_true rfl, Nat.le_of_ble_eq_true rfl⟩ (fun r h70 hp9 => ?_) (fun E h9 q => q.elim)
          obtain ⟨rfl, rfl⟩ := hp9
          have hl9 := hO.l p
          refine j_if_ne (tgt := 141) dX5_line_132 (by decide) (by omega) (fun c71 => ?_) (fun c71 => ?_)
          · refine j_aload_n dX5_line_141 rfl rfl ?_
            refine j_getfield (v := iv ((0 : Int) + (([35] ++ dgs 7 p ++ [43] ++ dgs 7 ((G 0) (29 + p))).length : Int))) dX5_line_142 jf_X5_194 hG68.1 rfl ?_
            subst hZ
            exact j_ireturn dX5_line_145 rfl rfl (jWi.i ((if_neg c2).trans ((if_pos c24).trans ((if_neg c25).trans ((if_pos c69).trans (if_neg c71))))) hG68 hE67) (Nat.le_refl _) (Nat.le_refl _)
          · refine j_aload_n dX5_line_135 rfl rfl ?_
            refine j_bipush dX5_line_136 (by decide +kernel) ?_
            have hl72 : ([35] ++ dgs 7 p ++ [43] ++ dgs 7 ((G 0) (29 + p))).length ≤ 18 := by simp only [List.length_append, List.length_cons, List.length_nil]; omega
            refine j_callV (c5_says hG68 (by omega) (by show 0 ≤ (0 : Int) + (([35] ++ dgs 7 p ++ [43] ++ dgs 7 ((G 0) (29 + p))).length : Int) ∧ (0 : Int) + (([35] ++ dgs 7 p ++ [43] ++ dgs 7 ((G 0) (29 + p))).length : Int) < 40; omega)) dX5_line_138 jc_X5_200 jmV_X5_says rfl rfl hG68.1 rfl rfl (by simp) jfr_nil (Nat.le_of_ble_eq_true rfl) ⟨Nat.le_of_ble_eq_true rfl, Nat.le_of_ble_eq_true rfl⟩ ⟨Nat.le_of_ble_eq_true rfl, Nat.le_of_ble_eq_true rfl⟩ (fun r h73 hp9 => ?_) (fun E h9 q => q.elim)
            obtain ⟨rfl, hG74, hX75⟩ := hp9
            have hE76 := hE67.tr hX75
            have hG77 : jOb sM k (m_lin (gn (gn G 6 0) 14 0) ([35] ++ dgs 7 p ++ [43] ++ dgs 7 ((G 0) (29 + p)) ++ [120])) h73 := Eq.mp (congrArg (fun z => jOb sM k z _) (m_lin_app _ _ _)) hG74
            refine j_aload_n dX5_line_141 rfl rfl ?_
            refine j_getfield (v := iv ((0 : Int) + (([35] ++ dgs 7 p ++ [43] ++ dgs 7 ((G 0) (29 + p)) ++ [120]).length : Int))) dX5_line_142 jf_X5_194 hG77.1 rfl ?_
            subst hZ
            exact j_ireturn dX5_line_145 rfl rfl (jWi.i ((if_neg c2).trans ((if_pos c24).trans ((if_neg c25).trans ((if_pos c69).trans (if_pos c71))))) hG77 hE76) (Nat.le_refl _) (Nat.le_refl _)
        · refine j_aload_n dX5_line_108 rfl rfl ?_
          refine j_bipush dX5_line_109 (by decide +kernel) ?_
          have hl78 : ([35] ++ dgs 7 p ++ [43] ++ dgs 7 ((G 0) (29 + p))).length ≤ 18 := by simp only [List.length_append, List.length_cons, List.length_nil]; omega
          refine j_callV (c5_says hG68 (by omega) (by show 0 ≤ (0 : Int) + (([35] ++ dgs 7 p ++ [43] ++ dgs 7 ((G 0) (29 + p))).length : Int) ∧ (0 : Int) + (([35] ++ dgs 7 p ++ [43] ++ dgs 7 ((G 0) (29 + p))).length : Int) < 40; omega)) dX5_line_111 jc_X5_200 jmV_X5_says rfl rfl hG68.1 rfl rfl (by simp) jfr_nil (Nat.le_of_ble_eq_true rfl) ⟨Nat.le_of_ble_eq_true rfl, Nat.le_of_ble_eq_true rfl⟩ ⟨Nat.le_of_ble_eq_true rfl, Nat.le_of_ble_eq_true rfl⟩ (fun r h79 hp9 => ?_) (fun E h9 q => q.elim)
          obtain ⟨rfl, hG80, hX81⟩ := hp9
          have hE82 := hE67.tr hX81
          have hG83 : jOb sM k (m_lin (gn (gn G 6 0) 14 0) ([35] ++ dgs 7 p ++ [43] ++ dgs 7 ((G 0) (29 + p)) ++ [61])) h79 := Eq.mp (congrArg (fun z => jOb sM k z _) (m_lin_app _ _ _)) hG80
          refine j_aload_n dX5_line_114 rfl rfl ?_
          refine j_aload_n dX5_line_115 rfl rfl ?_
          refine j_getfield (v := .ref (k + 1)) dX5_line_116 jf_X5_9 hG83.1 rfl ?_
          refine j_bipush dX5_line_119 (by decide +kernel) ?_
          refine j_iload_n dX5_line_121 rfl rfl ?_
          refine j_iadd dX5_line_122 ?_
          refine j_iaload (f := G 0) dX5_line_123 (hG83.a 0 1 0 141 rfl) (by omega) (by decide) ?_
          have hl84 : ([35] ++ dgs 7 p ++ [43] ++ dgs 7 ((G 0) (29 + p)) ++ [61]).length ≤ 19 := by simp only [List.length_append, List.length_cons, List.length_nil]; omega
          refine j_callV (c5_sn hG83 (by omega) (by show 0 ≤ (0 : Int) + (([35] ++ dgs 7 p ++ [43] ++ dgs 7 ((G 0) (29 + p)) ++ [61]).length : Int) ∧ (0 : Int) + (([35] ++ dgs 7 p ++ [43] ++ dgs 7 ((G 0) (29 + p)) ++ [61]).length : Int) + 7 < 40; omega)) dX5_line_124 jc_X5_197 jmV_X5_saysNumber rfl rfl hG83.1 rfl rfl (by simp) jfr_nil (Nat.le_of_ble_eq_true rfl) ⟨Nat.le_of_ble_eq_true rfl, Nat.le_of_ble_eq_true rfl⟩ ⟨Nat.le_of_ble_eq_true rfl, Nat.le_of_ble_eq_true rfl⟩ (fun r h86 hp9 => ?_) (fun E h9 q => q.elim)
          obtain ⟨rfl, hG87, hX88⟩ := hp9
          have hE89 := hE82.tr hX88
          have hG90 : jOb sM k (m_lin (gn (gn G 6 0) 14 0) ([35] ++ dgs 7 p ++ [43] ++ dgs 7 ((G 0) (29 + p)) ++ [61] ++ dgs 7 ((G 0) (53 + p)))) h86 := Eq.mp (congrArg (fun z => jOb sM k z _) (m_lin_app _ _ _)) hG87
          have hd85 := dgs_len 7 ((G 0) (53 + p))
          refine j_aload_n dX5_line_127 rfl rfl ?_
          refine j_iload_n dX5_line_128 rfl rfl ?_
          refine j_callV (c5_lives hG90 (f := (G 0)) rfl hO (by omega)) dX5_line_129 jc_X5_96 jmV_X5_lives rfl rfl hG90.1 rfl rfl (by simp) jfr_nil (Nat.le_of_ble_eq_true rfl) ⟨Nat.le_of_ble_eq_true rfl, Nat.le_of_ble_eq_true rfl⟩ ⟨Nat.le_of_ble_eq_true rfl, Nat.le_of_ble_eq_true rfl⟩ (fun r h91 hp9 => ?_) (fun E h9 q => q.elim)
          obtain ⟨rfl, rfl⟩ := hp9
          have hl9 := hO.l p
          refine j_if_ne (tgt := 141) dX5_line_132 (by decide) (by omega) (fun c92 => ?_) (fun c92 => ?_)
          · refine j_aload_n dX5_line_141 rfl rfl ?_
            refine j_getfield (v := iv ((0 : Int) + (([35] ++ dgs 7 p ++ [43] ++ dgs 7 ((G 0) (29 + p)) ++ [61] ++ dgs 7 ((G 0) (53 + p))).length : Int))) dX5_line_142 jf_X5_194 hG90.1 rfl ?_
            subst hZ
            exact j_ireturn dX5_line_145 rfl rfl (jWi.i ((if_neg c2).trans ((if_pos c24).trans ((if_neg c25).trans ((if_neg c69).trans (if_neg c92))))) hG90 hE89) (Nat.le_refl _) (Nat.le_refl _)
          · refine j_aload_n dX5_line_135 rfl rfl ?_
            refine j_bipush dX5_line_136 (by decide +kernel) ?_
            have hl93 : ([35] ++ dgs 7 p ++ [43] ++ dgs 7 ((G 0) (29 + p)) ++ [61] ++ dgs 7 ((G 0) (53 + p))).length ≤ 27 := by simp only [List.length_append, List.length_cons, List.length_nil]; omega
            refine j_callV (c5_says hG90 (by omega) (by show 0 ≤ (0 : Int) + (([35] ++ dgs 7 p ++ [43] ++ dgs 7 ((G 0) (29 + p)) ++ [61] ++ dgs 7 ((G 0) (53 + p))).length : Int) ∧ (0 : Int) + (([35] ++ dgs 7 p ++ [43] ++ dgs 7 ((G 0) (29 + p)) ++ [61] ++ dgs 7 ((G 0) (53 + p))).length : Int) < 40; omega)) dX5_line_138 jc_X5_200 jmV_X5_says rfl rfl hG90.1 rfl rfl (by simp) jfr_nil (Nat.le_of_ble_eq_true rfl) ⟨Nat.le_of_ble_eq_true rfl, Nat.le_of_ble_eq_true rfl⟩ ⟨Nat.le_of_ble_eq_true rfl, Nat.le_of_ble_eq_true rfl⟩ (fun r h94 hp9 => ?_) (fun E h9 q => q.elim)
            obtain ⟨rfl, hG95, hX96⟩ := hp9
            have hE97 := hE89.tr hX96
            have hG98 : jOb sM k (m_lin (gn (gn G 6 0) 14 0) ([35] ++ dgs 7 p ++ [43] ++ dgs 7 ((G 0) (29 + p)) ++ [61] ++ dgs 7 ((G 0) (53 + p)) ++ [120])) h94 := Eq.mp (congrArg (fun z => jOb sM k z _) (m_lin_app _ _ _)) hG95
            refine j_aload_n dX5_line_141 rfl rfl ?_
            refine j_getfield (v := iv ((0 : Int) + (([35] ++ dgs 7 p ++ [43] ++ dgs 7 ((G 0) (29 + p)) ++ [61] ++ dgs 7 ((G 0) (53 + p)) ++ [120]).length : Int))) dX5_line_142 jf_X5_194 hG98.1 rfl ?_
            subst hZ
            exact j_ireturn dX5_line_145 rfl rfl (jWi.i ((if_neg c2).trans ((if_pos c24).trans ((if_neg c25).trans ((if_neg c69).trans (if_pos c92))))) hG98 hE97) (Nat.le_refl _) (Nat.le_refl _)
    · refine j_aload_n dX5_line_50 rfl rfl ?_
      refine j_bipush dX5_line_51 (by decide +kernel) ?_
      have hl99 : ([35] ++ dgs 7 p).length ≤ 9 := by simp only [List.length_append, List.length_cons, List.length_nil]; omega
      refine j_callV (c5_says hG22 (by omega) (by show 0 ≤ (0 : Int) + (([35] ++ dgs 7 p).length : Int) ∧ (0 : Int) + (([35] ++ dgs 7 p).length : Int) < 40; omega)) dX5_line_53 jc_X5_200 jmV_X5_says rfl rfl hG22.1 rfl rfl (by simp) jfr_nil (Nat.le_of_ble_eq_true rfl) ⟨Nat.le_of_ble_eq_true rfl, Nat.le_of_ble_eq_true rfl⟩ ⟨Nat.le_of_ble_eq_true rfl, Nat.le_of_ble_eq_true rfl⟩ (fun r h100 hp9 => ?_) (fun E h9 q => q.elim)
      obtain ⟨rfl, hG101, hX102⟩ := hp9
      have hE103 := hE21.tr hX102
      have hG104 : jOb sM k (m_lin (gn (gn G 6 0) 14 0) ([35] ++ dgs 7 p ++ [60])) h100 := Eq.mp (congrArg (fun z => jOb sM k z _) (m_lin_app _ _ _)) hG101
      refine j_aload_n dX5_line_56 rfl rfl ?_
      refine j_aload_n dX5_line_57 rfl rfl ?_
      refine j_iload_n dX5_line_58 rfl rfl ?_
      refine j_callV (c5_parent hG104 (f := (G 0)) rfl hO (by omega)) dX5_line_59 jc_X5_68 jmV_X5_parent rfl rfl hG104.1 rfl rfl (by simp) jfr_nil (Nat.le_of_ble_eq_true rfl) ⟨Nat.le_of_ble_eq_true rfl, Nat.le_of_ble_eq_true rfl⟩ ⟨Nat.le_of_ble_eq_true rfl, Nat.le_of_ble_eq_true rfl⟩ (fun r h105 hp9 => ?_) (fun E h9 q => q.elim)
      obtain ⟨rfl, rfl⟩ := hp9
      have hpp9 : -1 ≤ mK (G 0) 0 p ∧ mK (G 0) 0 p < (G 0) 0 := hO.p p
      have hl106 : ([35] ++ dgs 7 p ++ [60]).length ≤ 10 := by simp only [List.length_append, List.length_cons, List.length_nil]; omega
      refine j_callV (c5_sn hG104 (by omega) (by show 0 ≤ (0 : Int) + (([35] ++ dgs 7 p ++ [60]).length : Int) ∧ (0 : Int) + (([35] ++ dgs 7 p ++ [60]).length : Int) + 7 < 40; omega)) dX5_line_62 jc_X5_197 jmV_X5_saysNumber rfl rfl hG104.1 rfl rfl (by simp) jfr_nil (Nat.le_of_ble_eq_true rfl) ⟨Nat.le_of_ble_eq_true rfl, Nat.le_of_ble_eq_true rfl⟩ ⟨Nat.le_of_ble_eq_true rfl, Nat.le_of_ble_eq_true rfl⟩ (fun r h108 hp9 => ?_) (fun E h9 q => q.elim)
      obtain ⟨rfl, hG109, hX110⟩ := hp9
      have hE111 := hE103.tr hX110
      have hG112 : jOb sM k (m_lin (gn (gn G 6 0) 14 0) ([35] ++ dgs 7 p ++ [60] ++ dgs 7 (mK (G 0) 0 p))) h108 := Eq.mp (congrArg (fun z => jOb sM k z _) (m_lin_app _ _ _)) hG109
      have hd107 := dgs_len 7 (mK (G 0) 0 p)
      refine j_aload_n dX5_line_65 rfl rfl ?_
      refine j_getfield (v := .ref (k + 1)) dX5_line_66 jf_X5_9 hG112.1 rfl ?_
      refine j_bipush dX5_line_69 (by decide +kernel) ?_
      refine j_iload_n dX5_line_71 rfl rfl ?_
      refine j_iadd dX5_line_72 ?_
      refine j_iaload (f := G 0) dX5_line_73 (hG112.a 0 1 0 141 rfl) (by omega) (by decide) ?_
      refine j_if_lt (tgt := 96) dX5_line_74 (by decide) (by omega) (fun c113 => ?_) (fun c113 => ?_)
      · refine j_aload_n dX5_line_96 rfl rfl ?_
        refine j_getfield (v := .ref (k + 1)) dX5_line_97 jf_X5_9 hG112.1 rfl ?_
        refine j_bipush dX5_line_100 (by decide +kernel) ?_
        refine j_iload_n dX5_line_102 rfl rfl ?_
        refine j_iadd dX5_line_103 ?_
        refine j_iaload (f := G 0) dX5_line_104 (hG112.a 0 1 0 141 rfl) (by omega) (by decide) ?_
        refine j_if_le (tgt := 127) dX5_line_105 (by decide) (by omega) (fun c114 => ?_) (fun c114 => ?_)
        · refine j_aload_n dX5_line_127 rfl rfl ?_
          refine j_iload_n dX5_line_128 rfl rfl ?_
          refine j_callV (c5_lives hG112 (f := (G 0)) rfl hO (by omega)) dX5_line_129 jc_X5_96 jmV_X5_lives rfl rfl hG112.1 rfl rfl (by simp) jfr_nil (Nat.le_of_ble_eq_true rfl) ⟨Nat.le_of_ble_eq_true rfl, Nat.le_of_ble_eq_true rfl⟩ ⟨Nat.le_of_ble_eq_true rfl, Nat.le_of_ble_eq_true rfl⟩ (fun r h115 hp9 => ?_) (fun E h9 q => q.elim)
          obtain ⟨rfl, rfl⟩ := hp9
          have hl9 := hO.l p
          refine j_if_ne (tgt := 141) dX5_line_132 (by decide) (by omega) (fun c116 => ?_) (fun c116 => ?_)
          · refine j_aload_n dX5_line_141 rfl rfl ?_
            refine j_getfield (v := iv ((0 : Int) + (([35] ++ dgs 7 p ++ [60] ++ dgs 7 (mK (G 0) 0 p)).length : Int))) dX5_line_142 jf_X5_194 hG112.1 rfl ?_
            subst hZ
            exact j_ireturn dX5_line_145 rfl rfl (jWi.i ((if_neg c2).trans ((if_neg c24).trans ((if_pos c113).trans ((if_pos c114).trans (if_neg c116))))) hG112 hE111) (Nat.le_refl _) (Nat.le_refl _)
          · refine j_aload_n dX5_line_135 rfl rfl ?_
            refine j_bipush dX5_line_136 (by decide +kernel) ?_
            have hl117 : ([35] ++ dgs 7 p ++ [60] ++ dgs 7 (mK (G 0) 0 p)).length ≤ 18 := by simp only [List.length_append, List.length_cons, List.length_nil]; omega
            refine j_callV (c5_says hG112 (by omega) (by show 0 ≤ (0 : Int) + (([35] ++ dgs 7 p ++ [60] ++ dgs 7 (mK (G 0) 0 p)).length : Int) ∧ (0 : Int) + (([35] ++ dgs 7 p ++ [60] ++ dgs 7 (mK (G 0) 0 p)).length : Int) < 40; omega)) dX5_line_138 jc_X5_200 jmV_X5_says rfl rfl hG112.1 rfl rfl (by simp) jfr_nil (Nat.le_of_ble_eq_true rfl) ⟨Nat.le_of_ble_eq_true rfl, Nat.le_of_ble_eq_true rfl⟩ ⟨Nat.le_of_ble_eq_true rfl, Nat.le_of_ble_eq_true rfl⟩ (fun r h118 hp9 => ?_) (fun E h9 q => q.elim)
            obtain ⟨rfl, hG119, hX120⟩ := hp9
            have hE121 := hE111.tr hX120
            have hG122 : jOb sM k (m_lin (gn (gn G 6 0) 14 0) ([35] ++ dgs 7 p ++ [60] ++ dgs 7 (mK (G 0) 0 p) ++ [120])) h118 := Eq.mp (congrArg (fun z => jOb sM k z _) (m_lin_app _ _ _)) hG119
            refine j_aload_n dX5_line_141 rfl rfl ?_
            refine j_getfield (v := iv ((0 : Int) + (([35] ++ dgs 7 p ++ [60] ++ dgs 7 (mK (G 0) 0 p) ++ [120]).length : Int))) dX5_line_142 jf_X5_194 hG122.1 rfl ?_
            subst hZ
            exact j_ireturn dX5_line_145 rfl rfl (jWi.i ((if_neg c2).trans ((if_neg c24).trans ((if_pos c113).trans ((if_pos c114).trans (if_pos c116))))) hG122 hE121) (Nat.le_refl _) (Nat.le_refl _)
        · refine j_aload_n dX5_line_108 rfl rfl ?_
          refine j_bipush dX5_line_109 (by decide +kernel) ?_
          have hl123 : ([35] ++ dgs 7 p ++ [60] ++ dgs 7 (mK (G 0) 0 p)).length ≤ 18 := by simp only [List.length_append, List.length_cons, List.length_nil]; omega
          refine j_callV (c5_says hG112 (by omega) (by show 0 ≤ (0 : Int) + (([35] ++ dgs 7 p ++ [60] ++ dgs 7 (mK (G 0) 0 p)).length : Int) ∧ (0 : Int) + (([35] ++ dgs 7 p ++ [60] ++ dgs 7 (mK (G 0) 0 p)).length : Int) < 40; omega)) dX5_line_111 jc_X5_200 jmV_X5_says rfl rfl hG112.1 rfl rfl (by simp) jfr_nil (Nat.le_of_ble_eq_true rfl) ⟨Nat.le_of_ble_eq_true rfl, Nat.le_of_ble_eq_true rfl⟩ ⟨Nat.le_of_ble_eq_true rfl, Nat.le_of_ble_eq_true rfl⟩ (fun r h124 hp9 => ?_) (fun E h9 q => q.elim)
          obtain ⟨rfl, hG125, hX126⟩ := hp9
          have hE127 := hE111.tr hX126
          have hG128 : jOb sM k (m_lin (gn (gn G 6 0) 14 0) ([35] ++ dgs 7 p ++ [60] ++ dgs 7 (mK (G 0) 0 p) ++ [61])) h124 := Eq.mp (congrArg (fun z => jOb sM k z _) (m_lin_app _ _ _)) hG125
          refine j_aload_n dX5_line_114 rfl rfl ?_
          refine j_aload_n dX5_line_115 rfl rfl ?_
          refine j_getfield (v := .ref (k + 1)) dX5_line_116 jf_X5_9 hG128.1 rfl ?_
          refine j_bipush dX5_line_119 (by decide +kernel) ?_
          refine j_iload_n dX5_line_121 rfl rfl ?_
          refine j_iadd dX5_line_122 ?_
          refine j_iaload (f := G 0) dX5_line_123 (hG128.a 0 1 0 141 rfl) (by omega) (by decide) ?_
          have hl129 : ([35] ++ dgs 7 p ++ [60] ++ dgs 7 (mK (G 0) 0 p) ++ [61]).length ≤ 19 := by simp only [List.length_append, List.length_cons, List.length_nil]; omega
          refine j_callV (c5_sn hG128 (by omega) (by show 0 ≤ (0 : Int) + (([35] ++ dgs 7 p ++ [60] ++ dgs 7 (mK (G 0) 0 p) ++ [61]).length : Int) ∧ (0 : Int) + (([35] ++ dgs 7 p ++ [60] ++ dgs 7 (mK (G 0) 0 p) ++ [61]).length : Int) + 7 < 40; omega)) dX5_line_124 jc_X5_197 jmV_X5_saysNumber rfl rfl hG128.1 rfl rfl (by simp) jfr_nil (Nat.le_of_ble_eq_true rfl) ⟨Nat.le_of_ble_eq_true rfl, Nat.le_of_ble_eq_true rfl⟩ ⟨Nat.le_of_ble_eq_true rfl, Nat.le_of_ble_eq_true rfl⟩ (fun r h131 hp9 => ?_) (fun E h9 q => q.elim)
          obtain ⟨rfl, hG132, hX133⟩ := hp9
          have hE134 := hE127.tr hX133
          have hG135 : jOb sM k (m_lin (gn (gn G 6 0) 14 0) ([35] ++ dgs 7 p ++ [60] ++ dgs 7 (mK (G 0) 0 p) ++ [61] ++ dgs 7 ((G 0) (53 + p)))) h131 := Eq.mp (congrArg (fun z => jOb sM k z _) (m_lin_app _ _ _)) hG132
          have hd130 := dgs_len 7 ((G 0) (53 + p))
          refine j_aload_n dX5_line_127 rfl rfl ?_
          refine j_iload_n dX5_line_128 rfl rfl ?_
          refine j_callV (c5_lives hG135 (f := (G 0)) rfl hO (by omega)) dX5_line_129 jc_X5_96 jmV_X5_lives rfl rfl hG135.1 rfl rfl (by simp) jfr_nil (Nat.le_of_ble_eq_true rfl) ⟨Nat.le_of_ble_eq_true rfl, Nat.le_of_ble_eq_true rfl⟩ ⟨Nat.le_of_ble_eq_true rfl, Nat.le_of_ble_eq_true rfl⟩ (fun r h136 hp9 => ?_) (fun E h9 q => q.elim)
          obtain ⟨rfl, rfl⟩ := hp9
          have hl9 := hO.l p
          refine j_if_ne (tgt := 141) dX5_line_132 (by decide) (by omega) (fun c137 => ?_) (fun c137 => ?_)
          · refine j_aload_n dX5_line_141 rfl rfl ?_
            refine j_getfield (v := iv ((0 : Int) + (([35] ++ dgs 7 p ++ [60] ++ dgs 7 (mK (G 0) 0 p) ++ [61] ++ dgs 7 ((G 0) (53 + p))).length : Int))) dX5_line_142 jf_X5_194 hG135.1 rfl ?_
            subst hZ
            exact j_ireturn dX5_line_145 rfl rfl (jWi.i ((if_neg c2).trans ((if_neg c24).trans ((if_pos c113).trans ((if_neg c114).trans (if_neg c137))))) hG135 hE134) (Nat.le_refl _) (Nat.le_refl _)
          · refine j_aload_n dX5_line_135 rfl rfl ?_
            refine j_bipush dX5_line_136 (by decide +kernel) ?_
            have hl138 : ([35] ++ dgs 7 p ++ [60] ++ dgs 7 (mK (G 0) 0 p) ++ [61] ++ dgs 7 ((G 0) (53 + p))).length ≤ 27 := by simp only [List.length_append, List.length_cons, List.length_nil]; omega
            refine j_callV (c5_says hG135 (by omega) (by show 0 ≤ (0 : Int) + (([35] ++ dgs 7 p ++ [60] ++ dgs 7 (mK (G 0) 0 p) ++ [61] ++ dgs 7 ((G 0) (53 + p))).length : Int) ∧ (0 : Int) + (([35] ++ dgs 7 p ++ [60] ++ dgs 7 (mK (G 0) 0 p) ++ [61] ++ dgs 7 ((G 0) (53 + p))).length : Int) < 40; omega)) dX5_line_138 jc_X5_200 jmV_X5_says rfl rfl hG135.1 rfl rfl (by simp) jfr_nil (Nat.le_of_ble_eq_true rfl) ⟨Nat.le_of_ble_eq_true rfl, Nat.le_of_ble_eq_true rfl⟩ ⟨Nat.le_of_ble_eq_true rfl, Nat.le_of_ble_eq_true rfl⟩ (fun r h139 hp9 => ?_) (fun E h9 q => q.elim)
            obtain ⟨rfl, hG140, hX141⟩ := hp9
            have hE142 := hE134.tr hX141
            have hG143 : jOb sM k (m_lin (gn (gn G 6 0) 14 0) ([35] ++ dgs 7 p ++ [60] ++ dgs 7 (mK (G 0) 0 p) ++ [61] ++ dgs 7 ((G 0) (53 + p)) ++ [120])) h139 := Eq.mp (congrArg (fun z => jOb sM k z _) (m_lin_app _ _ _)) hG140
            refine j_aload_n dX5_line_141 rfl rfl ?_
            refine j_getfield (v := iv ((0 : Int) + (([35] ++ dgs 7 p ++ [60] ++ dgs 7 (mK (G 0) 0 p) ++ [61] ++ dgs 7 ((G 0) (53 + p)) ++ [120]).length : Int))) dX5_line_142 jf_X5_194 hG143.1 rfl ?_
            subst hZ
            exact j_ireturn dX5_line_145 rfl rfl (jWi.i ((if_neg c2).trans ((if_neg c24).trans ((if_pos c113).trans ((if_neg c114).trans (if_pos c137))))) hG143 hE142) (Nat.le_refl _) (Nat.le_refl _)
      · refine j_aload_n dX5_line_77 rfl rfl ?_
        refine j_bipush dX5_line_78 (by decide +kernel) ?_
        have hl144 : ([35] ++ dgs 7 p ++ [60] ++ dgs 7 (mK (G 0) 0 p)).length ≤ 18 := by simp only [List.length_append, List.length_cons, List.length_nil]; omega
        refine j_callV (c5_says hG112 (by omega) (by show 0 ≤ (0 : Int) + (([35] ++ dgs 7 p ++ [60] ++ dgs 7 (mK (G 0) 0 p)).length : Int) ∧ (0 : Int) + (([35] ++ dgs 7 p ++ [60] ++ dgs 7 (mK (G 0) 0 p)).length : Int) < 40; omega)) dX5_line_80 jc_X5_200 jmV_X5_says rfl rfl hG112.1 rfl rfl (by simp) jfr_nil (Nat.le_of_ble_eq_true rfl) ⟨Nat.le_of_ble_eq_true rfl, Nat.le_of_ble_eq_true rfl⟩ ⟨Nat.le_of_ble_eq_true rfl, Nat.le_of_ble_eq_true rfl⟩ (fun r h145 hp9 => ?_) (fun E h9 q => q.elim)
        obtain ⟨rfl, hG146, hX147⟩ := hp9
        have hE148 := hE111.tr hX147
        have hG149 : jOb sM k (m_lin (gn (gn G 6 0) 14 0) ([35] ++ dgs 7 p ++ [60] ++ dgs 7 (mK (G 0) 0 p) ++ [43])) h145 := Eq.mp (congrArg (fun z => jOb sM k z _) (m_lin_app _ _ _)) hG146
        refine j_aload_n dX5_line_83 rfl rfl ?_
        refine j_aload_n dX5_line_84 rfl rfl ?_
        refine j_getfield (v := .ref (k + 1)) dX5_line_85 jf_X5_9 hG149.1 rfl ?_
        refine j_bipush dX5_line_88 (by decide +kernel) ?_
        refine j_iload_n dX5_line_90 rfl rfl ?_
        refine j_iadd dX5_line_91 ?_
        refine j_iaload (f := G 0) dX5_line_92 (hG149.a 0 1 0 141 rfl) (by omega) (by decide) ?_
        have hl150 : ([35] ++ dgs 7 p ++ [60] ++ dgs 7 (mK (G 0) 0 p) ++ [43]).length ≤ 19 := by simp only [List.length_append, List.length_cons, List.length_nil]; omega
        refine j_callV (c5_sn hG149 (by omega) (by show 0 ≤ (0 : Int) + (([35] ++ dgs 7 p ++ [60] ++ dgs 7 (mK (G 0) 0 p) ++ [43]).length : Int) ∧ (0 : Int) + (([35] ++ dgs 7 p ++ [60] ++ dgs 7 (mK (G 0) 0 p) ++ [43]).length : Int) + 7 < 40; omega)) dX5_line_93 jc_X5_197 jmV_X5_saysNumber rfl rfl hG149.1 rfl rfl (by simp) jfr_nil (Nat.le_of_ble_eq_true rfl) ⟨Nat.le_of_ble_eq_true rfl, Nat.le_of_ble_eq_true rfl⟩ ⟨Nat.le_of_ble_eq_true rfl, Nat.le_of_ble_eq_true rfl⟩ (fun r h152 hp9 => ?_) (fun E h9 q => q.elim)
        obtain ⟨rfl, hG153, hX154⟩ := hp9
        have hE155 := hE148.tr hX154
        have hG156 : jOb sM k (m_lin (gn (gn G 6 0) 14 0) ([35] ++ dgs 7 p ++ [60] ++ dgs 7 (mK (G 0) 0 p) ++ [43] ++ dgs 7 ((G 0) (29 + p)))) h152 := Eq.mp (congrArg (fun z => jOb sM k z _) (m_lin_app _ _ _)) hG153
        have hd151 := dgs_len 7 ((G 0) (29 + p))
        refine j_aload_n dX5_line_96 rfl rfl ?_
        refine j_getfield (v := .ref (k + 1)) dX5_line_97 jf_X5_9 hG156.1 rfl ?_
        refine j_bipush dX5_line_100 (by decide +kernel) ?_
        refine j_iload_n dX5_line_102 rfl rfl ?_
        refine j_iadd dX5_line_103 ?_
        refine j_iaload (f := G 0) dX5_line_104 (hG156.a 0 1 0 141 rfl) (by omega) (by decide) ?_
        refine j_if_le (tgt := 127) dX5_line_105 (by decide) (by omega) (fun c157 => ?_) (fun c157 => ?_)
        · refine j_aload_n dX5_line_127 rfl rfl ?_
          refine j_iload_n dX5_line_128 rfl rfl ?_
          refine j_callV (c5_lives hG156 (f := (G 0)) rfl hO (by omega)) dX5_line_129 jc_X5_96 jmV_X5_lives rfl rfl hG156.1 rfl rfl (by simp) jfr_nil (Nat.le_of_ble_eq_true rfl) ⟨Nat.le_of_ble_eq_true rfl, Nat.le_of_ble_eq_true rfl⟩ ⟨Nat.le_of_ble_eq_true rfl, Nat.le_of_ble_eq_true rfl⟩ (fun r h158 hp9 => ?_) (fun E h9 q => q.elim)
          obtain ⟨rfl, rfl⟩ := hp9
          have hl9 := hO.l p
          refine j_if_ne (tgt := 141) dX5_line_132 (by decide) (by omega) (fun c159 => ?_) (fun c159 => ?_)
          · refine j_aload_n dX5_line_141 rfl rfl ?_
            refine j_getfield (v := iv ((0 : Int) + (([35] ++ dgs 7 p ++ [60] ++ dgs 7 (mK (G 0) 0 p) ++ [43] ++ dgs 7 ((G 0) (29 + p))).length : Int))) dX5_line_142 jf_X5_194 hG156.1 rfl ?_
            subst hZ
            exact j_ireturn dX5_line_145 rfl rfl (jWi.i ((if_neg c2).trans ((if_neg c24).trans ((if_neg c113).trans ((if_pos c157).trans (if_neg c159))))) hG156 hE155) (Nat.le_refl _) (Nat.le_refl _)
          · refine j_aload_n dX5_line_135 rfl rfl ?_
            refine j_bipush dX5_line_136 (by decide +kernel) ?_
            have hl160 : ([35] ++ dgs 7 p ++ [60] ++ dgs 7 (mK (G 0) 0 p) ++ [43] ++ dgs 7 ((G 0) (29 + p))).length ≤ 27 := by simp only [List.length_append, List.length_cons, List.length_nil]; omega
            refine j_callV (c5_says hG156 (by omega) (by show 0 ≤ (0 : Int) + (([35] ++ dgs 7 p ++ [60] ++ dgs 7 (mK (G 0) 0 p) ++ [43] ++ dgs 7 ((G 0) (29 + p))).length : Int) ∧ (0 : Int) + (([35] ++ dgs 7 p ++ [60] ++ dgs 7 (mK (G 0) 0 p) ++ [43] ++ dgs 7 ((G 0) (29 + p))).length : Int) < 40; omega)) dX5_line_138 jc_X5_200 jmV_X5_says rfl rfl hG156.1 rfl rfl (by simp) jfr_nil (Nat.le_of_ble_eq_true rfl) ⟨Nat.le_of_ble_eq_true rfl, Nat.le_of_ble_eq_true rfl⟩ ⟨Nat.le_of_ble_eq_true rfl, Nat.le_of_ble_eq_true rfl⟩ (fun r h161 hp9 => ?_) (fun E h9 q => q.elim)
            obtain ⟨rfl, hG162, hX163⟩ := hp9
            have hE164 := hE155.tr hX163
            have hG165 : jOb sM k (m_lin (gn (gn G 6 0) 14 0) ([35] ++ dgs 7 p ++ [60] ++ dgs 7 (mK (G 0) 0 p) ++ [43] ++ dgs 7 ((G 0) (29 + p)) ++ [120])) h161 := Eq.mp (congrArg (fun z => jOb sM k z _) (m_lin_app _ _ _)) hG162
            refine j_aload_n dX5_line_141 rfl rfl ?_
            refine j_getfield (v := iv ((0 : Int) + (([35] ++ dgs 7 p ++ [60] ++ dgs 7 (mK (G 0) 0 p) ++ [43] ++ dgs 7 ((G 0) (29 + p)) ++ [120]).length : Int))) dX5_line_142 jf_X5_194 hG165.1 rfl ?_
            subst hZ
            exact j_ireturn dX5_line_145 rfl rfl (jWi.i ((if_neg c2).trans ((if_neg c24).trans ((if_neg c113).trans ((if_pos c157).trans (if_pos c159))))) hG165 hE164) (Nat.le_refl _) (Nat.le_refl _)
        · refine j_aload_n dX5_line_108 rfl rfl ?_
          refine j_bipush dX5_line_109 (by decide +kernel) ?_
          have hl166 : ([35] ++ dgs 7 p ++ [60] ++ dgs 7 (mK (G 0) 0 p) ++ [43] ++ dgs 7 ((G 0) (29 + p))).length ≤ 27 := by simp only [List.length_append, List.length_cons, List.length_nil]; omega
          refine j_callV (c5_says hG156 (by omega) (by show 0 ≤ (0 : Int) + (([35] ++ dgs 7 p ++ [60] ++ dgs 7 (mK (G 0) 0 p) ++ [43] ++ dgs 7 ((G 0) (29 + p))).length : Int) ∧ (0 : Int) + (([35] ++ dgs 7 p ++ [60] ++ dgs 7 (mK (G 0) 0 p) ++ [43] ++ dgs 7 ((G 0) (29 + p))).length : Int) < 40; omega)) dX5_line_111 jc_X5_200 jmV_X5_says rfl rfl hG156.1 rfl rfl (by simp) jfr_nil (Nat.le_of_ble_eq_true rfl) ⟨Nat.le_of_ble_eq_true rfl, Nat.le_of_ble_eq_true rfl⟩ ⟨Nat.le_of_ble_eq_true rfl, Nat.le_of_ble_eq_true rfl⟩ (fun r h167 hp9 => ?_) (fun E h9 q => q.elim)
          obtain ⟨rfl, hG168, hX169⟩ := hp9
          have hE170 := hE155.tr hX169
          have hG171 : jOb sM k (m_lin (gn (gn G 6 0) 14 0) ([35] ++ dgs 7 p ++ [60] ++ dgs 7 (mK (G 0) 0 p) ++ [43] ++ dgs 7 ((G 0) (29 + p)) ++ [61])) h167 := Eq.mp (congrArg (fun z => jOb sM k z _) (m_lin_app _ _ _)) hG168
          refine j_aload_n dX5_line_114 rfl rfl ?_
          refine j_aload_n dX5_line_115 rfl rfl ?_
          refine j_getfield (v := .ref (k + 1)) dX5_line_116 jf_X5_9 hG171.1 rfl ?_
          refine j_bipush dX5_line_119 (by decide +kernel) ?_
          refine j_iload_n dX5_line_121 rfl rfl ?_
          refine j_iadd dX5_line_122 ?_
          refine j_iaload (f := G 0) dX5_line_123 (hG171.a 0 1 0 141 rfl) (by omega) (by decide) ?_
          have hl172 : ([35] ++ dgs 7 p ++ [60] ++ dgs 7 (mK (G 0) 0 p) ++ [43] ++ dgs 7 ((G 0) (29 + p)) ++ [61]).length ≤ 28 := by simp only [List.length_append, List.length_cons, List.length_nil]; omega
          refine j_callV (c5_sn hG171 (by omega) (by show 0 ≤ (0 : Int) + (([35] ++ dgs 7 p ++ [60] ++ dgs 7 (mK (G 0) 0 p) ++ [43] ++ dgs 7 ((G 0) (29 + p)) ++ [61]).length : Int) ∧ (0 : Int) + (([35] ++ dgs 7 p ++ [60] ++ dgs 7 (mK (G 0) 0 p) ++ [43] ++ dgs 7 ((G 0) (29 + p)) ++ [61]).length : Int) + 7 < 40; omega)) dX5_line_124 jc_X5_197 jmV_X5_saysNumber rfl rfl hG171.1 rfl rfl (by simp) jfr_nil (Nat.le_of_ble_eq_true rfl) ⟨Nat.le_of_ble_eq_true rfl, Nat.le_of_ble_eq_true rfl⟩ ⟨Nat.le_of_ble_eq_true rfl, Nat.le_of_ble_eq_true rfl⟩ (fun r h174 hp9 => ?_) (fun E h9 q => q.elim)
          obtain ⟨rfl, hG175, hX176⟩ := hp9
          have hE177 := hE170.tr hX176
          have hG178 : jOb sM k (m_lin (gn (gn G 6 0) 14 0) ([35] ++ dgs 7 p ++ [60] ++ dgs 7 (mK (G 0) 0 p) ++ [43] ++ dgs 7 ((G 0) (29 + p)) ++ [61] ++ dgs 7 ((G 0) (53 + p)))) h174 := Eq.mp (congrArg (fun z => jOb sM k z _) (m_lin_app _ _ _)) hG175
          have hd173 := dgs_len 7 ((G 0) (53 + p))
          refine j_aload_n dX5_line_127 rfl rfl ?_
          refine j_iload_n dX5_line_128 rfl rfl ?_
          refine j_callV (c5_lives hG178 (f := (G 0)) rfl hO (by omega)) dX5_line_129 jc_X5_96 jmV_X5_lives rfl rfl hG178.1 rfl rfl (by simp) jfr_nil (Nat.le_of_ble_eq_true rfl) ⟨Nat.le_of_ble_eq_true rfl, Nat.le_of_ble_eq_true rfl⟩ ⟨Nat.le_of_ble_eq_true rfl, Nat.le_of_ble_eq_true rfl⟩ (fun r h179 hp9 => ?_) (fun E h9 q => q.elim)
          obtain ⟨rfl, rfl⟩ := hp9
          have hl9 := hO.l p
          refine j_if_ne (tgt := 141) dX5_line_132 (by decide) (by omega) (fun c180 => ?_) (fun c180 => ?_)
          · refine j_aload_n dX5_line_141 rfl rfl ?_
            refine j_getfield (v := iv ((0 : Int) + (([35] ++ dgs 7 p ++ [60] ++ dgs 7 (mK (G 0) 0 p) ++ [43] ++ dgs 7 ((G 0) (29 + p)) ++ [61] ++ dgs 7 ((G 0) (53 + p))).length : Int))) dX5_line_142 jf_X5_194 hG178.1 rfl ?_
            subst hZ
            exact j_ireturn dX5_line_145 rfl rfl (jWi.i ((if_neg c2).trans ((if_neg c24).trans ((if_neg c113).trans ((if_neg c157).trans (if_neg c180))))) hG178 hE177) (Nat.le_refl _) (Nat.le_refl _)
          · refine j_aload_n dX5_line_135 rfl rfl ?_
            refine j_bipush dX5_line_136 (by decide +kernel) ?_
            have hl181 : ([35] ++ dgs 7 p ++ [60] ++ dgs 7 (mK (G 0) 0 p) ++ [43] ++ dgs 7 ((G 0) (29 + p)) ++ [61] ++ dgs 7 ((G 0) (53 + p))).length ≤ 36 := by simp only [List.length_append, List.length_cons, List.length_nil]; omega
            refine j_callV (c5_says hG178 (by omega) (by show 0 ≤ (0 : Int) + (([35] ++ dgs 7 p ++ [60] ++ dgs 7 (mK (G 0) 0 p) ++ [43] ++ dgs 7 ((G 0) (29 + p)) ++ [61] ++ dgs 7 ((G 0) (53 + p))).length : Int) ∧ (0 : Int) + (([35] ++ dgs 7 p ++ [60] ++ dgs 7 (mK (G 0) 0 p) ++ [43] ++ dgs 7 ((G 0) (29 + p)) ++ [61] ++ dgs 7 ((G 0) (53 + p))).length : Int) < 40; omega)) dX5_line_138 jc_X5_200 jmV_X5_says rfl rfl hG178.1 rfl rfl (by simp) jfr_nil (Nat.le_of_ble_eq_true rfl) ⟨Nat.le_of_ble_eq_true rfl, Nat.le_of_ble_eq_true rfl⟩ ⟨Nat.le_of_ble_eq_true rfl, Nat.le_of_ble_eq_true rfl⟩ (fun r h182 hp9 => ?_) (fun E h9 q => q.elim)
            obtain ⟨rfl, hG183, hX184⟩ := hp9
            have hE185 := hE177.tr hX184
            have hG186 : jOb sM k (m_lin (gn (gn G 6 0) 14 0) ([35] ++ dgs 7 p ++ [60] ++ dgs 7 (mK (G 0) 0 p) ++ [43] ++ dgs 7 ((G 0) (29 + p)) ++ [61] ++ dgs 7 ((G 0) (53 + p)) ++ [120])) h182 := Eq.mp (congrArg (fun z => jOb sM k z _) (m_lin_app _ _ _)) hG183
            refine j_aload_n dX5_line_141 rfl rfl ?_
            refine j_getfield (v := iv ((0 : Int) + (([35] ++ dgs 7 p ++ [60] ++ dgs 7 (mK (G 0) 0 p) ++ [43] ++ dgs 7 ((G 0) (29 + p)) ++ [61] ++ dgs 7 ((G 0) (53 + p)) ++ [120]).length : Int))) dX5_line_142 jf_X5_194 hG186.1 rfl ?_
            subst hZ
            exact j_ireturn dX5_line_145 rfl rfl (jWi.i ((if_neg c2).trans ((if_neg c24).trans ((if_neg c113).trans ((if_neg c157).trans (if_pos c180))))) hG186 hE185) (Nat.le_refl _) (Nat.le_refl _)
