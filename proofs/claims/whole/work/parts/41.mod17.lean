noncomputable def m_does (G : fS) (i : Int) : fS := if ((G 20) (3 * i)) = 98 then (m_doBorn G ((G 20) ((3 * i) + 1))).2 else if ((G 20) (3 * i)) = 99 then (m_doCut G ((G 20) ((3 * i) + 1))).2 else if ((G 20) (3 * i)) = 100 then (m_doDie G ((G 20) ((3 * i) + 1))).2 else if ((G 20) (3 * i)) = 101 then (m_doGive G ((G 20) ((3 * i) + 1)) ((G 20) ((3 * i) + 2))).2 else if ((G 20) (3 * i)) = 102 then (m_doFound G).2 else if ((G 20) (3 * i)) = 103 then (m_doGraft G ((G 20) ((3 * i) + 1)) ((G 20) ((3 * i) + 2))).2 else if ((G 20) (3 * i)) = 109 then (m_doMarry G ((G 20) ((3 * i) + 1)) ((G 20) ((3 * i) + 2))).2 else if ((G 20) (3 * i)) = 112 then (m_doPart G ((G 20) ((3 * i) + 1))).2 else (m_doQuarrel G ((G 20) ((3 * i) + 1)) ((G 20) ((3 * i) + 2))).2
set_option maxHeartbeats 4000000 in
/-- reference: does -/
theorem c5_does {k : Nat} {G : fS} {f : Int → Int} {B : Int} {h : jH} (hG : jOb sM k G h) (hf : G 0 = f) (hI : kI B (mK f)) (hB : B + 1000 ≤ 20000000) {i : Int} (hi : 0 ≤ i ∧ i < 60) (hl : G 20 (3 * i) = 102 ∨ G 20 (3 * i) = 98 ∨ G 20 (3 * i) = 103 ∨ G 20 (3 * i) = 99 ∨ G 20 (3 * i) = 109 ∨ G 20 (3 * i) = 112 ∨ G 20 (3 * i) = 113 ∨ G 20 (3 * i) = 101 ∨ G 20 (3 * i) = 100) (ha : ∀ j, 0 ≤ G 20 j ∧ G 20 j ≤ 999) : jM mX5_does 40 0 0 [] [.ref k, iv i] h (jWv sM k (m_does G i) h) jno := by
  refine j_method (by decide +kernel) rfl (fun _ _ _ => trivial) (Nat.le_of_ble_eq_true rfl) ?_
  generalize hZ : jZ [] 0 0 _ _ = Z
  show J mX5_does (jR 40 0 0) [] Z 0 [(0, .ref k), (1, iv i)] [] h 0 0
  subst hf
  have hO := hI.1
  have hA := hI.2.1
  have hn := mK_n hO
  have hb := hO.b
  have ha1 := ha (3 * i + 1)
  have ha2 := ha (3 * i + 2)
  have hE0 : jEx k 10 h h := jEx.rf
  refine j_aload_n dX5_does_0 rfl rfl ?_
  refine j_getfield (v := .ref (k + 9)) dX5_does_1 jf_X5_39 hG.1 rfl ?_
  refine j_iconst dX5_does_4 ?_
  refine j_iload_n dX5_does_5 rfl rfl ?_
  refine j_imul dX5_does_6 ?_
  refine j_iconst dX5_does_7 ?_
  refine j_iadd dX5_does_8 ?_
  refine j_iaload (f := G 20) dX5_does_9 (hG.a 20 9 0 180 rfl) (by omega) (by decide) ?_
  refine j_istore_n (L' := [(0, _), (1, _), (2, _)]) dX5_does_10 rfl (by decide) rfl ?_
  refine j_aload_n dX5_does_11 rfl rfl ?_
  refine j_getfield (v := .ref (k + 9)) dX5_does_12 jf_X5_39 hG.1 rfl ?_
  refine j_iconst dX5_does_15 ?_
  refine j_iload_n dX5_does_16 rfl rfl ?_
  refine j_imul dX5_does_17 ?_
  refine j_iconst dX5_does_18 ?_
  refine j_iadd dX5_does_19 ?_
  refine j_iaload (f := G 20) dX5_does_20 (hG.a 20 9 0 180 rfl) (by omega) (by decide) ?_
  refine j_istore_n (L' := [(0, _), (1, _), (2, _), (3, _)]) dX5_does_21 rfl (by decide) rfl ?_
  refine j_aload_n dX5_does_22 rfl rfl ?_
  refine j_getfield (v := .ref (k + 9)) dX5_does_23 jf_X5_39 hG.1 rfl ?_
  refine j_iconst dX5_does_26 ?_
  refine j_iload_n dX5_does_27 rfl rfl ?_
  refine j_imul dX5_does_28 ?_
  refine j_iaload (f := G 20) dX5_does_29 (hG.a 20 9 0 180 rfl) (by omega) (by decide) ?_
  by_cases c1 : ((G 20) (3 * i)) = 98
  · refine j_tabIn (tgt := 117) 98 dX5_does_30 c1 (by decide) (by decide) (by decide) rfl (by decide) ?_
    refine j_aload_n dX5_does_117 rfl rfl ?_
    refine j_iload_n dX5_does_118 rfl rfl ?_
    refine j_callV (c5_doBorn hG (f := (G 0)) rfl hO (by omega)) dX5_does_119 jc_X5_99 jmV_X5_doBorn rfl rfl hG.1 rfl rfl (by simp) jfr_nil (Nat.le_of_ble_eq_true rfl) ⟨Nat.le_of_ble_eq_true rfl, Nat.le_of_ble_eq_true rfl⟩ ⟨Nat.le_of_ble_eq_true rfl, Nat.le_of_ble_eq_true rfl⟩ (fun r h2 hp9 => ?_) (fun E h9 q => q.elim)
    obtain ⟨rfl, hG3, hX4⟩ := hp9
    have hE5 := hE0.tr hX4
    refine j_istore (L' := [(0, _), (1, _), (2, _), (3, _), (4, _)]) dX5_does_122 (by decide) rfl ?_
    refine j_goto (tgt := 198) dX5_does_124 (by decide) ?_
    subst hZ
    exact j_return dX5_does_198 rfl (jWv.i (if_pos c1) hG3 hE5) (Nat.le_refl _) (Nat.le_refl _)
  by_cases c6 : ((G 20) (3 * i)) = 99
  · refine j_tabIn (tgt := 138) 99 dX5_does_30 c6 (by decide) (by decide) (by decide) rfl (by decide) ?_
    refine j_aload_n dX5_does_138 rfl rfl ?_
    refine j_iload_n dX5_does_139 rfl rfl ?_
    refine j_callV (c5_doCut hG (f := (G 0)) rfl hO (by omega)) dX5_does_140 jc_X5_115 jmV_X5_doCut rfl rfl hG.1 rfl rfl (by simp) jfr_nil (Nat.le_of_ble_eq_true rfl) ⟨Nat.le_of_ble_eq_true rfl, Nat.le_of_ble_eq_true rfl⟩ ⟨Nat.le_of_ble_eq_true rfl, Nat.le_of_ble_eq_true rfl⟩ (fun r h7 hp9 => ?_) (fun E h9 q => q.elim)
    obtain ⟨rfl, hG8, hX9⟩ := hp9
    have hE10 := hE0.tr hX9
    refine j_istore (L' := [(0, _), (1, _), (2, _), (3, _), (4, _)]) dX5_does_143 (by decide) rfl ?_
    refine j_goto (tgt := 198) dX5_does_145 (by decide) ?_
    subst hZ
    exact j_return dX5_does_198 rfl (jWv.i ((if_neg c1).trans (if_pos c6)) hG8 hE10) (Nat.le_refl _) (Nat.le_refl _)
  by_cases c11 : ((G 20) (3 * i)) = 100
  · refine j_tabIn (tgt := 191) 100 dX5_does_30 c11 (by decide) (by decide) (by decide) rfl (by decide) ?_
    refine j_aload_n dX5_does_191 rfl rfl ?_
    refine j_iload_n dX5_does_192 rfl rfl ?_
    refine j_callV (c5_doDie hG (f := (G 0)) rfl hO hA (by omega)) dX5_does_193 jc_X5_191 jmV_X5_doDie rfl rfl hG.1 rfl rfl (by simp) jfr_nil (Nat.le_of_ble_eq_true rfl) ⟨Nat.le_of_ble_eq_true rfl, Nat.le_of_ble_eq_true rfl⟩ ⟨Nat.le_of_ble_eq_true rfl, Nat.le_of_ble_eq_true rfl⟩ (fun r h12 hp9 => ?_) (fun E h9 q => q.elim)
    obtain ⟨rfl, hG13, hX14⟩ := hp9
    have hE15 := hE0.tr hX14
    refine j_istore (L' := [(0, _), (1, _), (2, _), (3, _), (4, _)]) dX5_does_196 (by decide) rfl ?_
    subst hZ
    exact j_return dX5_does_198 rfl (jWv.i ((if_neg c1).trans ((if_neg c6).trans (if_pos c11))) hG13 hE15) (Nat.le_refl _) (Nat.le_refl _)
  by_cases c16 : ((G 20) (3 * i)) = 101
  · refine j_tabIn (tgt := 180) 101 dX5_does_30 c16 (by decide) (by decide) (by decide) rfl (by decide) ?_
    refine j_aload_n dX5_does_180 rfl rfl ?_
    refine j_iload_n dX5_does_181 rfl rfl ?_
    refine j_iload_n dX5_does_182 rfl rfl ?_
    refine j_callV (c5_doGive hG (f := (G 0)) rfl hO (by omega) (by omega)) dX5_does_183 jc_X5_185 jmV_X5_doGive rfl rfl hG.1 rfl rfl (by simp) jfr_nil (Nat.le_of_ble_eq_true rfl) ⟨Nat.le_of_ble_eq_true rfl, Nat.le_of_ble_eq_true rfl⟩ ⟨Nat.le_of_ble_eq_true rfl, Nat.le_of_ble_eq_true rfl⟩ (fun r h17 hp9 => ?_) (fun E h9 q => q.elim)
    obtain ⟨rfl, hG18, hX19⟩ := hp9
    have hE20 := hE0.tr hX19
    refine j_istore (L' := [(0, _), (1, _), (2, _), (3, _), (4, _)]) dX5_does_186 (by decide) rfl ?_
    refine j_goto (tgt := 198) dX5_does_188 (by decide) ?_
    subst hZ
    exact j_return dX5_does_198 rfl (jWv.i ((if_neg c1).trans ((if_neg c6).trans ((if_neg c11).trans (if_pos c16)))) hG18 hE20) (Nat.le_refl _) (Nat.le_refl _)
  by_cases c21 : ((G 20) (3 * i)) = 102
  · refine j_tabIn (tgt := 108) 102 dX5_does_30 c21 (by decide) (by decide) (by decide) rfl (by decide) ?_
    refine j_aload_n dX5_does_108 rfl rfl ?_
    refine j_callV (c5_doFound hG hn) dX5_does_109 jc_X5_82 jmV_X5_doFound rfl rfl hG.1 rfl rfl (by simp) jfr_nil (Nat.le_of_ble_eq_true rfl) ⟨Nat.le_of_ble_eq_true rfl, Nat.le_of_ble_eq_true rfl⟩ ⟨Nat.le_of_ble_eq_true rfl, Nat.le_of_ble_eq_true rfl⟩ (fun r h22 hp9 => ?_) (fun E h9 q => q.elim)
    obtain ⟨rfl, hG23, hX24⟩ := hp9
    have hE25 := hE0.tr hX24
    refine j_istore (L' := [(0, _), (1, _), (2, _), (3, _), (4, _)]) dX5_does_112 (by decide) rfl ?_
    refine j_goto (tgt := 198) dX5_does_114 (by decide) ?_
    subst hZ
    exact j_return dX5_does_198 rfl (jWv.i ((if_neg c1).trans ((if_neg c6).trans ((if_neg c11).trans ((if_neg c16).trans (if_pos c21))))) hG23 hE25) (Nat.le_refl _) (Nat.le_refl _)
  by_cases c26 : ((G 20) (3 * i)) = 103
  · refine j_tabIn (tgt := 127) 103 dX5_does_30 c26 (by decide) (by decide) (by decide) rfl (by decide) ?_
    refine j_aload_n dX5_does_127 rfl rfl ?_
    refine j_iload_n dX5_does_128 rfl rfl ?_
    refine j_iload_n dX5_does_129 rfl rfl ?_
    refine j_callV (c5_doGraft hG (f := (G 0)) rfl hO hA (by omega) (by omega) (by omega)) dX5_does_130 jc_X5_111 jmV_X5_doGraft rfl rfl hG.1 rfl rfl (by simp) jfr_nil (Nat.le_of_ble_eq_true rfl) ⟨Nat.le_of_ble_eq_true rfl, Nat.le_of_ble_eq_true rfl⟩ ⟨Nat.le_of_ble_eq_true rfl, Nat.le_of_ble_eq_true rfl⟩ (fun r h27 hp9 => ?_) (fun E h9 q => q.elim)
    obtain ⟨rfl, hG28, hX29⟩ := hp9
    have hE30 := hE0.tr hX29
    refine j_istore (L' := [(0, _), (1, _), (2, _), (3, _), (4, _)]) dX5_does_133 (by decide) rfl ?_
    refine j_goto (tgt := 198) dX5_does_135 (by decide) ?_
    subst hZ
    exact j_return dX5_does_198 rfl (jWv.i ((if_neg c1).trans ((if_neg c6).trans ((if_neg c11).trans ((if_neg c16).trans ((if_neg c21).trans (if_pos c26)))))) hG28 hE30) (Nat.le_refl _) (Nat.le_refl _)
  by_cases c31 : ((G 20) (3 * i)) = 109
  · refine j_tabIn (tgt := 148) 109 dX5_does_30 c31 (by decide) (by decide) (by decide) rfl (by decide) ?_
    refine j_aload_n dX5_does_148 rfl rfl ?_
    refine j_iload_n dX5_does_149 rfl rfl ?_
    refine j_iload_n dX5_does_150 rfl rfl ?_
    refine j_callV (c5_doMarry hG (f := (G 0)) rfl hO hA (by omega) (by omega)) dX5_does_151 jc_X5_167 jmV_X5_doMarry rfl rfl hG.1 rfl rfl (by simp) jfr_nil (Nat.le_of_ble_eq_true rfl) ⟨Nat.le_of_ble_eq_true rfl, Nat.le_of_ble_eq_true rfl⟩ ⟨Nat.le_of_ble_eq_true rfl, Nat.le_of_ble_eq_true rfl⟩ (fun r h32 hp9 => ?_) (fun E h9 q => q.elim)
    obtain ⟨rfl, hG33, hX34⟩ := hp9
    have hE35 := hE0.tr hX34
    refine j_istore (L' := [(0, _), (1, _), (2, _), (3, _), (4, _)]) dX5_does_154 (by decide) rfl ?_
    refine j_goto (tgt := 198) dX5_does_156 (by decide) ?_
    subst hZ
    exact j_return dX5_does_198 rfl (jWv.i ((if_neg c1).trans ((if_neg c6).trans ((if_neg c11).trans ((if_neg c16).trans ((if_neg c21).trans ((if_neg c26).trans (if_pos c31))))))) hG33 hE35) (Nat.le_refl _) (Nat.le_refl _)
  by_cases c36 : ((G 20) (3 * i)) = 112
  · refine j_tabIn (tgt := 159) 112 dX5_does_30 c36 (by decide) (by decide) (by decide) rfl (by decide) ?_
    refine j_aload_n dX5_does_159 rfl rfl ?_
    refine j_iload_n dX5_does_160 rfl rfl ?_
    refine j_callV (c5_doPart hG (f := (G 0)) rfl hO (by omega)) dX5_does_161 jc_X5_173 jmV_X5_doPart rfl rfl hG.1 rfl rfl (by simp) jfr_nil (Nat.le_of_ble_eq_true rfl) ⟨Nat.le_of_ble_eq_true rfl, Nat.le_of_ble_eq_true rfl⟩ ⟨Nat.le_of_ble_eq_true rfl, Nat.le_of_ble_eq_true rfl⟩ (fun r h37 hp9 => ?_) (fun E h9 q => q.elim)
    obtain ⟨rfl, hG38, hX39⟩ := hp9
    have hE40 := hE0.tr hX39
    refine j_istore (L' := [(0, _), (1, _), (2, _), (3, _), (4, _)]) dX5_does_164 (by decide) rfl ?_
    refine j_goto (tgt := 198) dX5_does_166 (by decide) ?_
    subst hZ
    exact j_return dX5_does_198 rfl (jWv.i ((if_neg c1).trans ((if_neg c6).trans ((if_neg c11).trans ((if_neg c16).trans ((if_neg c21).trans ((if_neg c26).trans ((if_neg c31).trans (if_pos c36)))))))) hG38 hE40) (Nat.le_refl _) (Nat.le_refl _)
  have c41 : ((G 20) (3 * i)) = 113 := by omega
  refine j_tabIn (tgt := 169) 113 dX5_does_30 c41 (by decide) (by decide) (by decide) rfl (by decide) ?_
  refine j_aload_n dX5_does_169 rfl rfl ?_
  refine j_iload_n dX5_does_170 rfl rfl ?_
  refine j_iload_n dX5_does_171 rfl rfl ?_
  refine j_callV (c5_doQuarrel hG (f := (G 0)) rfl hO (by omega) (by omega)) dX5_does_172 jc_X5_182 jmV_X5_doQuarrel rfl rfl hG.1 rfl rfl (by simp) jfr_nil (Nat.le_of_ble_eq_true rfl) ⟨Nat.le_of_ble_eq_true rfl, Nat.le_of_ble_eq_true rfl⟩ ⟨Nat.le_of_ble_eq_true rfl, Nat.le_of_ble_eq_true rfl⟩ (fun r h42 hp9 => ?_) (fun E h9 q => q.elim)
  obtain ⟨rfl, hG43, hX44⟩ := hp9
  have hE45 := hE0.tr hX44
  refine j_istore (L' := [(0, _), (1, _), (2, _), (3, _), (4, _)]) dX5_does_175 (by decide) rfl ?_
  refine j_goto (tgt := 198) dX5_does_177 (by decide) ?_
  subst hZ
  exact j_return dX5_does_198 rfl (jWv.i ((if_neg c1).trans ((if_neg c6).trans ((if_neg c11).trans ((if_neg c16).trans ((if_neg c21).trans ((if_neg c26).trans ((if_neg c31).trans (if_neg c36)))))))) hG43 hE45) (Nat.le_refl _) (Nat.le_refl _)
theorem mRes.r5 {t : Int} {q : kR} {G : fS} {x : Int × fS} (h : mRes t q G x) (hp : 0 ≤ G 5 0 ∧ G 5 0 ≤ 8) : 0 ≤ x.2 5 0 ∧ x.2 5 0 ≤ 8 := by
  rw [h.2.1 5 (by omega)]
  exact hp
theorem mRes.r6 {t : Int} {q : kR} {G : fS} {x : Int × fS} (h : mRes t q G x) (h0 : G 6 0 = 0) (ht : 0 ≤ t ∧ t ≤ 3) : 0 ≤ x.2 6 0 ∧ x.2 6 0 ≤ 3 := by
  rcases h.2.2 with ⟨_, _, e, _⟩ | ⟨_, e, _⟩ | ⟨_, e, _⟩ | ⟨_, e, _⟩ <;> rw [e] <;> omega
def m_found (G : fS) : Int × fS := ((m_ends ((m_doFound ((m_keep G))).2) ((m_doFound ((m_keep G))).1)).1, (m_ends ((m_doFound ((m_keep G))).2) ((m_doFound ((m_keep G))).1)).2)
set_option maxHeartbeats 4000000 in
/-- reference: found -/
theorem c5_found {k : Nat} {G : fS} {f : Int → Int} {B : Int} {h : jH} (hG : jOb sM k G h) (hf : G 0 = f) (hI : kI B (mK f)) (hB : B + 1000 ≤ 20000000)  (hp9 : 0 ≤ G 5 0 ∧ G 5 0 ≤ 8) : jM mX5_found 41 0 0 [] [.ref k] h (jWi sM k (m_found G) h) jno := by
  refine j_method (by decide +kernel) rfl (fun _ _ _ => trivial) (Nat.le_of_ble_eq_true rfl) ?_
  generalize hZ : jZ [] 0 0 _ _ = Z
  show J mX5_found (jR 41 0 0) [] Z 0 [(0, .ref k)] [] h 0 0
  subst hf
  have hO := hI.1
  have hA := hI.2.1
  have hn := mK_n hO
  have hb := hO.b
  have hE0 : jEx k 10 h h := jEx.rf
  refine j_aload_n dX5_found_0 rfl rfl ?_
  refine j_callV (c5_keep hG) dX5_found_1 jc_X5_79 jmV_X5_keep rfl rfl hG.1 rfl rfl (by simp) jfr_nil (Nat.le_of_ble_eq_true rfl) ⟨Nat.le_of_ble_eq_true rfl, Nat.le_of_ble_eq_true rfl⟩ ⟨Nat.le_of_ble_eq_true rfl, Nat.le_of_ble_eq_true rfl⟩ (fun r h1 hp9 => ?_) (fun E h9 q => q.elim)
  obtain ⟨rfl, hG2, hX3⟩ := hp9
  have hE4 := hE0.tr hX3
  refine j_aload_n dX5_found_4 rfl rfl ?_
  refine j_aload_n dX5_found_5 rfl rfl ?_
  refine j_callV (c5_doFound hG2 hn) dX5_found_6 jc_X5_82 jmV_X5_doFound rfl rfl hG2.1 rfl rfl (by simp) jfr_nil (Nat.le_of_ble_eq_true rfl) ⟨Nat.le_of_ble_eq_true rfl, Nat.le_of_ble_eq_true rfl⟩ ⟨Nat.le_of_ble_eq_true rfl, Nat.le_of_ble_eq_true rfl⟩ (fun r h5 hp9 => ?_) (fun E h9 q => q.elim)
  obtain ⟨rfl, hG6, hX7⟩ := hp9
  have hE8 := hE4.tr hX7
  have hr9 := m_doFound_K (G := m_keep G) hI
  refine j_callV (c5_ends hG6 (hr9.r5 (by show 0 ≤ G 5 0 ∧ G 5 0 ≤ 8; exact hp9)) (hr9.r6 rfl (by omega))) dX5_found_9 jc_X5_86 jmV_X5_ends rfl rfl hG6.1 rfl rfl (by simp) jfr_nil (Nat.le_of_ble_eq_true rfl) ⟨Nat.le_of_ble_eq_true rfl, Nat.le_of_ble_eq_true rfl⟩ ⟨Nat.le_of_ble_eq_true rfl, Nat.le_of_ble_eq_true rfl⟩ (fun r h9 hp9 => ?_) (fun E h9 q => q.elim)
  obtain ⟨rfl, hG10, hX11⟩ := hp9
  have hE12 := hE8.tr hX11
  subst hZ
  exact j_ireturn dX5_found_12 rfl rfl (jWi.i rfl hG10 hE12) (Nat.le_refl _) (Nat.le_refl _)
def m_born (G : fS) (p : Int) : Int × fS := ((m_ends ((m_doBorn ((m_keep G)) p).2) ((m_doBorn ((m_keep G)) p).1)).1, (m_ends ((m_doBorn ((m_keep G)) p).2) ((m_doBorn ((m_keep G)) p).1)).2)
set_option maxHeartbeats 4000000 in
/-- reference: born -/
theorem c5_born {k : Nat} {G : fS} {f : Int → Int} {B : Int} {h : jH} (hG : jOb sM k G h) (hf : G 0 = f) (hI : kI B (mK f)) (hB : B + 1000 ≤ 20000000) {p : Int} (hp : -2147483648 ≤ p ∧ p ≤ 2147483647) (hp9 : 0 ≤ G 5 0 ∧ G 5 0 ≤ 8) : jM mX5_born 41 0 0 [] [.ref k, iv p] h (jWi sM k (m_born G p) h) jno := by
  refine j_method (by decide +kernel) rfl (fun _ _ _ => trivial) (Nat.le_of_ble_eq_true rfl) ?_
  generalize hZ : jZ [] 0 0 _ _ = Z
  show J mX5_born (jR 41 0 0) [] Z 0 [(0, .ref k), (1, iv p)] [] h 0 0
  subst hf
  have hO := hI.1
  have hA := hI.2.1
  have hn := mK_n hO
  have hb := hO.b
  have hE0 : jEx k 10 h h := jEx.rf
  refine j_aload_n dX5_born_0 rfl rfl ?_
  refine j_callV (c5_keep hG) dX5_born_1 jc_X5_79 jmV_X5_keep rfl rfl hG.1 rfl rfl (by simp) jfr_nil (Nat.le_of_ble_eq_true rfl) ⟨Nat.le_of_ble_eq_true rfl, Nat.le_of_ble_eq_true rfl⟩ ⟨Nat.le_of_ble_eq_true rfl, Nat.le_of_ble_eq_true rfl⟩ (fun r h1 hp9 => ?_) (fun E h9 q => q.elim)
  obtain ⟨rfl, hG2, hX3⟩ := hp9
  have hE4 := hE0.tr hX3
  refine j_aload_n dX5_born_4 rfl rfl ?_
  refine j_aload_n dX5_born_5 rfl rfl ?_
  refine j_iload_n dX5_born_6 rfl rfl ?_
  refine j_callV (c5_doBorn hG2 (f := (G 0)) rfl hO (by omega)) dX5_born_7 jc_X5_99 jmV_X5_doBorn rfl rfl hG2.1 rfl rfl (by simp) jfr_nil (Nat.le_of_ble_eq_true rfl) ⟨Nat.le_of_ble_eq_true rfl, Nat.le_of_ble_eq_true rfl⟩ ⟨Nat.le_of_ble_eq_true rfl, Nat.le_of_ble_eq_true rfl⟩ (fun r h5 hp9 => ?_) (fun E h9 q => q.elim)
  obtain ⟨rfl, hG6, hX7⟩ := hp9
  have hE8 := hE4.tr hX7
  have hr9 := m_doBorn_K (G := m_keep G) (p := p) hI
  refine j_callV (c5_ends hG6 (hr9.r5 (by show 0 ≤ G 5 0 ∧ G 5 0 ≤ 8; exact hp9)) (hr9.r6 rfl (by omega))) dX5_born_10 jc_X5_86 jmV_X5_ends rfl rfl hG6.1 rfl rfl (by simp) jfr_nil (Nat.le_of_ble_eq_true rfl) ⟨Nat.le_of_ble_eq_true rfl, Nat.le_of_ble_eq_true rfl⟩ ⟨Nat.le_of_ble_eq_true rfl, Nat.le_of_ble_eq_true rfl⟩ (fun r h9 hp9 => ?_) (fun E h9 q => q.elim)
  obtain ⟨rfl, hG10, hX11⟩ := hp9
  have hE12 := hE8.tr hX11
  subst hZ
  exact j_ireturn dX5_born_13 rfl rfl (jWi.i rfl hG10 hE12) (Nat.le_refl _) (Nat.le_refl _)
noncomputable def m_graft (G : fS) (p o : Int) : Int × fS := ((m_ends ((m_doGraft ((m_keep G)) p o).2) ((m_doGraft ((m_keep G)) p o).1)).1, (m_ends ((m_doGraft ((m_keep G)) p o).2) ((m_doGraft ((m_keep G)) p o).1)).2)
set_option maxHeartbeats 4000000 in
/-- reference: graft -/
theorem c5_graft {k : Nat} {G : fS} {f : Int → Int} {B : Int} {h : jH} (hG : jOb sM k G h) (hf : G 0 = f) (hI : kI B (mK f)) (hB : B + 1000 ≤ 20000000) {p : Int} (hp : -2147483648 ≤ p ∧ p ≤ 2147483647) {o : Int} (ho : -2147483648 ≤ o ∧ o ≤ 2147483647) (hp9 : 0 ≤ G 5 0 ∧ G 5 0 ≤ 8) : jM mX5_graft 41 0 0 [] [.ref k, iv p, iv o] h (jWi sM k (m_graft G p o) h) jno := by
  refine j_method (by decide +kernel) rfl (fun _ _ _ => trivial) (Nat.le_of_ble_eq_true rfl) ?_
  generalize hZ : jZ [] 0 0 _ _ = Z
  show J mX5_graft (jR 41 0 0) [] Z 0 [(0, .ref k), (1, iv p), (2, iv o)] [] h 0 0
  subst hf
  have hO := hI.1
  have hA := hI.2.1
  have hn := mK_n hO
  have hb := hO.b
  have hE0 : jEx k 10 h h := jEx.rf
  refine j_aload_n dX5_graft_0 rfl rfl ?_
  refine j_callV (c5_keep hG) dX5_graft_1 jc_X5_79 jmV_X5_keep rfl rfl hG.1 rfl rfl (by simp) jfr_nil (Nat.le_of_ble_eq_true rfl) ⟨Nat.le_of_ble_eq_true rfl, Nat.le_of_ble_eq_true rfl⟩ ⟨Nat.le_of_ble_eq_true rfl, Nat.le_of_ble_eq_true rfl⟩ (fun r h1 hp9 => ?_) (fun E h9 q => q.elim)
  obtain ⟨rfl, hG2, hX3⟩ := hp9
  have hE4 := hE0.tr hX3
  refine j_aload_n dX5_graft_4 rfl rfl ?_
  refine j_aload_n dX5_graft_5 rfl rfl ?_
  refine j_iload_n dX5_graft_6 rfl rfl ?_
  refine j_iload_n dX5_graft_7 rfl rfl ?_
  refine j_callV (c5_doGraft hG2 (f := (G 0)) rfl hO hA (by omega) (by omega) (by omega)) dX5_graft_8 jc_X5_111 jmV_X5_doGraft rfl rfl hG2.1 rfl rfl (by simp) jfr_nil (Nat.le_of_ble_eq_true rfl) ⟨Nat.le_of_ble_eq_true rfl, Nat.le_of_ble_eq_true rfl⟩ ⟨Nat.le_of_ble_eq_true rfl, Nat.le_of_ble_eq_true rfl⟩ (fun r h5 hp9 => ?_) (fun E h9 q => q.elim)
  obtain ⟨rfl, hG6, hX7⟩ := hp9
  have hE8 := hE4.tr hX7
  have hr9 := m_doGraft_K (G := m_keep G) (r := p) (p := o) hI
  refine j_callV (c5_ends hG6 (hr9.r5 (by show 0 ≤ G 5 0 ∧ G 5 0 ≤ 8; exact hp9)) (hr9.r6 rfl (by omega))) dX5_graft_11 jc_X5_86 jmV_X5_ends rfl rfl hG6.1 rfl rfl (by simp) jfr_nil (Nat.le_of_ble_eq_true rfl) ⟨Nat.le_of_ble_eq_true rfl, Nat.le_of_ble_eq_true rfl⟩ ⟨Nat.le_of_ble_eq_true rfl, Nat.le_of_ble_eq_true rfl⟩ (fun r h9 hp9 => ?_) (fun E h9 q => q.elim)
  obtain ⟨rfl, hG10, hX11⟩ := hp9
  have hE12 := hE8.tr hX11
  subst hZ
  exact j_ireturn dX5_graft_14 rfl rfl (jWi.i rfl hG10 hE12) (Nat.le_refl _) (Nat.le_refl _)
def m_cut (G : fS) (p : Int) : Int × fS := ((m_ends ((m_doCut ((m_keep G)) p).2) ((m_doCut ((m_keep G)) p).1)).1, (m_ends ((m_doCut ((m_keep G)) p).2) ((m_doCut ((m_keep G)) p).1)).2)
set_option maxHeartbeats 4000000 in
/-- reference: cut -/
theorem c5_cut {k : Nat} {G : fS} {f : Int → Int} {B : Int} {h : jH} (hG : jOb sM k G h) (hf : G 0 = f) (hI : kI B (mK f)) (hB : B + 1000 ≤ 20000000) {p : Int} (hp : -2147483648 ≤ p ∧ p ≤ 2147483647) (hp9 : 0 ≤ G 5 0 ∧ G 5 0 ≤ 8) : jM mX5_cut 41 0 0 [] [.ref k, iv p] h (jWi sM k (m_cut G p) h) jno := by
  refine j_method (by decide +kernel) rfl (fun _ _ _ => trivial) (Nat.le_of_ble_eq_true rfl) ?_
  generalize hZ : jZ [] 0 0 _ _ = Z
  show J mX5_cut (jR 41 0 0) [] Z 0 [(0, .ref k), (1, iv p)] [] h 0 0
  subst hf
  have hO := hI.1
  have hA := hI.2.1
  have hn := mK_n hO
  have hb := hO.b
  have hE0 : jEx k 10 h h := jEx.rf
  refine j_aload_n dX5_cut_0 rfl rfl ?_
  refine j_callV (c5_keep hG) dX5_cut_1 jc_X5_79 jmV_X5_keep rfl rfl hG.1 rfl rfl (by simp) jfr_nil (Nat.le_of_ble_eq_true rfl) ⟨Nat.le_of_ble_eq_true rfl, Nat.le_of_ble_eq_true rfl⟩ ⟨Nat.le_of_ble_eq_true rfl, Nat.le_of_ble_eq_true rfl⟩ (fun r h1 hp9 => ?_) (fun E h9 q => q.elim)
  obtain ⟨rfl, hG2, hX3⟩ := hp9
  have hE4 := hE0.tr hX3
  refine j_aload_n dX5_cut_4 rfl rfl ?_
  refine j_aload_n dX5_cut_5 rfl rfl ?_
  refine j_iload_n dX5_cut_6 rfl rfl ?_
  refine j_callV (c5_doCut hG2 (f := (G 0)) rfl hO (by omega)) dX5_cut_7 jc_X5_115 jmV_X5_doCut rfl rfl hG2.1 rfl rfl (by simp) jfr_nil (Nat.le_of_ble_eq_true rfl) ⟨Nat.le_of_ble_eq_true rfl, Nat.le_of_ble_eq_true rfl⟩ ⟨Nat.le_of_ble_eq_true rfl, Nat.le_of_ble_eq_true rfl⟩ (fun r h5 hp9 => ?_) (fun E h9 q => q.elim)
  obtain ⟨rfl, hG6, hX7⟩ := hp9
  have hE8 := hE4.tr hX7
  have hr9 := m_doCut_K (G := m_keep G) (p := p) hI
  refine j_callV (c5_ends hG6 (hr9.r5 (by show 0 ≤ G 5 0 ∧ G 5 0 ≤ 8; exact hp9)) (hr9.r6 rfl (by omega))) dX5_cut_10 jc_X5_86 jmV_X5_ends rfl rfl hG6.1 rfl rfl (by simp) jfr_nil (Nat.le_of_ble_eq_true rfl) ⟨Nat.le_of_ble_eq_true rfl, Nat.le_of_ble_eq_true rfl⟩ ⟨Nat.le_of_ble_eq_true rfl, Nat.le_of_ble_eq_true rfl⟩ (fun r h9 hp9 => ?_) (fun E h9 q => q.elim)
  obtain ⟨rfl, hG10, hX11⟩ := hp9
  have hE12 := hE8.tr hX11
  subst hZ
  exact j_ireturn dX5_cut_13 rfl rfl (jWi.i rfl hG10 hE12) (Nat.le_refl _) (Nat.le_refl _)
noncomputable def m_marry (G : fS) (p o : Int) : Int × fS := ((m_ends ((m_doMarry ((m_keep G)) p o).2) ((m_doMarry ((m_keep G)) p o).1)).1, (m_ends ((m_doMarry ((m_keep G)) p o).2) ((m_doMarry ((m_keep G)) p o).1)).2)
set_option maxHeartbeats 4000000 in
/-- reference: marry -/
theorem c5_marry {k : Nat} {G : fS} {f : Int → Int} {B : Int} {h : jH} (hG : jOb sM k G h) (hf : G 0 = f) (hI : kI B (mK f)) (hB : B + 1000 ≤ 20000000) {p : Int} (hp : -2147483648 ≤ p ∧ p ≤ 2147483647) {o : Int} (ho : -2147483648 ≤ o ∧ o ≤ 2147483647) (hp9 : 0 ≤ G 5 0 ∧ G 5 0 ≤ 8) : jM mX5_marry 41 0 0 [] [.ref k, iv p, iv o] h (jWi sM k (m_marry G p o) h) jno := by
  refine j_method (by decide +kernel) rfl (fun _ _ _ => trivial) (Nat.le_of_ble_eq_true rfl) ?_
  generalize hZ : jZ [] 0 0 _ _ = Z
  show J mX5_marry (jR 41 0 0) [] Z 0 [(0, .ref k), (1, iv p), (2, iv o)] [] h 0 0
  subst hf
  have hO := hI.1
  have hA := hI.2.1
  have hn := mK_n hO
  have hb := hO.b
  have hE0 : jEx k 10 h h := jEx.rf
  refine j_aload_n dX5_marry_0 rfl rfl ?_
  refine j_callV (c5_keep hG) dX5_marry_1 jc_X5_79 jmV_X5_keep rfl rfl hG.1 rfl rfl (by simp) jfr_nil (Nat.le_of_ble_eq_true rfl) ⟨Nat.le_of_ble_eq_true rfl, Nat.le_of_ble_eq_true rfl⟩ ⟨Nat.le_of_ble_eq_true rfl, Nat.le_of_ble_eq_true rfl⟩ (fun r h1 hp9 => ?_) (fun E h9 q => q.elim)
  obtain ⟨rfl, hG2, hX3⟩ := hp9
  have hE4 := hE0.tr hX3
  refine j_aload_n dX5_marry_4 rfl rfl ?_
  refine j_aload_n dX5_marry_5 rfl rfl ?_
  refine j_iload_n dX5_marry_6 rfl rfl ?_
  refine j_iload_n dX5_marry_7 rfl rfl ?_
  refine j_callV (c5_doMarry hG2 (f := (G 0)) rfl hO hA (by omega) (by omega)) dX5_marry_8 jc_X5_167 jmV_X5_doMarry rfl rfl hG2.1 rfl rfl (by simp) jfr_nil (Nat.le_of_ble_eq_true rfl) ⟨Nat.le_of_ble_eq_true rfl, Nat.le_of_ble_eq_true rfl⟩ ⟨Nat.le_of_ble_eq_true rfl, Nat.le_of_ble_eq_true rfl⟩ (fun r h5 hp9 => ?_) (fun E h9 q => q.elim)
  obtain ⟨rfl, hG6, hX7⟩ := hp9
  have hE8 := hE4.tr hX7
  have hr9 := m_doMarry_K (G := m_keep G) (p := p) (o := o) hI
  refine j_callV (c5_ends hG6 (hr9.r5 (by show 0 ≤ G 5 0 ∧ G 5 0 ≤ 8; exact hp9)) (hr9.r6 rfl (by omega))) dX5_marry_11 jc_X5_86 jmV_X5_ends rfl rfl hG6.1 rfl rfl (by simp) jfr_nil (Nat.le_of_ble_eq_true rfl) ⟨Nat.le_of_ble_eq_true rfl, Nat.le_of_ble_eq_true rfl⟩ ⟨Nat.le_of_ble_eq_true rfl, Nat.le_of_ble_eq_true rfl⟩ (fun r h9 hp9 => ?_) (fun E h9 q => q.elim)
  obtain ⟨rfl, hG10, hX11⟩ := hp9
  have hE12 := hE8.tr hX11
  subst hZ
  exact j_ireturn dX5_marry_14 rfl rfl (jWi.i rfl hG10 hE12) (Nat.le_refl _) (Nat.le_refl _)
def m_part (G : fS) (p : Int) : Int × fS := ((m_ends ((m_doPart ((m_keep G)) p).2) ((m_doPart ((m_keep G)) p).1)).1, (m_ends ((m_doPart ((m_keep G)) p).2) ((m_doPart ((m_keep G)) p).1)).2)
set_option maxHeartbeats 4000000 in
/-- reference: part -/
theorem c5_part {k : Nat} {G : fS} {f : Int → Int} {B : Int} {h : jH} (hG : jOb sM k G h) (hf : G 0 = f) (hI : kI B (mK f)) (hB : B + 1000 ≤ 20000000) {p : Int} (hp : -2147483648 ≤ p ∧ p ≤ 2147483647) (hp9 : 0 ≤ G 5 0 ∧ G 5 0 ≤ 8) : jM mX5_part 41 0 0 [] [.ref k, iv p] h (jWi sM k (m_part G p) h) jno := by
  refine j_method (by decide +kernel) rfl (fun _ _ _ => trivial) (Nat.le_of_ble_eq_true rfl) ?_
  generalize hZ : jZ [] 0 0 _ _ = Z
  show J mX5_part (jR 41 0 0) [] Z 0 [(0, .ref k), (1, iv p)] [] h 0 0
  subst hf
  have hO := hI.1
  have hA := hI.2.1
  have hn := mK_n hO
  have hb := hO.b
  have hE0 : jEx k 10 h h := jEx.rf
  refine j_aload_n dX5_part_0 rfl rfl ?_
  refine j_callV (c5_keep hG) dX5_part_1 jc_X5_79 jmV_X5_keep rfl rfl hG.1 rfl rfl (by simp) jfr_nil (Nat.le_of_ble_eq_true rfl) ⟨Nat.le_of_ble_eq_true rfl, Nat.le_of_ble_eq_true rfl⟩ ⟨Nat.le_of_ble_eq_true rfl, Nat.le_of_ble_eq_true rfl⟩ (fun r h1 hp9 => ?_) (fun E h9 q => q.elim)
  obtain ⟨rfl, hG2, hX3⟩ := hp9
  have hE4 := hE0.tr hX3
  refine j_aload_n dX5_part_4 rfl rfl ?_
  refine j_aload_n dX5_part_5 rfl rfl ?_
  refine j_iload_n dX5_part_6 rfl rfl ?_
  refine j_callV (c5_doPart hG2 (f := (G 0)) rfl hO (by omega)) dX5_part_7 jc_X5_173 jmV_X5_doPart rfl rfl hG2.1 rfl rfl (by simp) jfr_nil (Nat.le_of_ble_eq_true rfl) ⟨Nat.le_of_ble_eq_true rfl, Nat.le_of_ble_eq_true rfl⟩ ⟨Nat.le_of_ble_eq_true rfl, Nat.le_of_ble_eq_true rfl⟩ (fun r h5 hp9 => ?_) (fun E h9 q => q.elim)
  obtain ⟨rfl, hG6, hX7⟩ := hp9
  have hE8 := hE4.tr hX7
  have hr9 := m_doPart_K (G := m_keep G) (p := p) hI
  refine j_callV (c5_ends hG6 (hr9.r5 (by show 0 ≤ G 5 0 ∧ G 5 0 ≤ 8; exact hp9)) (hr9.r6 rfl (by omega))) dX5_part_10 jc_X5_86 jmV_X5_ends rfl rfl hG6.1 rfl rfl (by simp) jfr_nil (Nat.le_of_ble_eq_true rfl) ⟨Nat.le_of_ble_eq_true rfl, Nat.le_of_ble_eq_true rfl⟩ ⟨Nat.le_of_ble_eq_true rfl, Nat.le_of_ble_eq_true rfl⟩ (fun r h9 hp9 => ?_) (fun E h9 q => q.elim)
  obtain ⟨rfl, hG10, hX11⟩ := hp9
  have hE12 := hE8.tr hX11
  subst hZ
  exact j_ireturn dX5_part_13 rfl rfl (jWi.i rfl hG10 hE12) (Nat.le_refl _) (Nat.le_refl _)
noncomputable def m_quarrel (G : fS) (p o : Int) : Int × fS := ((m_ends ((m_doQuarrel ((m_keep G)) p o).2) ((m_doQuarrel ((m_keep G)) p o).1)).1, (m_ends ((m_doQuarrel ((m_keep G)) p o).2) ((m_doQuarrel ((m_keep G)) p o).1)).2)
set_option maxHeartbeats 4000000 in
/-- reference: quarrel -/
theorem c5_quarrel {k : Nat} {G : fS} {f : Int → Int} {B : Int} {h : jH} (hG : jOb sM k G h) (hf : G 0 = f) (hI : kI B (mK f)) (hB : B + 1000 ≤ 20000000) {p : Int} (hp : -2147483648 ≤ p ∧ p ≤ 2147483647) {o : Int} (ho : -2147483648 ≤ o ∧ o ≤ 2147483647) (hp9 : 0 ≤ G 5 0 ∧ G 5 0 ≤ 8) : jM mX5_quarrel 41 0 0 [] [.ref k, iv p, iv o] h (jWi sM k (m_quarrel G p o) h) jno := by
  refine j_method (by decide +kernel) rfl (fun _ _ _ => trivial) (Nat.le_of_ble_eq_true rfl) ?_
  generalize hZ : jZ [] 0 0 _ _ = Z
  show J mX5_quarrel (jR 41 0 0) [] Z 0 [(0, .ref k), (1, iv p), (2, iv o)] [] h 0 0
  subst hf
  have hO := hI.1
  have hA := hI.2.1
  have hn := mK_n hO
  have hb := hO.b
  have hE0 : jEx k 10 h h := jEx.rf
  refine j_aload_n dX5_quarrel_0 rfl rfl ?_
  refine j_callV (c5_keep hG) dX5_quarrel_1 jc_X5_79 jmV_X5_keep rfl rfl hG.1 rfl rfl (by simp) jfr_nil (Nat.le_of_ble_eq_true rfl) ⟨Nat.le_of_ble_eq_true rfl, Nat.le_of_ble_eq_true rfl⟩ ⟨Nat.le_of_ble_eq_true rfl, Nat.le_of_ble_eq_true rfl⟩ (fun r h1 hp9 => ?_) (fun E h9 q => q.elim)
  obtain ⟨rfl, hG2, hX3⟩ := hp9
  have hE4 := hE0.tr hX3
  refine j_aload_n dX5_quarrel_4 rfl rfl ?_
  refine j_aload_n dX5_quarrel_5 rfl rfl ?_
  refine j_iload_n dX5_quarrel_6 rfl rfl ?_
  refine j_iload_n dX5_quarrel_7 rfl rfl ?_
  refine j_callV (c5_doQuarrel hG2 (f := (G 0)) rfl hO (by omega) (by omega)) dX5_quarrel_8 jc_X5_182 jmV_X5_doQuarrel rfl rfl hG2.1 rfl rfl (by simp) jfr_nil (Nat.le_of_ble_eq_true rfl) ⟨Nat.le_of_ble_eq_true rfl, Nat.le_of_ble_eq_true rfl⟩ ⟨Nat.le_of_ble_eq_true rfl, Nat.le_of_ble_eq_true rfl⟩ (fun r h5 hp9 => ?_) (fun E h9 q => q.elim)
  obtain ⟨rfl, hG6, hX7⟩ := hp9
  have hE8 := hE4.tr hX7
  have hr9 := m_doQuarrel_K (G := m_keep G) (p := p) (o := o) hI
  refine j_callV (c5_ends hG6 (hr9.r5 (by show 0 ≤ G 5 0 ∧ G 5 0 ≤ 8; exact hp9)) (hr9.r6 rfl (by omega))) dX5_quarrel_11 jc_X5_86 jmV_X5_ends rfl rfl hG6.1 rfl rfl (by simp) jfr_nil (Nat.le_of_ble_eq_true rfl) ⟨Nat.le_of_ble_eq_true rfl, Nat.le_of_ble_eq_true rfl⟩ ⟨Nat.le_of_ble_eq_true rfl, Nat.le_of_ble_eq_true rfl⟩ (fun r h9 hp9 => ?_) (fun E h9 q => q.elim)
  obtain ⟨rfl, hG10, hX11⟩ := hp9
  have hE12 := hE8.tr hX11
  subst hZ
  exact j_ireturn dX5_quarrel_14 rfl rfl (jWi.i rfl hG10 hE12) (Nat.le_refl _) (Nat.le_refl _)
def m_give (G : fS) (p o : Int) : Int × fS := ((m_ends ((m_doGive ((m_keep G)) p o).2) ((m_doGive ((m_keep G)) p o).1)).1, (m_ends ((m_doGive ((m_keep G)) p o).2) ((m_doGive ((m_keep G)) p o).1)).2)
set_option maxHeartbeats 4000000 in
/-- reference: give -/
theorem c5_give {k : Nat} {G : fS} {f : Int → Int} {B : Int} {h : jH} (hG : jOb sM k G h) (hf : G 0 = f) (hI : kI B (mK f)) (hB : B + 1000 ≤ 20000000) {p : Int} (hp : -2147483648 ≤ p ∧ p ≤ 2147483647) {o : Int} (ho : -2147483648 ≤ o ∧ o ≤ 2147483647) (hp9 : 0 ≤ G 5 0 ∧ G 5 0 ≤ 8) : jM mX5_give 41 0 0 [] [.ref k, iv p, iv o] h (jWi sM k (m_give G p o) h) jno := by
  refine j_method (by decide +kernel) rfl (fun _ _ _ => trivial) (Nat.le_of_ble_eq_true rfl) ?_
  generalize hZ : jZ [] 0 0 _ _ = Z
  show J mX5_give (jR 41 0 0) [] Z 0 [(0, .ref k), (1, iv p), (2, iv o)] [] h 0 0
  subst hf
  have hO := hI.1
  have hA := hI.2.1
  have hn := mK_n hO
  have hb := hO.b
  have hE0 : jEx k 10 h h := jEx.rf
  refine j_aload_n dX5_give_0 rfl rfl ?_
  refine j_callV (c5_keep hG) dX5_give_1 jc_X5_79 jmV_X5_keep rfl rfl hG.1 rfl rfl (by simp) jfr_nil (Nat.le_of_ble_eq_true rfl) ⟨Nat.le_of_ble_eq_true rfl, Nat.le_of_ble_eq_true rfl⟩ ⟨Nat.le_of_ble_eq_true rfl, Nat.le_of_ble_eq_true rfl⟩ (fun r h1 hp9 => ?_) (fun E h9 q => q.elim)
  obtain ⟨rfl, hG2, hX3⟩ := hp9
  have hE4 := hE0.tr hX3
  refine j_aload_n dX5_give_4 rfl rfl ?_
  refine j_aload_n dX5_give_5 rfl rfl ?_
  refine j_iload_n dX5_give_6 rfl rfl ?_
  refine j_iload_n dX5_give_7 rfl rfl ?_
  refine j_callV (c5_doGive hG2 (f := (G 0)) rfl hO (by omega) (by omega)) dX5_give_8 jc_X5_185 jmV_X5_doGive rfl rfl hG2.1 rfl rfl (by simp) jfr_nil (Nat.le_of_ble_eq_true rfl) ⟨Nat.le_of_ble_eq_true rfl, Nat.le_of_ble_eq_true rfl⟩ ⟨Nat.le_of_ble_eq_true rfl, Nat.le_of_ble_eq_true rfl⟩ (fun r h5 hp9 => ?_) (fun E h9 q => q.elim)
  obtain ⟨rfl, hG6, hX7⟩ := hp9
  have hE8 := hE4.tr hX7
  have hr9 := m_doGive_K (G := m_keep G) (p := p) (c := o) hI
  refine j_callV (c5_ends hG6 (hr9.r5 (by show 0 ≤ G 5 0 ∧ G 5 0 ≤ 8; exact hp9)) (hr9.r6 rfl (by omega))) dX5_give_11 jc_X5_86 jmV_X5_ends rfl rfl hG6.1 rfl rfl (by simp) jfr_nil (Nat.le_of_ble_eq_true rfl) ⟨Nat.le_of_ble_eq_true rfl, Nat.le_of_ble_eq_true rfl⟩ ⟨Nat.le_of_ble_eq_true rfl, Nat.le_of_ble_eq_true rfl⟩ (fun r h9 hp9 => ?_) (fun E h9 q => q.elim)
  obtain ⟨rfl, hG10, hX11⟩ := hp9
  have hE12 := hE8.tr hX11
  subst hZ
  exact j_ireturn dX5_give_14 rfl rfl (jWi.i rfl hG10 hE12) (Nat.le_refl _) (Nat.le_refl _)
def m_die (G : fS) (p : Int) : Int × fS := ((m_ends ((m_doDie ((m_keep G)) p).2) ((m_doDie ((m_keep G)) p).1)).1, (m_ends ((m_doDie ((m_keep G)) p).2) ((m_doDie ((m_keep G)) p).1)).2)
set_option maxHeartbeats 4000000 in
/-- reference: die -/
theorem c5_die {k : Nat} {G : fS} {f : Int → Int} {B : Int} {h : jH} (hG : jOb sM k G h) (hf : G 0 = f) (hI : kI B (mK f)) (hB : B + 1000 ≤ 20000000) {p : Int} (hp : -2147483648 ≤ p ∧ p ≤ 2147483647) (hp9 : 0 ≤ G 5 0 ∧ G 5 0 ≤ 8) : jM mX5_die 41 0 0 [] [.ref k, iv p] h (jWi sM k (m_die G p) h) jno := by
  refine j_method (by decide +kernel) rfl (fun _ _ _ => trivial) (Nat.le_of_ble_eq_true rfl) ?_
  generalize hZ : jZ [] 0 0 _ _ = Z
  show J mX5_die (jR 41 0 0) [] Z 0 [(0, .ref k), (1, iv p)] [] h 0 0
  subst hf
  have hO := hI.1
  have hA := hI.2.1
  have hn := mK_n hO
  have hb := hO.b
  have hE0 : jEx k 10 h h := jEx.rf
  refine j_aload_n dX5_die_0 rfl rfl ?_
  refine j_callV (c5_keep hG) dX5_die_1 jc_X5_79 jmV_X5_keep rfl rfl hG.1 rfl rfl (by simp) jfr_nil (Nat.le_of_ble_eq_true rfl) ⟨Nat.le_of_ble_eq_true rfl, Nat.le_of_ble_eq_true rfl⟩ ⟨Nat.le_of_ble_eq_true rfl, Nat.le_of_ble_eq_true rfl⟩ (fun r h1 hp9 => ?_) (fun E h9 q => q.elim)
  obtain ⟨rfl, hG2, hX3⟩ := hp9
  have hE4 := hE0.tr hX3
  refine j_aload_n dX5_die_4 rfl rfl ?_
  refine j_aload_n dX5_die_5 rfl rfl ?_
  refine j_iload_n dX5_die_6 rfl rfl ?_
  refine j_callV (c5_doDie hG2 (f := (G 0)) rfl hO hA (by omega)) dX5_die_7 jc_X5_191 jmV_X5_doDie rfl rfl hG2.1 rfl rfl (by simp) jfr_nil (Nat.le_of_ble_eq_true rfl) ⟨Nat.le_of_ble_eq_true rfl, Nat.le_of_ble_eq_true rfl⟩ ⟨Nat.le_of_ble_eq_true rfl, Nat.le_of_ble_eq_true rfl⟩ (fun r h5 hp9 => ?_) (fun E h9 q => q.elim)
  obtain ⟨rfl, hG6, hX7⟩ := hp9
  have hE8 := hE4.tr hX7
  have hr9 := m_doDie_K (G := m_keep G) (p := p) hI
  refine j_callV (c5_ends hG6 (hr9.r5 (by show 0 ≤ G 5 0 ∧ G 5 0 ≤ 8; exact hp9)) (hr9.r6 rfl (by omega))) dX5_die_10 jc_X5_86 jmV_X5_ends rfl rfl hG6.1 rfl rfl (by simp) jfr_nil (Nat.le_of_ble_eq_true rfl) ⟨Nat.le_of_ble_eq_true rfl, Nat.le_of_ble_eq_true rfl⟩ ⟨Nat.le_of_ble_eq_true rfl, Nat.le_of_ble_eq_true rfl⟩ (fun r h9 hp9 => ?_) (fun E h9 q => q.elim)
  obtain ⟨rfl, hG10, hX11⟩ := hp9
  have hE12 := hE8.tr hX11
  subst hZ
  exact j_ireturn dX5_die_13 rfl rfl (jWi.i rfl hG10 hE12) (Nat.le_refl _) (Nat.le_refl _)
