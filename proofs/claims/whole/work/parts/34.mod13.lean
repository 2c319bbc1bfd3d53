noncomputable def m_personOf (G : fS) (p w : Int) : Int × fS := if (bi (0 ≤ p ∧ p < (G 0) 0)) = 0 then (0, gn G 6 1) else if (bi (0 ≤ w ∧ w ≤ 9)) = 0 then (0, gn G 6 2) else if w = 0 then (mK (G 0) 0 p, gn G 6 0) else if w = 1 then (fdep (mK (G 0)) p, gn G 6 0) else if w = 2 then (csum (fun z => bi (mK (G 0) 0 z = p)) ((G 0) 0).toNat, gn G 6 0) else if w = 3 then ((0 : Int) + ((des (mK (G 0)) 24 p).length : Int), m_rows (gn G 6 0) p) else if w = 4 then ((G 0) (29 + p), gn G 6 0) else if w = 5 then ((G 0) (53 + p), gn G 6 0) else if w = 6 then ((G 0) (77 + p), gn G 6 0) else if w = 7 then (frt (mK (G 0)) p, gn G 6 0) else if w = 8 then (fho (mK (G 0)) p, m_tells (gn G 6 0)) else (csum (fun z => bi (mK (G 0) 4 z = p ∨ mK (G 0) 5 z = p)) ((G 0) 1).toNat, gn G 6 0)
set_option maxHeartbeats 4000000 in
/-- reference: personOf -/
theorem c5_personOf {k : Nat} {G : fS} {f : Int → Int} {B : Int} {h : jH} (hG : jOb sM k G h) (hf : G 0 = f) (hO : jOk B (mK f)) (hA : fAc (mK f)) {p w : Int} (hp : -2147483648 ≤ p ∧ p ≤ 2147483647) (hw : -2147483648 ≤ w ∧ w ≤ 2147483647) : jM mX5_personOf 33 0 0 [] [.ref k, iv p, iv w] h (jWi sM k (m_personOf G p w) h) jno := by
  refine j_method (by decide +kernel) rfl (fun _ _ _ => trivial) (Nat.le_of_ble_eq_true rfl) ?_
  generalize hZ : jZ [] 0 0 _ _ = Z
  show J mX5_personOf (jR 33 0 0) [] Z 0 [(0, .ref k), (1, iv p), (2, iv w)] [] h 0 0
  subst hf
  have hn := mK_n hO
  have hb := hO.b
  have hq2 := mK_q hO
  have hE0 : jEx k 10 h h := jEx.rf
  refine j_aload_n dX5_personOf_0 rfl rfl ?_
  refine j_aload_n dX5_personOf_1 rfl rfl ?_
  refine j_iload_n dX5_personOf_2 rfl rfl ?_
  refine j_callV (c5_has hG (f := (G 0)) rfl (by omega) (by omega)) dX5_personOf_3 jc_X5_89 jmV_X5_has rfl rfl hG.1 rfl rfl (by simp) jfr_nil (Nat.le_of_ble_eq_true rfl) ⟨Nat.le_of_ble_eq_true rfl, Nat.le_of_ble_eq_true rfl⟩ ⟨Nat.le_of_ble_eq_true rfl, Nat.le_of_ble_eq_true rfl⟩ (fun r h1 hp9 => ?_) (fun E h9 q => q.elim)
  obtain ⟨rfl, rfl⟩ := hp9
  refine j_if_ne (tgt := 13) dX5_personOf_6 (by decide) (bi_r32 _) (fun c2 => ?_) (fun c2 => ?_)
  · have qc2 := bi_nz c2
    refine j_iload_n dX5_personOf_13 rfl rfl ?_
    refine j_iconst dX5_personOf_14 ?_
    refine j_bipush dX5_personOf_15 (by decide +kernel) ?_
    refine j_callS (c5_in (by omega)) dX5_personOf_17 jc_X5_64 jmS_X5_in rfl rfl rfl (by simp) jfr_nil (Nat.le_of_ble_eq_true rfl) ⟨Nat.le_of_ble_eq_true rfl, Nat.le_of_ble_eq_true rfl⟩ ⟨Nat.le_of_ble_eq_true rfl, Nat.le_of_ble_eq_true rfl⟩ (fun r h3 hp9 => ?_) (fun E h9 q => q.elim)
    obtain ⟨rfl, rfl⟩ := hp9
    refine j_if_ne (tgt := 27) dX5_personOf_20 (by decide) (bi_r32 _) (fun c4 => ?_) (fun c4 => ?_)
    · have qc4 := bi_nz c4
      refine j_iconst dX5_personOf_27 ?_
      refine jo_put (S := sM) dX5_personOf_28 jf_X5_42 (fun q hq => by cases hq; exact ⟨rfl, rfl⟩) (jHold_int _) okM hG rfl (fun h5 hG5 hX5 => ?_)
      have hE6 := hE0.tr hX5
      refine j_aload_n dX5_personOf_31 rfl rfl ?_
      refine j_getfield (v := iv 0) dX5_personOf_32 jf_X5_42 hG5.1 rfl ?_
      refine j_if_le (tgt := 40) dX5_personOf_35 (by decide) (by omega) (fun c7 => ?_) (fun c7 => absurd (by decide) c7)
      refine j_iconst dX5_personOf_40 ?_
      refine j_istore_n (L' := [(0, _), (1, _), (2, _), (3, _)]) dX5_personOf_41 rfl (by decide) rfl ?_
      refine j_iload_n dX5_personOf_42 rfl rfl ?_
      by_cases c8 : w = 0
      · refine j_tabIn (tgt := 92) 0 dX5_personOf_43 c8 (by decide) (by decide) (by decide) rfl (by decide) ?_
        refine j_aload_n dX5_personOf_92 rfl rfl ?_
        refine j_iload_n dX5_personOf_93 rfl rfl ?_
        refine j_callV (c5_parent hG5 (f := (G 0)) rfl hO (by omega)) dX5_personOf_94 jc_X5_68 jmV_X5_parent rfl rfl hG5.1 rfl rfl (by simp) jfr_nil (Nat.le_of_ble_eq_true rfl) ⟨Nat.le_of_ble_eq_true rfl, Nat.le_of_ble_eq_true rfl⟩ ⟨Nat.le_of_ble_eq_true rfl, Nat.le_of_ble_eq_true rfl⟩ (fun r h9 hp9 => ?_) (fun E h9 q => q.elim)
        obtain ⟨rfl, rfl⟩ := hp9
        have hpp9 : -1 ≤ mK (G 0) 0 p ∧ mK (G 0) 0 p < (G 0) 0 := hO.p p
        subst hZ
        exact j_ireturn dX5_personOf_97 rfl rfl (jWi.i ((if_neg c2).trans ((if_neg c4).trans (if_pos c8))) hG5 hE6) (Nat.le_refl _) (Nat.le_refl _)
      by_cases c10 : w = 1
      · refine j_tabIn (tgt := 98) 1 dX5_personOf_43 c10 (by decide) (by decide) (by decide) rfl (by decide) ?_
        refine j_aload_n dX5_personOf_98 rfl rfl ?_
        refine j_iload_n dX5_personOf_99 rfl rfl ?_
        refine j_callV (c5_depth hG5 (f := (G 0)) rfl hO hA (by omega)) dX5_personOf_100 jc_X5_118 jmV_X5_depth rfl rfl hG5.1 rfl rfl (by simp) jfr_nil (Nat.le_of_ble_eq_true rfl) ⟨Nat.le_of_ble_eq_true rfl, Nat.le_of_ble_eq_true rfl⟩ ⟨Nat.le_of_ble_eq_true rfl, Nat.le_of_ble_eq_true rfl⟩ (fun r h11 hp9 => ?_) (fun E h9 q => q.elim)
        obtain ⟨rfl, rfl⟩ := hp9
        have hd9 := fdep_rg (mK (G 0)) p
        subst hZ
        exact j_ireturn dX5_personOf_103 rfl rfl (jWi.i ((if_neg c2).trans ((if_neg c4).trans ((if_neg c8).trans (if_pos c10)))) hG5 hE6) (Nat.le_refl _) (Nat.le_refl _)
      by_cases c12 : w = 2
      · refine j_tabIn (tgt := 104) 2 dX5_personOf_43 c12 (by decide) (by decide) (by decide) rfl (by decide) ?_
        refine j_iconst dX5_personOf_104 ?_
        refine j_istore (L' := [(0, _), (1, _), (2, _), (3, _), (4, _)]) dX5_personOf_105 (by decide) rfl ?_
        refine jloop (P := fun z9 : Int × Int => J mX5_personOf (jR 33 0 0) [] Z 107 [(0, .ref k), (1, iv p), (2, iv w), (3, iv z9.1), (4, iv z9.2)] [] h5 0 0) (fun z9 => 0 ≤ z9.2 ∧ z9.2 ≤ (G 0) 0 ∧ z9.1 = csum (fun z => bi (mK (G 0) 0 z = p)) z9.2.toNat) (fun z9 => ((G 0) 0 - z9.2).toNat) ?_ (0, 0) ?_
        · rintro ⟨a, i⟩ hinv ih
          dsimp only at hinv ih ⊢
          obtain ⟨i1, i2, i3⟩ := hinv
          refine j_iload dX5_personOf_107 rfl ?_
          refine j_aload_n dX5_personOf_109 rfl rfl ?_
          refine j_getfield (v := .ref (k + 1)) dX5_personOf_110 jf_X5_9 hG5.1 rfl ?_
          refine j_iconst dX5_personOf_113 ?_
          refine j_iaload (f := G 0) dX5_personOf_114 (hG5.a 0 1 0 141 rfl) (by omega) (by decide) ?_
          refine j_icmp_ge (tgt := 142) dX5_personOf_115 (by decide) (by omega) (fun c13 => ?_) (fun c13 => ?_)
          · refine j_iload_n dX5_personOf_142 rfl rfl ?_
            subst hZ
            exact j_ireturn dX5_personOf_143 rfl rfl (jWi.i ((((if_neg c2).trans ((if_neg c4).trans ((if_neg c8).trans ((if_neg c10).trans (if_pos c12)))))).trans (by rw [i3, show i = (G 0) 0 by omega])) hG5 hE6) (Nat.le_refl _) (Nat.le_refl _)
          · refine j_iload_n dX5_personOf_118 rfl rfl ?_
            refine j_aload_n dX5_personOf_119 rfl rfl ?_
            refine j_iload dX5_personOf_120 rfl ?_
            refine j_callV (c5_parent hG5 (f := (G 0)) rfl hO (by omega)) dX5_personOf_122 jc_X5_68 jmV_X5_parent rfl rfl hG5.1 rfl rfl (by simp) jfr_nil (Nat.le_of_ble_eq_true rfl) ⟨Nat.le_of_ble_eq_true rfl, Nat.le_of_ble_eq_true rfl⟩ ⟨Nat.le_of_ble_eq_true rfl, Nat.le_of_ble_eq_true rfl⟩ (fun r h14 hp9 => ?_) (fun E h9 q => q.elim)
            obtain ⟨rfl, rfl⟩ := hp9
            have hpp9 : -1 ≤ mK (G 0) 0 i ∧ mK (G 0) 0 i < (G 0) 0 := hO.p i
            refine j_iload_n dX5_personOf_125 rfl rfl ?_
            refine j_icmp_ne (tgt := 133) dX5_personOf_126 (by decide) (by omega) (fun c15 => ?_) (fun c15 => ?_)
            · refine j_iconst dX5_personOf_133 ?_
              refine j_iadd dX5_personOf_134 ?_
              refine j_istore_n (L' := [(0, _), (1, _), (2, _), (3, _), (4, _)]) dX5_personOf_135 rfl (by decide) rfl ?_
              refine j_iinc (L' := [(0, _), (1, _), (2, _), (3, _), (4, _)]) dX5_personOf_136 rfl (by decide) rfl ?_
              refine j_goto (tgt := 107) dX5_personOf_139 (by decide) ?_
              have e9 := csum_s (fun z => bi (mK (G 0) 0 z = p)) i1
              try dsimp only at e9
              first
                | (rw [bi_t (by omega)] at e9; have ih9 := ih (a + 1, i + 1); dsimp only at ih9; exact ih9 ⟨by omega, by omega, by omega⟩ (by omega))
                | (rw [bi_f (by omega)] at e9; have ih9 := ih (a + 0, i + 1); dsimp only at ih9; exact ih9 ⟨by omega, by omega, by omega⟩ (by omega))
            · refine j_iconst dX5_personOf_129 ?_
              refine j_goto (tgt := 134) dX5_personOf_130 (by decide) ?_
              refine j_iadd dX5_personOf_134 ?_
              refine j_istore_n (L' := [(0, _), (1, _), (2, _), (3, _), (4, _)]) dX5_personOf_135 rfl (by decide) rfl ?_
              refine j_iinc (L' := [(0, _), (1, _), (2, _), (3, _), (4, _)]) dX5_personOf_136 rfl (by decide) rfl ?_
              refine j_goto (tgt := 107) dX5_personOf_139 (by decide) ?_
              have e9 := csum_s (fun z => bi (mK (G 0) 0 z = p)) i1
              try dsimp only at e9
              first
                | (rw [bi_t (by omega)] at e9; have ih9 := ih (a + 1, i + 1); dsimp only at ih9; exact ih9 ⟨by omega, by omega, by omega⟩ (by omega))
                | (rw [bi_f (by omega)] at e9; have ih9 := ih (a + 0, i + 1); dsimp only at ih9; exact ih9 ⟨by omega, by omega, by omega⟩ (by omega))
        · dsimp only
          exact ⟨by omega, by omega, rfl⟩
      by_cases c16 : w = 3
      · refine j_tabIn (tgt := 144) 3 dX5_personOf_43 c16 (by decide) (by decide) (by decide) rfl (by decide) ?_
        refine j_aload_n dX5_personOf_144 rfl rfl ?_
        refine j_iload_n dX5_personOf_145 rfl rfl ?_
        refine j_callV (c5_rows hG5 (show _ = G 0 from rfl) hO hA (by omega)) dX5_personOf_146 jc_X5_144 jmV_X5_rows rfl rfl hG5.1 rfl rfl (by simp) jfr_nil (Nat.le_of_ble_eq_true rfl) ⟨Nat.le_of_ble_eq_true rfl, Nat.le_of_ble_eq_true rfl⟩ ⟨Nat.le_of_ble_eq_true rfl, Nat.le_of_ble_eq_true rfl⟩ (fun r h17 hp9 => ?_) (fun E h9 q => q.elim)
        obtain ⟨rfl, hG18, hX19⟩ := hp9
        have hE20 := hE6.tr hX19
        have hln : (des (mK (G 0)) 24 p).length ≤ 24 := des_len hO hA 24 (by omega)
        refine j_aload_n dX5_personOf_149 rfl rfl ?_
        refine j_getfield (v := iv ((0 : Int) + ((des (mK (G 0)) 24 p).length : Int))) dX5_personOf_150 jf_X5_137 hG18.1 rfl ?_
        subst hZ
        exact j_ireturn dX5_personOf_153 rfl rfl (jWi.i ((if_neg c2).trans ((if_neg c4).trans ((if_neg c8).trans ((if_neg c10).trans ((if_neg c12).trans (if_pos c16)))))) hG18 hE20) (Nat.le_refl _) (Nat.le_refl _)
      by_cases c21 : w = 4
      · refine j_tabIn (tgt := 154) 4 dX5_personOf_43 c21 (by decide) (by decide) (by decide) rfl (by decide) ?_
        refine j_aload_n dX5_personOf_154 rfl rfl ?_
        refine j_getfield (v := .ref (k + 1)) dX5_personOf_155 jf_X5_9 hG5.1 rfl ?_
        refine j_bipush dX5_personOf_158 (by decide +kernel) ?_
        refine j_iload_n dX5_personOf_160 rfl rfl ?_
        refine j_iadd dX5_personOf_161 ?_
        refine j_iaload (f := G 0) dX5_personOf_162 (hG5.a 0 1 0 141 rfl) (by omega) (by decide) ?_
        subst hZ
        exact j_ireturn dX5_personOf_163 rfl rfl (jWi.i ((if_neg c2).trans ((if_neg c4).trans ((if_neg c8).trans ((if_neg c10).trans ((if_neg c12).trans ((if_neg c16).trans (if_pos c21))))))) hG5 hE6) (Nat.le_refl _) (Nat.le_refl _)
      by_cases c22 : w = 5
      · refine j_tabIn (tgt := 164) 5 dX5_personOf_43 c22 (by decide) (by decide) (by decide) rfl (by decide) ?_
        refine j_aload_n dX5_personOf_164 rfl rfl ?_
        refine j_getfield (v := .ref (k + 1)) dX5_personOf_165 jf_X5_9 hG5.1 rfl ?_
        refine j_bipush dX5_personOf_168 (by decide +kernel) ?_
        refine j_iload_n dX5_personOf_170 rfl rfl ?_
        refine j_iadd dX5_personOf_171 ?_
        refine j_iaload (f := G 0) dX5_personOf_172 (hG5.a 0 1 0 141 rfl) (by omega) (by decide) ?_
        subst hZ
        exact j_ireturn dX5_personOf_173 rfl rfl (jWi.i ((if_neg c2).trans ((if_neg c4).trans ((if_neg c8).trans ((if_neg c10).trans ((if_neg c12).trans ((if_neg c16).trans ((if_neg c21).trans (if_pos c22)))))))) hG5 hE6) (Nat.le_refl _) (Nat.le_refl _)
      by_cases c23 : w = 6
      · refine j_tabIn (tgt := 174) 6 dX5_personOf_43 c23 (by decide) (by decide) (by decide) rfl (by decide) ?_
        refine j_aload_n dX5_personOf_174 rfl rfl ?_
        refine j_getfield (v := .ref (k + 1)) dX5_personOf_175 jf_X5_9 hG5.1 rfl ?_
        refine j_bipush dX5_personOf_178 (by decide +kernel) ?_
        refine j_iload_n dX5_personOf_180 rfl rfl ?_
        refine j_iadd dX5_personOf_181 ?_
        refine j_iaload (f := G 0) dX5_personOf_182 (hG5.a 0 1 0 141 rfl) (by omega) (by decide) ?_
        subst hZ
        exact j_ireturn dX5_personOf_183 rfl rfl (jWi.i ((if_neg c2).trans ((if_neg c4).trans ((if_neg c8).trans ((if_neg c10).trans ((if_neg c12).trans ((if_neg c16).trans ((if_neg c21).trans ((if_neg c22).trans (if_pos c23))))))))) hG5 hE6) (Nat.le_refl _) (Nat.le_refl _)
      by_cases c24 : w = 7
      · refine j_tabIn (tgt := 184) 7 dX5_personOf_43 c24 (by decide) (by decide) (by decide) rfl (by decide) ?_
        refine j_aload_n dX5_personOf_184 rfl rfl ?_
        refine j_iload_n dX5_personOf_185 rfl rfl ?_
        refine j_callV (c5_rootOf hG5 (f := (G 0)) rfl hO hA (by omega)) dX5_personOf_186 jc_X5_102 jmV_X5_rootOf rfl rfl hG5.1 rfl rfl (by simp) jfr_nil (Nat.le_of_ble_eq_true rfl) ⟨Nat.le_of_ble_eq_true rfl, Nat.le_of_ble_eq_true rfl⟩ ⟨Nat.le_of_ble_eq_true rfl, Nat.le_of_ble_eq_true rfl⟩ (fun r h25 hp9 => ?_) (fun E h9 q => q.elim)
        obtain ⟨rfl, rfl⟩ := hp9
        have hr9 := mfrt hO hA (x := p) (by omega)
        subst hZ
        exact j_ireturn dX5_personOf_189 rfl rfl (jWi.i ((if_neg c2).trans ((if_neg c4).trans ((if_neg c8).trans ((if_neg c10).trans ((if_neg c12).trans ((if_neg c16).trans ((if_neg c21).trans ((if_neg c22).trans ((if_neg c23).trans (if_pos c24)))))))))) hG5 hE6) (Nat.le_refl _) (Nat.le_refl _)
      by_cases c26 : w = 8
      · refine j_tabIn (tgt := 190) 8 dX5_personOf_43 c26 (by decide) (by decide) (by decide) rfl (by decide) ?_
        refine j_aload_n dX5_personOf_190 rfl rfl ?_
        refine j_iload_n dX5_personOf_191 rfl rfl ?_
        refine j_callV (c5_houseOf hG5 (f := (G 0)) rfl hO (by omega)) dX5_personOf_192 jc_X5_176 jmV_X5_houseOf rfl rfl hG5.1 rfl rfl (by simp) jfr_nil (Nat.le_of_ble_eq_true rfl) ⟨Nat.le_of_ble_eq_true rfl, Nat.le_of_ble_eq_true rfl⟩ ⟨Nat.le_of_ble_eq_true rfl, Nat.le_of_ble_eq_true rfl⟩ (fun r h27 hp9 => ?_) (fun E h9 q => q.elim)
        obtain ⟨rfl, hG28, hX29⟩ := hp9
        have hE30 := hE6.tr hX29
        have ho9 := mfho hO (p := p) (by omega)
        subst hZ
        exact j_ireturn dX5_personOf_195 rfl rfl (jWi.i ((if_neg c2).trans ((if_neg c4).trans ((if_neg c8).trans ((if_neg c10).trans ((if_neg c12).trans ((if_neg c16).trans ((if_neg c21).trans ((if_neg c22).trans ((if_neg c23).trans ((if_neg c24).trans (if_pos c26))))))))))) hG28 hE30) (Nat.le_refl _) (Nat.le_refl _)
      refine j_tabOut (tgt := 196) dX5_personOf_43 (by omega) (by omega) (by decide) ?_
      refine j_iconst dX5_personOf_196 ?_
      refine j_istore (L' := [(0, _), (1, _), (2, _), (3, _), (4, _)]) dX5_personOf_197 (by decide) rfl ?_
      refine jloop (P := fun z9 : Int × Int => J mX5_personOf (jR 33 0 0) [] Z 199 [(0, .ref k), (1, iv p), (2, iv w), (3, iv z9.1), (4, iv z9.2)] [] h5 0 0) (fun z9 => 0 ≤ z9.2 ∧ z9.2 ≤ (G 0) 1 ∧ z9.1 = csum (fun z => bi (mK (G 0) 4 z = p ∨ mK (G 0) 5 z = p)) z9.2.toNat) (fun z9 => ((G 0) 1 - z9.2).toNat) ?_ (0, 0) ?_
      · rintro ⟨a, i⟩ hinv ih
        dsimp only at hinv ih ⊢
        obtain ⟨i1, i2, i3⟩ := hinv
        refine j_iload dX5_personOf_199 rfl ?_
        refine j_aload_n dX5_personOf_201 rfl rfl ?_
        refine j_getfield (v := .ref (k + 1)) dX5_personOf_202 jf_X5_9 hG5.1 rfl ?_
        refine j_iconst dX5_personOf_205 ?_
        refine j_iaload (f := G 0) dX5_personOf_206 (hG5.a 0 1 0 141 rfl) (by omega) (by decide) ?_
        refine j_icmp_ge (tgt := 234) dX5_personOf_207 (by decide) (by omega) (fun c31 => ?_) (fun c31 => ?_)
        · refine j_iload_n dX5_personOf_234 rfl rfl ?_
          subst hZ
          exact j_ireturn dX5_personOf_235 rfl rfl (jWi.i ((((if_neg c2).trans ((if_neg c4).trans ((if_neg c8).trans ((if_neg c10).trans ((if_neg c12).trans ((if_neg c16).trans ((if_neg c21).trans ((if_neg c22).trans ((if_neg c23).trans ((if_neg c24).trans (if_neg c26)))))))))))).trans (by rw [i3, show i = (G 0) 1 by omega])) hG5 hE6) (Nat.le_refl _) (Nat.le_refl _)
        · refine j_iload_n dX5_personOf_210 rfl rfl ?_
          refine j_aload_n dX5_personOf_211 rfl rfl ?_
          refine j_iload dX5_personOf_212 rfl ?_
          refine j_iload_n dX5_personOf_214 rfl rfl ?_
          refine j_callV (c5_quarrels hG5 (f := (G 0)) rfl hO (by omega) (by omega)) dX5_personOf_215 jc_X5_179 jmV_X5_quarrels rfl rfl hG5.1 rfl rfl (by simp) jfr_nil (Nat.le_of_ble_eq_true rfl) ⟨Nat.le_of_ble_eq_true rfl, Nat.le_of_ble_eq_true rfl⟩ ⟨Nat.le_of_ble_eq_true rfl, Nat.le_of_ble_eq_true rfl⟩ (fun r h32 hp9 => ?_) (fun E h9 q => q.elim)
          obtain ⟨rfl, rfl⟩ := hp9
          refine j_if_eq (tgt := 225) dX5_personOf_218 (by decide) (bi_r32 _) (fun c33 => ?_) (fun c33 => ?_)
          · have qc33 := bi_z c33
            have qz := bi_z c33
            refine j_iconst dX5_personOf_225 ?_
            refine j_iadd dX5_personOf_226 ?_
            refine j_istore_n (L' := [(0, _), (1, _), (2, _), (3, _), (4, _)]) dX5_personOf_227 rfl (by decide) rfl ?_
            refine j_iinc (L' := [(0, _), (1, _), (2, _), (3, _), (4, _)]) dX5_personOf_228 rfl (by decide) rfl ?_
            refine j_goto (tgt := 199) dX5_personOf_231 (by decide) ?_
            have e9 := csum_s (fun z => bi (mK (G 0) 4 z = p ∨ mK (G 0) 5 z = p)) i1
            try dsimp only at e9
            first
              | (rw [bi_t (by omega)] at e9; have ih9 := ih (a + 1, i + 1); dsimp only at ih9; exact ih9 ⟨by omega, by omega, by omega⟩ (by omega))
              | (rw [bi_f (by omega)] at e9; have ih9 := ih (a + 0, i + 1); dsimp only at ih9; exact ih9 ⟨by omega, by omega, by omega⟩ (by omega))
          · have qc33 := bi_nz c33
            have qz := bi_nz c33
            refine j_iconst dX5_personOf_221 ?_
            refine j_goto (tgt := 226) dX5_personOf_222 (by decide) ?_
            refine j_iadd dX5_personOf_226 ?_
            refine j_istore_n (L' := [(0, _), (1, _), (2, _), (3, _), (4, _)]) dX5_personOf_227 rfl (by decide) rfl ?_
            refine j_iinc (L' := [(0, _), (1, _), (2, _), (3, _), (4, _)]) dX5_personOf_228 rfl (by decide) rfl ?_
            refine j_goto (tgt := 199) dX5_personOf_231 (by decide) ?_
            have e9 := csum_s (fun z => bi (mK (G 0) 4 z = p ∨ mK (G 0) 5 z = p)) i1
            try dsimp only at e9
            first
              | (rw [bi_t (by omega)] at e9; have ih9 := ih (a + 1, i + 1); dsimp only at ih9; exact ih9 ⟨by omega, by omega, by omega⟩ (by omega))
              | (rw [bi_f (by omega)] at e9; have ih9 := ih (a + 0, i + 1); dsimp only at ih9; exact ih9 ⟨by omega, by omega, by omega⟩ (by omega))
      · dsimp only
        exact ⟨by omega, by omega, rfl⟩
    · have qc4 := bi_z c4
      refine j_iconst dX5_personOf_23 ?_
      refine j_goto (tgt := 28) dX5_personOf_24 (by decide) ?_
      refine jo_put (S := sM) dX5_personOf_28 jf_X5_42 (fun q hq => by cases hq; exact ⟨rfl, rfl⟩) (jHold_int _) okM hG rfl (fun h34 hG34 hX34 => ?_)
      have hE35 := hE0.tr hX34
      refine j_aload_n dX5_personOf_31 rfl rfl ?_
      refine j_getfield (v := iv 2) dX5_personOf_32 jf_X5_42 hG34.1 rfl ?_
      refine j_if_le (tgt := 40) dX5_personOf_35 (by decide) (by omega) (fun c36 => absurd c36 (by decide)) (fun c36 => ?_)
      refine j_iconst dX5_personOf_38 ?_
      subst hZ
      exact j_ireturn dX5_personOf_39 rfl rfl (jWi.i ((if_neg c2).trans (if_pos c4)) hG34 hE35) (Nat.le_refl _) (Nat.le_refl _)
  · have qc2 := bi_z c2
    refine j_iconst dX5_personOf_9 ?_
    refine j_goto (tgt := 28) dX5_personOf_10 (by decide) ?_
    refine jo_put (S := sM) dX5_personOf_28 jf_X5_42 (fun q hq => by cases hq; exact ⟨rfl, rfl⟩) (jHold_int _) okM hG rfl (fun h37 hG37 hX37 => ?_)
    have hE38 := hE0.tr hX37
    refine j_aload_n dX5_personOf_31 rfl rfl ?_
    refine j_getfield (v := iv 1) dX5_personOf_32 jf_X5_42 hG37.1 rfl ?_
    refine j_if_le (tgt := 40) dX5_personOf_35 (by decide) (by omega) (fun c39 => absurd c39 (by decide)) (fun c39 => ?_)
    refine j_iconst dX5_personOf_38 ?_
    subst hZ
    exact j_ireturn dX5_personOf_39 rfl rfl (jWi.i (if_pos c2) hG37 hE38) (Nat.le_refl _) (Nat.le_refl _)
/-- the farthest among those above i, so far -/
def farI (F : fS) (p b i : Int) : Prop := 0 ≤ b ∧ b < F 6 0 ∧ frt F p = frt F b ∧ ((b = p ∧ ∀ o, i < o → o < F 6 0 → frt F p = frt F o → faw F p o ≤ 0) ∨ (i < b ∧ 0 < faw F p b ∧ ∀ o, i < o → o < F 6 0 → frt F p = frt F o → faw F p o ≤ faw F p b ∧ (faw F p o = faw F p b → b ≤ o)))
theorem farI.no {F : fS} {p b i : Int} (h : farI F p b i) (hi : frt F p = frt F i → faw F p i ≤ 0 ∨ faw F p i < faw F p b) (h0 : faw F p p = 0) : farI F p b (i - 1) := by
  obtain ⟨a1, a2, a3, a4⟩ := h
  refine ⟨a1, a2, a3, ?_⟩
  rcases a4 with ⟨e, a4⟩ | ⟨e1, e2, a4⟩
  · refine Or.inl ⟨e, fun o o0 o1 o2 => ?_⟩
    by_cases ho : o = i
    · subst ho
      have := hi o2
      rw [e, h0] at this
      omega
    · exact a4 o (by omega) o1 o2
  · refine Or.inr ⟨by omega, e2, fun o o0 o1 o2 => ?_⟩
    by_cases ho : o = i
    · subst ho
      have := hi o2
      exact ⟨by omega, fun q => by omega⟩
    · exact a4 o (by omega) o1 o2
theorem farI.yes {F : fS} {p b i : Int} (h : farI F p b i) (hi : 0 ≤ i ∧ i < F 6 0) (hs : frt F p = frt F i) (hp : 0 < faw F p i) (hb : faw F p b ≤ faw F p i) (h0 : faw F p p = 0) : farI F p i (i - 1) := by
  obtain ⟨a1, a2, a3, a4⟩ := h
  refine ⟨hi.1, hi.2, hs, Or.inr ⟨by omega, hp, fun o o0 o1 o2 => ?_⟩⟩
  by_cases ho : o = i
  · subst ho
    exact ⟨Int.le_refl _, fun _ => Int.le_refl _⟩
  · refine ⟨?_, fun _ => by omega⟩
    rcases a4 with ⟨e, a4⟩ | ⟨e1, e2, a4⟩
    · have := a4 o (by omega) o1 o2; omega
    · have := (a4 o (by omega) o1 o2).1; omega
theorem farI.is {F : fS} {p b : Int} (h : farI F p b (-1)) : isFar F p b := by
  obtain ⟨a1, a2, a3, a4⟩ := h
  refine ⟨a1, a2, a3, ?_⟩
  rcases a4 with ⟨e, a4⟩ | ⟨e1, e2, a4⟩
  · exact Or.inl ⟨e, fun o o0 o1 o2 => a4 o (by omega) o1 o2⟩
  · exact Or.inr ⟨e2, fun o o0 o1 o2 => a4 o (by omega) o1 o2⟩
/-- answers some x, and leaves some state, of which Q holds -/
def jWp (S : jSc) (k : Nat) (Q : Int → fS → Prop) (h : jH) : jPn := fun r h' => ∃ x G', r = some (iv x) ∧ Q x G' ∧ jOb S k G' h' ∧ jEx k S.2.1 h h'
theorem jWp.i {S : jSc} {k : Nat} {Q : Int → fS → Prop} {h h' : jH} {x : Int} {G' : fS} (q : Q x G') (hG : jOb S k G' h') (hE : jEx k S.2.1 h h') : jWp S k Q h (some (iv x)) h' := ⟨x, G', rfl, q, hG, hE⟩
def m_farQ (G : fS) (p : Int) (x : Int) (G' : fS) : Prop := (¬ (0 ≤ p ∧ p < G 0 0) ∧ x = 0 ∧ G' = gn G 6 1) ∨ ((0 ≤ p ∧ p < G 0 0) ∧ G' = gn G 6 0 ∧ isFar (mK (G 0)) p x)
set_option maxHeartbeats 4000000 in
/-- reference: farthest -/
theorem c5_farthest {k : Nat} {G : fS} {f : Int → Int} {B : Int} {h : jH} (hG : jOb sM k G h) (hf : G 0 = f) (hO : jOk B (mK f)) (hA : fAc (mK f)) {p : Int} (hp : -2147483648 ≤ p ∧ p ≤ 2147483647) : jM mX5_farthest 5 0 0 [] [.ref k, iv p] h (jWp sM k (m_farQ G p) h) jno := by
  refine j_method (by decide +kernel) rfl (fun _ _ _ => trivial) (Nat.le_of_ble_eq_true rfl) ?_
  generalize hZ : jZ [] 0 0 _ _ = Z
  show J mX5_farthest (jR 5 0 0) [] Z 0 [(0, .ref k), (1, iv p)] [] h 0 0
  subst hf
  have hn := mK_n hO
  have hb := hO.b
  have hE0 : jEx k 10 h h := jEx.rf
  refine j_aload_n dX5_farthest_0 rfl rfl ?_
  refine j_aload_n dX5_farthest_1 rfl rfl ?_
  refine j_iload_n dX5_farthest_2 rfl rfl ?_
  refine j_callV (c5_has hG (f := (G 0)) rfl (by omega) (by omega)) dX5_farthest_3 jc_X5_89 jmV_X5_has rfl rfl hG.1 rfl rfl (by simp) jfr_nil (Nat.le_of_ble_eq_true rfl) ⟨Nat.le_of_ble_eq_true rfl, Nat.le_of_ble_eq_true rfl⟩ ⟨Nat.le_of_ble_eq_true rfl, Nat.le_of_ble_eq_true rfl⟩ (fun r h1 hp9 => ?_) (fun E h9 q => q.elim)
  obtain ⟨rfl, rfl⟩ := hp9
  refine j_if_eq (tgt := 13) dX5_farthest_6 (by decide) (bi_r32 _) (fun c2 => ?_) (fun c2 => ?_)
  · have qc2 := bi_z c2
    refine j_iconst dX5_farthest_13 ?_
    refine jo_put (S := sM) dX5_farthest_14 jf_X5_42 (fun q hq => by cases hq; exact ⟨rfl, rfl⟩) (jHold_int _) okM hG rfl (fun h3 hG3 hX3 => ?_)
    have hE4 := hE0.tr hX3
    refine j_iload_n dX5_farthest_17 rfl rfl ?_
    refine j_istore_n (L' := [(0, _), (1, _), (2, _)]) dX5_farthest_18 rfl (by decide) rfl ?_
    refine j_aload_n dX5_farthest_19 rfl rfl ?_
    refine j_getfield (v := .ref (k + 1)) dX5_farthest_20 jf_X5_9 hG3.1 rfl ?_
    refine j_iconst dX5_farthest_23 ?_
    refine j_iaload (f := G 0) dX5_farthest_24 (hG3.a 0 1 0 141 rfl) (by omega) (by decide) ?_
    refine j_iconst dX5_farthest_25 ?_
    refine j_isub dX5_farthest_26 ?_
    refine j_istore_n (L' := [(0, _), (1, _), (2, _), (3, _)]) dX5_farthest_27 rfl (by decide) rfl ?_
    refine j_iload_n dX5_farthest_28 rfl rfl ?_
    refine j_if_lt (tgt := 96) dX5_farthest_29 (by decide) (by omega) (fun c5 => ?_) (fun c5 => ?_)
    · refine j_aload_n dX5_farthest_96 rfl rfl ?_
      refine j_getfield (v := iv 1) dX5_farthest_97 jf_X5_42 hG3.1 rfl ?_
      refine j_if_le (tgt := 107) dX5_farthest_100 (by decide) (by omega) (fun c6 => absurd c6 (by decide)) (fun c6 => ?_)
      refine j_iconst dX5_farthest_103 ?_
      refine j_goto (tgt := 108) dX5_farthest_104 (by decide) ?_
      subst hZ
      exact j_ireturn dX5_farthest_108 rfl rfl (jWp.i (Or.inl ⟨qc2, rfl, rfl⟩) hG3 hE4) (Nat.le_refl _) (Nat.le_refl _)
    · refine j_aload_n dX5_farthest_32 rfl rfl ?_
      refine j_getfield (v := iv 1) dX5_farthest_33 jf_X5_42 hG3.1 rfl ?_
      refine j_if_ne (tgt := 96) dX5_farthest_36 (by decide) (by omega) (fun c7 => ?_) (fun c7 => absurd c7 (by decide))
      refine j_aload_n dX5_farthest_96 rfl rfl ?_
      refine j_getfield (v := iv 1) dX5_farthest_97 jf_X5_42 hG3.1 rfl ?_
      refine j_if_le (tgt := 107) dX5_farthest_100 (by decide) (by omega) (fun c8 => absurd c8 (by decide)) (fun c8 => ?_)
      refine j_iconst dX5_farthest_103 ?_
      refine j_goto (tgt := 108) dX5_farthest_104 (by decide) ?_
      subst hZ
      exact j_ireturn dX5_farthest_108 rfl rfl (jWp.i (Or.inl ⟨qc2, rfl, rfl⟩) hG3 hE4) (Nat.le_refl _) (Nat.le_refl _)
  · have qc2 := bi_nz c2
    have hpp : 0 ≤ p ∧ p < G 0 0 := qc2
    refine j_iconst dX5_farthest_9 ?_
    refine j_goto (tgt := 14) dX5_farthest_10 (by decide) ?_
    refine jo_put (S := sM) dX5_farthest_14 jf_X5_42 (fun q hq => by cases hq; exact ⟨rfl, rfl⟩) (jHold_int _) okM hG rfl (fun h9 hG9 hX9 => ?_)
    have hE10 := hE0.tr hX9
    refine j_iload_n dX5_farthest_17 rfl rfl ?_
    refine j_istore_n (L' := [(0, _), (1, _), (2, _)]) dX5_farthest_18 rfl (by decide) rfl ?_
    refine j_aload_n dX5_farthest_19 rfl rfl ?_
    refine j_getfield (v := .ref (k + 1)) dX5_farthest_20 jf_X5_9 hG9.1 rfl ?_
    refine j_iconst dX5_farthest_23 ?_
    refine j_iaload (f := G 0) dX5_farthest_24 (hG9.a 0 1 0 141 rfl) (by omega) (by decide) ?_
    refine j_iconst dX5_farthest_25 ?_
    refine j_isub dX5_farthest_26 ?_
    refine j_istore_n (L' := [(0, _), (1, _), (2, _), (3, _)]) dX5_farthest_27 rfl (by decide) rfl ?_
    refine jloop (P := fun z9 : Int × Int => J mX5_farthest (jR 5 0 0) [] Z 28 [(0, .ref k), (1, iv p), (2, iv z9.1), (3, iv z9.2)] [] h9 0 0) (fun z9 => -1 ≤ z9.2 ∧ z9.2 < G 0 0 ∧ farI (mK (G 0)) p z9.1 z9.2) (fun z9 => (z9.2 + 1).toNat) ?_ (p, G 0 0 - 1) ?_
    · rintro ⟨b, i⟩ hinv ih
      dsimp only at hinv ih ⊢
      obtain ⟨i1, i2, i3⟩ := hinv
      have z0 := faw_self hO hA hpp.1
      have z1 := i3.1
      have z2 : b < G 0 0 := i3.2.1
      have z3 := i3.2.2.1
      refine j_iload_n dX5_farthest_28 rfl rfl ?_
      refine j_if_lt (tgt := 96) dX5_farthest_29 (by decide) (by omega) (fun c11 => ?_) (fun c11 => ?_)
      · refine j_aload_n dX5_farthest_96 rfl rfl ?_
        refine j_getfield (v := iv 0) dX5_farthest_97 jf_X5_42 hG9.1 rfl ?_
        refine j_if_le (tgt := 107) dX5_farthest_100 (by decide) (by omega) (fun c12 => ?_) (fun c12 => absurd (by decide) c12)
        refine j_iload_n dX5_farthest_107 rfl rfl ?_
        subst hZ
        exact j_ireturn dX5_farthest_108 rfl rfl (jWp.i (Or.inr ⟨hpp, rfl, by have e9 : i = -1 := (by omega); rw [e9] at i3; exact i3.is⟩) hG9 hE10) (Nat.le_refl _) (Nat.le_refl _)
      · refine j_aload_n dX5_farthest_32 rfl rfl ?_
        refine j_getfield (v := iv 0) dX5_farthest_33 jf_X5_42 hG9.1 rfl ?_
        refine j_if_ne (tgt := 96) dX5_farthest_36 (by decide) (by omega) (fun c13 => (c13 rfl).elim) (fun c13 => ?_)
        refine j_aload_n dX5_farthest_39 rfl rfl ?_
        refine j_iload_n dX5_farthest_40 rfl rfl ?_
        refine j_iload_n dX5_farthest_41 rfl rfl ?_
        refine j_callV (c5_areOfOne hG9 (f := (G 0)) rfl hO hA (by omega) (by omega)) dX5_farthest_42 jc_X5_131 jmV_X5_areOfOne rfl rfl hG9.1 rfl rfl (by simp) jfr_nil (Nat.le_of_ble_eq_true rfl) ⟨Nat.le_of_ble_eq_true rfl, Nat.le_of_ble_eq_true rfl⟩ ⟨Nat.le_of_ble_eq_true rfl, Nat.le_of_ble_eq_true rfl⟩ (fun r h14 hp9 => ?_) (fun E h9 q => q.elim)
        obtain ⟨rfl, rfl⟩ := hp9
        refine j_if_eq (tgt := 61) dX5_farthest_45 (by decide) (bi_r32 _) (fun c15 => ?_) (fun c15 => ?_)
        · have qc15 := bi_z c15
          have qno := bi_z c15
          refine j_iconst dX5_farthest_61 ?_
          refine j_istore (L' := [(0, _), (1, _), (2, _), (3, _), (4, _)]) dX5_farthest_62 (by decide) rfl ?_
          refine j_iload dX5_farthest_64 rfl ?_
          refine j_if_eq (tgt := 88) dX5_farthest_66 (by decide) (by omega) (fun c16 => ?_) (fun c16 => absurd (by decide) c16)
          refine j_iload_n dX5_farthest_88 rfl rfl ?_
          refine j_istore_n (L' := [(0, _), (1, _), (2, _), (3, _), (4, _)]) dX5_farthest_89 rfl (by decide) rfl ?_
          refine j_iinc (L' := [(0, _), (1, _), (2, _), (3, _), (4, _)]) dX5_farthest_90 rfl (by decide) rfl ?_
          refine j_goto (tgt := 28) dX5_farthest_93 (by decide) ?_
          refine J.keep [0, 1, 2, 3] (L' := [(0, _), (1, _), (2, _), (3, _)]) rfl ?_
          exact ih (b, i - 1) ⟨by show -1 ≤ i - 1; omega, by show i - 1 < G 0 0; omega, i3.no (fun e => by first | (exfalso; exact qno e) | omega) z0⟩ (by show (i - 1 + 1).toNat < (i + 1).toNat; omega)
        · have qc15 := bi_nz c15
          refine j_aload_n dX5_farthest_48 rfl rfl ?_
          refine j_iload_n dX5_farthest_49 rfl rfl ?_
          refine j_iload_n dX5_farthest_50 rfl rfl ?_
          refine j_callV (c5_away hG9 (f := (G 0)) rfl hO hA (by omega) (by omega) (by assumption)) dX5_farthest_51 jc_X5_134 jmV_X5_away rfl rfl hG9.1 rfl rfl (by simp) jfr_nil (Nat.le_of_ble_eq_true rfl) ⟨Nat.le_of_ble_eq_true rfl, Nat.le_of_ble_eq_true rfl⟩ ⟨Nat.le_of_ble_eq_true rfl, Nat.le_of_ble_eq_true rfl⟩ (fun r h17 hp9 => ?_) (fun E h9 q => q.elim)
          obtain ⟨rfl, rfl⟩ := hp9
          have hw9 := faw_rg (mK (G 0)) p i
          refine j_if_le (tgt := 61) dX5_farthest_54 (by decide) (by omega) (fun c18 => ?_) (fun c18 => ?_)
          · refine j_iconst dX5_farthest_61 ?_
            refine j_istore (L' := [(0, _), (1, _), (2, _), (3, _), (4, _)]) dX5_farthest_62 (by decide) rfl ?_
            refine j_iload dX5_farthest_64 rfl ?_
            refine j_if_eq (tgt := 88) dX5_farthest_66 (by decide) (by omega) (fun c19 => ?_) (fun c19 => absurd (by decide) c19)
            refine j_iload_n dX5_farthest_88 rfl rfl ?_
            refine j_istore_n (L' := [(0, _), (1, _), (2, _), (3, _), (4, _)]) dX5_farthest_89 rfl (by decide) rfl ?_
            refine j_iinc (L' := [(0, _), (1, _), (2, _), (3, _), (4, _)]) dX5_farthest_90 rfl (by decide) rfl ?_
            refine j_goto (tgt := 28) dX5_farthest_93 (by decide) ?_
            refine J.keep [0, 1, 2, 3] (L' := [(0, _), (1, _), (2, _), (3, _)]) rfl ?_
            exact ih (b, i - 1) ⟨by show -1 ≤ i - 1; omega, by show i - 1 < G 0 0; omega, i3.no (fun e => by first | (exfalso; exact qno e) | omega) z0⟩ (by show (i - 1 + 1).toNat < (i + 1).toNat; omega)
          · refine j_iconst dX5_farthest_57 ?_
            refine j_goto (tgt := 62) dX5_farthest_58 (by decide) ?_
            refine j_istore (L' := [(0, _), (1, _), (2, _), (3, _), (4, _)]) dX5_farthest_62 (by decide) rfl ?_
            refine j_iload dX5_farthest_64 rfl ?_
            refine j_if_eq (tgt := 88) dX5_farthest_66 (by decide) (by omega) (fun c20 => absurd c20 (by decide)) (fun c20 => ?_)
            refine j_aload_n dX5_farthest_69 rfl rfl ?_
            refine j_iload_n dX5_farthest_70 rfl rfl ?_
            refine j_iload_n dX5_farthest_71 rfl rfl ?_
            refine j_callV (c5_away hG9 (f := (G 0)) rfl hO hA (by omega) (by omega) (by assumption)) dX5_farthest_72 jc_X5_134 jmV_X5_away rfl rfl hG9.1 rfl rfl (by simp) jfr_nil (Nat.le_of_ble_eq_true rfl) ⟨Nat.le_of_ble_eq_true rfl, Nat.le_of_ble_eq_true rfl⟩ ⟨Nat.le_of_ble_eq_true rfl, Nat.le_of_ble_eq_true rfl⟩ (fun r h21 hp9 => ?_) (fun E h9 q => q.elim)
            obtain ⟨rfl, rfl⟩ := hp9
            have hw9 := faw_rg (mK (G 0)) p i
            refine j_aload_n dX5_farthest_75 rfl rfl ?_
            refine j_iload_n dX5_farthest_76 rfl rfl ?_
            refine j_iload_n dX5_farthest_77 rfl rfl ?_
            refine j_callV (c5_away hG9 (f := (G 0)) rfl hO hA (by omega) (by omega) (by assumption)) dX5_farthest_78 jc_X5_134 jmV_X5_away rfl rfl hG9.1 rfl rfl (by simp) jfr_nil (Nat.le_of_ble_eq_true rfl) ⟨Nat.le_of_ble_eq_true rfl, Nat.le_of_ble_eq_true rfl⟩ ⟨Nat.le_of_ble_eq_true rfl, Nat.le_of_ble_eq_true rfl⟩ (fun r h22 hp9 => ?_) (fun E h9 q => q.elim)
            obtain ⟨rfl, rfl⟩ := hp9
            have hw9 := faw_rg (mK (G 0)) p b
            refine j_icmp_lt (tgt := 88) dX5_farthest_81 (by decide) (by omega) (fun c23 => ?_) (fun c23 => ?_)
            · refine j_iload_n dX5_farthest_88 rfl rfl ?_
              refine j_istore_n (L' := [(0, _), (1, _), (2, _), (3, _), (4, _)]) dX5_farthest_89 rfl (by decide) rfl ?_
              refine j_iinc (L' := [(0, _), (1, _), (2, _), (3, _), (4, _)]) dX5_farthest_90 rfl (by decide) rfl ?_
              refine j_goto (tgt := 28) dX5_farthest_93 (by decide) ?_
              refine J.keep [0, 1, 2, 3] (L' := [(0, _), (1, _), (2, _), (3, _)]) rfl ?_
              exact ih (b, i - 1) ⟨by show -1 ≤ i - 1; omega, by show i - 1 < G 0 0; omega, i3.no (fun e => by first | (exfalso; exact qno e) | omega) z0⟩ (by show (i - 1 + 1).toNat < (i + 1).toNat; omega)
            · refine j_iload_n dX5_farthest_84 rfl rfl ?_
              refine j_goto (tgt := 89) dX5_farthest_85 (by decide) ?_
              refine j_istore_n (L' := [(0, _), (1, _), (2, _), (3, _), (4, _)]) dX5_farthest_89 rfl (by decide) rfl ?_
              refine j_iinc (L' := [(0, _), (1, _), (2, _), (3, _), (4, _)]) dX5_farthest_90 rfl (by decide) rfl ?_
              refine j_goto (tgt := 28) dX5_farthest_93 (by decide) ?_
              refine J.keep [0, 1, 2, 3] (L' := [(0, _), (1, _), (2, _), (3, _)]) rfl ?_
              exact ih (i, i - 1) ⟨by show -1 ≤ i - 1; omega, by show i - 1 < G 0 0; omega, i3.yes ⟨by omega, i2⟩ (by assumption) (by omega) (by omega) z0⟩ (by show (i - 1 + 1).toNat < (i + 1).toNat; omega)
    · dsimp only
      exact ⟨by omega, by omega, hpp.1, hpp.2, rfl, Or.inl ⟨rfl, fun o o0 o1 => by have o1 : o < G 0 0 := o1; omega⟩⟩
