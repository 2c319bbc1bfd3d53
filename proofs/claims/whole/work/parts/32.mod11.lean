/-- whether p and o quarrel, from the place i on, within k -/
def mdq (K : fS) (p o : Int) : Nat → Int → Bool
  | 0, _ => false
  | k + 1, i => (decide (K 4 i = p ∨ K 5 i = p) && decide (K 4 i = o ∨ K 5 i = o)) || mdq K p o k (i + 1)
theorem mdq_t {K : fS} {p o i : Int} {k : Nat} (h1 : K 4 i = p ∨ K 5 i = p) (h2 : K 4 i = o ∨ K 5 i = o) : mdq K p o (k + 1) i = true := by
  show ((decide (K 4 i = p ∨ K 5 i = p) && decide (K 4 i = o ∨ K 5 i = o)) || _) = true
  rw [decide_eq_true h1, decide_eq_true h2]
  rfl
theorem mdq_f {K : fS} {p o i : Int} {k : Nat} (h : ¬ ((K 4 i = p ∨ K 5 i = p) ∧ (K 4 i = o ∨ K 5 i = o))) : mdq K p o (k + 1) i = mdq K p o k (i + 1) := by
  show ((decide (K 4 i = p ∨ K 5 i = p) && decide (K 4 i = o ∨ K 5 i = o)) || _) = _
  by_cases h1 : K 4 i = p ∨ K 5 i = p
  · rw [decide_eq_false fun q => h ⟨h1, q⟩, Bool.and_false, Bool.false_or]
  · rw [decide_eq_false h1, Bool.false_and, Bool.false_or]
noncomputable def m_doQuarrel (G : fS) (p o : Int) : Int × fS := if (bi (0 ≤ p ∧ p < (G 0) 0)) = 0 then ((m_fails G 1).1, (m_fails G 1).2) else if (bi (0 ≤ o ∧ o < (G 0) 0)) = 0 then ((m_fails G 1).1, (m_fails G 1).2) else if (mK (G 0) 3 p) = 0 then ((m_refuse G 2 2 p).1, (m_refuse G 2 2 p).2) else if (mK (G 0) 3 o) = 0 then ((m_refuse G 2 2 o).1, (m_refuse G 2 2 o).2) else if (fho (mK (G 0)) p) = (fho (mK (G 0)) o) then ((m_refuse (m_tells (m_tells (m_tells G))) 2 9 (fho (mK (G 0)) p)).1, (m_refuse (m_tells (m_tells (m_tells G))) 2 9 (fho (mK (G 0)) p)).2) else if mdq (mK (G 0)) p o ((G 0) 1).toNat 0 = true then ((m_refuse (m_tells (m_tells G)) 2 10 ((G 0) 1)).1, (m_refuse (m_tells (m_tells G)) 2 10 ((G 0) 1)).2) else if ((G 0) 1) = 20 then ((m_refuse (m_tells (m_tells G)) 2 1 20).1, (m_refuse (m_tells (m_tells G)) 2 1 20).2) else (((G 0) 1) + 1, gs (m_tells (m_tells G)) 0 (jfu (jfu (jfu (G 0) (101 + (2 * ((G 0) 1))) p) ((101 + (2 * ((G 0) 1))) + 1) o) 1 (((jfu (jfu (G 0) (101 + (2 * ((G 0) 1))) p) ((101 + (2 * ((G 0) 1))) + 1) o) 1) + 1)))
set_option maxHeartbeats 4000000 in
/-- reference: doQuarrel -/
theorem c5_doQuarrel {k : Nat} {G : fS} {f : Int → Int} {B : Int} {h : jH} (hG : jOb sM k G h) (hf : G 0 = f) (hO : jOk B (mK f)) {p o : Int} (hp : -2147483648 ≤ p ∧ p ≤ 2147483647) (ho : -2147483648 ≤ o ∧ o ≤ 2147483647) : jM mX5_doQuarrel 5 0 0 [] [.ref k, iv p, iv o] h (jWi sM k (m_doQuarrel G p o) h) jno := by
  refine j_method (by decide +kernel) rfl (fun _ _ _ => trivial) (Nat.le_of_ble_eq_true rfl) ?_
  generalize hZ : jZ [] 0 0 _ _ = Z
  show J mX5_doQuarrel (jR 5 0 0) [] Z 0 [(0, .ref k), (1, iv p), (2, iv o)] [] h 0 0
  subst hf
  have hn := mK_n hO
  have hb := hO.b
  have hq2 := mK_q hO
  have hE0 : jEx k 10 h h := jEx.rf
  refine j_aload_n dX5_doQuarrel_0 rfl rfl ?_
  refine j_iload_n dX5_doQuarrel_1 rfl rfl ?_
  refine j_callV (c5_has hG (f := (G 0)) rfl (by omega) (by omega)) dX5_doQuarrel_2 jc_X5_89 jmV_X5_has rfl rfl hG.1 rfl rfl (by simp) jfr_nil (Nat.le_of_ble_eq_true rfl) ⟨Nat.le_of_ble_eq_true rfl, Nat.le_of_ble_eq_true rfl⟩ ⟨Nat.le_of_ble_eq_true rfl, Nat.le_of_ble_eq_true rfl⟩ (fun r h1 hp9 => ?_) (fun E h9 q => q.elim)
  obtain ⟨rfl, rfl⟩ := hp9
  refine j_if_eq (tgt := 16) dX5_doQuarrel_5 (by decide) (bi_r32 _) (fun c2 => ?_) (fun c2 => ?_)
  · have qc2 := bi_z c2
    refine j_aload_n dX5_doQuarrel_16 rfl rfl ?_
    refine j_iconst dX5_doQuarrel_17 ?_
    refine j_callV (c5_fails hG) dX5_doQuarrel_18 jc_X5_93 jmV_X5_fails rfl rfl hG.1 rfl rfl (by simp) jfr_nil (Nat.le_of_ble_eq_true rfl) ⟨Nat.le_of_ble_eq_true rfl, Nat.le_of_ble_eq_true rfl⟩ ⟨Nat.le_of_ble_eq_true rfl, Nat.le_of_ble_eq_true rfl⟩ (fun r h3 hp9 => ?_) (fun E h9 q => q.elim)
    obtain ⟨rfl, hG4, hX5⟩ := hp9
    have hE6 := hE0.tr hX5
    subst hZ
    exact j_ireturn dX5_doQuarrel_21 rfl rfl (jWi.i (if_pos c2) hG4 hE6) (Nat.le_refl _) (Nat.le_refl _)
  · have qc2 := bi_nz c2
    refine j_aload_n dX5_doQuarrel_8 rfl rfl ?_
    refine j_iload_n dX5_doQuarrel_9 rfl rfl ?_
    refine j_callV (c5_has hG (f := (G 0)) rfl (by omega) (by omega)) dX5_doQuarrel_10 jc_X5_89 jmV_X5_has rfl rfl hG.1 rfl rfl (by simp) jfr_nil (Nat.le_of_ble_eq_true rfl) ⟨Nat.le_of_ble_eq_true rfl, Nat.le_of_ble_eq_true rfl⟩ ⟨Nat.le_of_ble_eq_true rfl, Nat.le_of_ble_eq_true rfl⟩ (fun r h7 hp9 => ?_) (fun E h9 q => q.elim)
    obtain ⟨rfl, rfl⟩ := hp9
    refine j_if_ne (tgt := 22) dX5_doQuarrel_13 (by decide) (bi_r32 _) (fun c8 => ?_) (fun c8 => ?_)
    · have qc8 := bi_nz c8
      refine j_aload_n dX5_doQuarrel_22 rfl rfl ?_
      refine j_iload_n dX5_doQuarrel_23 rfl rfl ?_
      refine j_callV (c5_lives hG (f := (G 0)) rfl hO (by omega)) dX5_doQuarrel_24 jc_X5_96 jmV_X5_lives rfl rfl hG.1 rfl rfl (by simp) jfr_nil (Nat.le_of_ble_eq_true rfl) ⟨Nat.le_of_ble_eq_true rfl, Nat.le_of_ble_eq_true rfl⟩ ⟨Nat.le_of_ble_eq_true rfl, Nat.le_of_ble_eq_true rfl⟩ (fun r h9 hp9 => ?_) (fun E h9 q => q.elim)
      obtain ⟨rfl, rfl⟩ := hp9
      have hl9 := hO.l p
      refine j_if_eq (tgt := 38) dX5_doQuarrel_27 (by decide) (by omega) (fun c10 => ?_) (fun c10 => ?_)
      · refine j_aload_n dX5_doQuarrel_38 rfl rfl ?_
        refine j_iconst dX5_doQuarrel_39 ?_
        refine j_iconst dX5_doQuarrel_40 ?_
        refine j_aload_n dX5_doQuarrel_41 rfl rfl ?_
        refine j_iload_n dX5_doQuarrel_42 rfl rfl ?_
        refine j_callV (c5_lives hG (f := (G 0)) rfl hO (by omega)) dX5_doQuarrel_43 jc_X5_96 jmV_X5_lives rfl rfl hG.1 rfl rfl (by simp) jfr_nil (Nat.le_of_ble_eq_true rfl) ⟨Nat.le_of_ble_eq_true rfl, Nat.le_of_ble_eq_true rfl⟩ ⟨Nat.le_of_ble_eq_true rfl, Nat.le_of_ble_eq_true rfl⟩ (fun r h11 hp9 => ?_) (fun E h9 q => q.elim)
        obtain ⟨rfl, rfl⟩ := hp9
        have hl9 := hO.l p
        refine j_if_eq (tgt := 53) dX5_doQuarrel_46 (by decide) (by omega) (fun c12 => ?_) (fun c12 => (False.elim (by omega)))
        refine j_iload_n dX5_doQuarrel_53 rfl rfl ?_
        refine j_callV (c5_refuse hG) dX5_doQuarrel_54 jc_X5_72 jmV_X5_refuse rfl rfl hG.1 rfl rfl (by simp) jfr_nil (Nat.le_of_ble_eq_true rfl) ⟨Nat.le_of_ble_eq_true rfl, Nat.le_of_ble_eq_true rfl⟩ ⟨Nat.le_of_ble_eq_true rfl, Nat.le_of_ble_eq_true rfl⟩ (fun r h13 hp9 => ?_) (fun E h9 q => q.elim)
        obtain ⟨rfl, hG14, hX15⟩ := hp9
        have hE16 := hE0.tr hX15
        subst hZ
        exact j_ireturn dX5_doQuarrel_57 rfl rfl (jWi.i ((if_neg c2).trans ((if_neg c8).trans (if_pos c10))) hG14 hE16) (Nat.le_refl _) (Nat.le_refl _)
      · refine j_aload_n dX5_doQuarrel_30 rfl rfl ?_
        refine j_iload_n dX5_doQuarrel_31 rfl rfl ?_
        refine j_callV (c5_lives hG (f := (G 0)) rfl hO (by omega)) dX5_doQuarrel_32 jc_X5_96 jmV_X5_lives rfl rfl hG.1 rfl rfl (by simp) jfr_nil (Nat.le_of_ble_eq_true rfl) ⟨Nat.le_of_ble_eq_true rfl, Nat.le_of_ble_eq_true rfl⟩ ⟨Nat.le_of_ble_eq_true rfl, Nat.le_of_ble_eq_true rfl⟩ (fun r h17 hp9 => ?_) (fun E h9 q => q.elim)
        obtain ⟨rfl, rfl⟩ := hp9
        have hl9 := hO.l o
        refine j_if_ne (tgt := 58) dX5_doQuarrel_35 (by decide) (by omega) (fun c18 => ?_) (fun c18 => ?_)
        · refine j_aload_n dX5_doQuarrel_58 rfl rfl ?_
          refine j_getfield (v := .ref (k + 1)) dX5_doQuarrel_59 jf_X5_9 hG.1 rfl ?_
          refine j_iconst dX5_doQuarrel_62 ?_
          refine j_iaload (f := G 0) dX5_doQuarrel_63 (hG.a 0 1 0 141 rfl) (by omega) (by decide) ?_
          refine j_istore_n (L' := [(0, _), (1, _), (2, _), (3, _)]) dX5_doQuarrel_64 rfl (by decide) rfl ?_
          refine j_aload_n dX5_doQuarrel_65 rfl rfl ?_
          refine j_iload_n dX5_doQuarrel_66 rfl rfl ?_
          refine j_callV (c5_houseOf hG (f := (G 0)) rfl hO (by omega)) dX5_doQuarrel_67 jc_X5_176 jmV_X5_houseOf rfl rfl hG.1 rfl rfl (by simp) jfr_nil (Nat.le_of_ble_eq_true rfl) ⟨Nat.le_of_ble_eq_true rfl, Nat.le_of_ble_eq_true rfl⟩ ⟨Nat.le_of_ble_eq_true rfl, Nat.le_of_ble_eq_true rfl⟩ (fun r h19 hp9 => ?_) (fun E h9 q => q.elim)
          obtain ⟨rfl, hG20, hX21⟩ := hp9
          have hE22 := hE0.tr hX21
          have ho9 := mfho hO (p := p) (by omega)
          refine j_aload_n dX5_doQuarrel_70 rfl rfl ?_
          refine j_iload_n dX5_doQuarrel_71 rfl rfl ?_
          refine j_callV (c5_houseOf hG20 (f := (G 0)) rfl hO (by omega)) dX5_doQuarrel_72 jc_X5_176 jmV_X5_houseOf rfl rfl hG20.1 rfl rfl (by simp) jfr_nil (Nat.le_of_ble_eq_true rfl) ⟨Nat.le_of_ble_eq_true rfl, Nat.le_of_ble_eq_true rfl⟩ ⟨Nat.le_of_ble_eq_true rfl, Nat.le_of_ble_eq_true rfl⟩ (fun r h23 hp9 => ?_) (fun E h9 q => q.elim)
          obtain ⟨rfl, hG24, hX25⟩ := hp9
          have hE26 := hE22.tr hX25
          have ho9 := mfho hO (p := o) (by omega)
          refine j_icmp_ne (tgt := 91) dX5_doQuarrel_75 (by decide) (by omega) (fun c27 => ?_) (fun c27 => ?_)
          · refine j_iconst dX5_doQuarrel_91 ?_
            refine j_istore (L' := [(0, _), (1, _), (2, _), (3, _), (4, _)]) dX5_doQuarrel_92 (by decide) rfl ?_
            refine jloop (P := fun z9 : Int => J mX5_doQuarrel (jR 5 0 0) [] Z 94 [(0, .ref k), (1, iv p), (2, iv o), (3, iv ((G 0) 1)), (4, iv z9)] [] h23 0 0) (fun z9 => 0 ≤ z9 ∧ z9 ≤ (G 0) 1 ∧ mdq (mK (G 0)) p o ((G 0) 1).toNat 0 = mdq (mK (G 0)) p o ((G 0) 1 - z9).toNat z9) (fun z9 => ((G 0) 1 - z9).toNat) ?_ 0 ?_
            · rintro i hinv ih
              obtain ⟨i1, i2, i3⟩ := hinv
              refine j_iload dX5_doQuarrel_94 rfl ?_
              refine j_iload_n dX5_doQuarrel_96 rfl rfl ?_
              refine j_icmp_ge (tgt := 135) dX5_doQuarrel_97 (by decide) (by omega) (fun c28 => ?_) (fun c28 => ?_)
              · have hmq : ¬ (mdq (mK (G 0)) p o ((G 0) 1).toNat 0 = true) := by rw [i3, show ((G 0) 1 - i).toNat = 0 by omega]; exact fun q => by cases q
                refine j_iload_n dX5_doQuarrel_135 rfl rfl ?_
                refine j_bipush dX5_doQuarrel_136 (by decide +kernel) ?_
                refine j_icmp_ne (tgt := 150) dX5_doQuarrel_138 (by decide) (by omega) (fun c29 => ?_) (fun c29 => ?_)
                · refine j_aload_n dX5_doQuarrel_150 rfl rfl ?_
                  refine j_getfield (v := .ref (k + 1)) dX5_doQuarrel_151 jf_X5_9 hG24.1 rfl ?_
                  refine j_bipush dX5_doQuarrel_154 (by decide +kernel) ?_
                  refine j_iconst dX5_doQuarrel_156 ?_
                  refine j_iload_n dX5_doQuarrel_157 rfl rfl ?_
                  refine j_imul dX5_doQuarrel_158 ?_
                  refine j_iadd dX5_doQuarrel_159 ?_
                  refine j_iload_n dX5_doQuarrel_160 rfl rfl ?_
                  refine jo_ias (S := sM) (k := k) dX5_doQuarrel_161 okM hG24 (i := 0) (p := 1) rfl (by omega) (by decide) (fun h30 hG30 hX30 => ?_)
                  have hE31 := hE26.tr hX30
                  refine j_aload_n dX5_doQuarrel_162 rfl rfl ?_
                  refine j_getfield (v := .ref (k + 1)) dX5_doQuarrel_163 jf_X5_9 hG30.1 rfl ?_
                  refine j_bipush dX5_doQuarrel_166 (by decide +kernel) ?_
                  refine j_iconst dX5_doQuarrel_168 ?_
                  refine j_iload_n dX5_doQuarrel_169 rfl rfl ?_
                  refine j_imul dX5_doQuarrel_170 ?_
                  refine j_iadd dX5_doQuarrel_171 ?_
                  refine j_iconst dX5_doQuarrel_172 ?_
                  refine j_iadd dX5_doQuarrel_173 ?_
                  refine j_iload_n dX5_doQuarrel_174 rfl rfl ?_
                  refine jo_ias (S := sM) (k := k) dX5_doQuarrel_175 okM hG30 (i := 0) (p := 1) rfl (by omega) (by decide) (fun h32 hG32 hX32 => ?_)
                  have hE33 := hE31.tr hX32
                  have hG34 : jOb sM k (gs (m_tells (m_tells G)) 0 (jfu (jfu (G 0) (101 + (2 * ((G 0) 1))) p) ((101 + (2 * ((G 0) 1))) + 1) o)) h32 := Eq.mp (congrArg (fun z => jOb sM k z _) gs_gs) hG32
                  refine j_aload_n dX5_doQuarrel_176 rfl rfl ?_
                  refine j_getfield (v := .ref (k + 1)) dX5_doQuarrel_177 jf_X5_9 hG34.1 rfl ?_
                  refine j_iconst dX5_doQuarrel_180 ?_
                  refine j_dup2 dX5_doQuarrel_181 rfl rfl ?_
                  refine j_iaload (f := jfu (jfu (G 0) (101 + (2 * ((G 0) 1))) p) ((101 + (2 * ((G 0) 1))) + 1) o) dX5_doQuarrel_182 (hG34.a 0 1 0 141 rfl) (by omega) (by decide) ?_
                  refine j_iconst dX5_doQuarrel_183 ?_
                  refine j_iadd dX5_doQuarrel_184 ?_
                  refine jo_ias (S := sM) (k := k) dX5_doQuarrel_185 okM hG34 (i := 0) (p := 1) rfl (by omega) (by decide) (fun h35 hG35 hX35 => ?_)
                  have hE36 := hE33.tr hX35
                  have hG37 : jOb sM k (gs (m_tells (m_tells G)) 0 (jfu (jfu (jfu (G 0) (101 + (2 * ((G 0) 1))) p) ((101 + (2 * ((G 0) 1))) + 1) o) 1 (((jfu (jfu (G 0) (101 + (2 * ((G 0) 1))) p) ((101 + (2 * ((G 0) 1))) + 1) o) 1) + 1))) h35 := Eq.mp (congrArg (fun z => jOb sM k z _) gs_gs) hG35
                  refine j_iload_n dX5_doQuarrel_186 rfl rfl ?_
                  refine j_iconst dX5_doQuarrel_187 ?_
                  refine j_iadd dX5_doQuarrel_188 ?_
                  subst hZ
                  exact j_ireturn dX5_doQuarrel_189 rfl rfl (jWi.i ((if_neg c2).trans ((if_neg c8).trans ((if_neg c10).trans ((if_neg c18).trans ((if_neg c27).trans ((if_neg hmq).trans (if_neg c29))))))) hG37 hE36) (Nat.le_refl _) (Nat.le_refl _)
                · refine j_aload_n dX5_doQuarrel_141 rfl rfl ?_
                  refine j_iconst dX5_doQuarrel_142 ?_
                  refine j_iconst dX5_doQuarrel_143 ?_
                  refine j_bipush dX5_doQuarrel_144 (by decide +kernel) ?_
                  refine j_callV (c5_refuse hG24) dX5_doQuarrel_146 jc_X5_72 jmV_X5_refuse rfl rfl hG24.1 rfl rfl (by simp) jfr_nil (Nat.le_of_ble_eq_true rfl) ⟨Nat.le_of_ble_eq_true rfl, Nat.le_of_ble_eq_true rfl⟩ ⟨Nat.le_of_ble_eq_true rfl, Nat.le_of_ble_eq_true rfl⟩ (fun r h38 hp9 => ?_) (fun E h9 q => q.elim)
                  obtain ⟨rfl, hG39, hX40⟩ := hp9
                  have hE41 := hE26.tr hX40
                  subst hZ
                  exact j_ireturn dX5_doQuarrel_149 rfl rfl (jWi.i ((if_neg c2).trans ((if_neg c8).trans ((if_neg c10).trans ((if_neg c18).trans ((if_neg c27).trans ((if_neg hmq).trans (if_pos c29))))))) hG39 hE41) (Nat.le_refl _) (Nat.le_refl _)
              · refine j_aload_n dX5_doQuarrel_100 rfl rfl ?_
                refine j_iload dX5_doQuarrel_101 rfl ?_
                refine j_iload_n dX5_doQuarrel_103 rfl rfl ?_
                refine j_callV (c5_quarrels hG24 (f := (G 0)) rfl hO (by omega) (by omega)) dX5_doQuarrel_104 jc_X5_179 jmV_X5_quarrels rfl rfl hG24.1 rfl rfl (by simp) jfr_nil (Nat.le_of_ble_eq_true rfl) ⟨Nat.le_of_ble_eq_true rfl, Nat.le_of_ble_eq_true rfl⟩ ⟨Nat.le_of_ble_eq_true rfl, Nat.le_of_ble_eq_true rfl⟩ (fun r h42 hp9 => ?_) (fun E h9 q => q.elim)
                obtain ⟨rfl, rfl⟩ := hp9
                refine j_if_eq (tgt := 129) dX5_doQuarrel_107 (by decide) (bi_r32 _) (fun c43 => ?_) (fun c43 => ?_)
                · have qc43 := bi_z c43
                  have qn1 := bi_z c43
                  refine j_iinc (L' := [(0, _), (1, _), (2, _), (3, _), (4, _)]) dX5_doQuarrel_129 rfl (by decide) rfl ?_
                  refine j_goto (tgt := 94) dX5_doQuarrel_132 (by decide) ?_
                  have e9 : mdq (mK (G 0)) p o ((G 0) 1 - i).toNat i = mdq (mK (G 0)) p o ((G 0) 1 - (i + 1)).toNat (i + 1) := by rw [fsuc (by omega : i < (G 0) 1)]; exact mdq_f (fun q => by first | exact qn1 q.1 | exact qn2 q.2)
                  exact ih (i + 1) ⟨by omega, by omega, by rw [i3, e9]⟩ (by omega)
                · have qc43 := bi_nz c43
                  have qp1 := bi_nz c43
                  refine j_aload_n dX5_doQuarrel_110 rfl rfl ?_
                  refine j_iload dX5_doQuarrel_111 rfl ?_
                  refine j_iload_n dX5_doQuarrel_113 rfl rfl ?_
                  refine j_callV (c5_quarrels hG24 (f := (G 0)) rfl hO (by omega) (by omega)) dX5_doQuarrel_114 jc_X5_179 jmV_X5_quarrels rfl rfl hG24.1 rfl rfl (by simp) jfr_nil (Nat.le_of_ble_eq_true rfl) ⟨Nat.le_of_ble_eq_true rfl, Nat.le_of_ble_eq_true rfl⟩ ⟨Nat.le_of_ble_eq_true rfl, Nat.le_of_ble_eq_true rfl⟩ (fun r h44 hp9 => ?_) (fun E h9 q => q.elim)
                  obtain ⟨rfl, rfl⟩ := hp9
                  refine j_if_eq (tgt := 129) dX5_doQuarrel_117 (by decide) (bi_r32 _) (fun c45 => ?_) (fun c45 => ?_)
                  · have qc45 := bi_z c45
                    have qn2 := bi_z c45
                    refine j_iinc (L' := [(0, _), (1, _), (2, _), (3, _), (4, _)]) dX5_doQuarrel_129 rfl (by decide) rfl ?_
                    refine j_goto (tgt := 94) dX5_doQuarrel_132 (by decide) ?_
                    have e9 : mdq (mK (G 0)) p o ((G 0) 1 - i).toNat i = mdq (mK (G 0)) p o ((G 0) 1 - (i + 1)).toNat (i + 1) := by rw [fsuc (by omega : i < (G 0) 1)]; exact mdq_f (fun q => by first | exact qn1 q.1 | exact qn2 q.2)
                    exact ih (i + 1) ⟨by omega, by omega, by rw [i3, e9]⟩ (by omega)
                  · have qc45 := bi_nz c45
                    have hmq : mdq (mK (G 0)) p o ((G 0) 1).toNat 0 = true := by rw [i3, fsuc (by omega : i < (G 0) 1)]; exact mdq_t qp1 (bi_nz c45)
                    refine j_aload_n dX5_doQuarrel_120 rfl rfl ?_
                    refine j_iconst dX5_doQuarrel_121 ?_
                    refine j_bipush dX5_doQuarrel_122 (by decide +kernel) ?_
                    refine j_iload_n dX5_doQuarrel_124 rfl rfl ?_
                    refine j_callV (c5_refuse hG24) dX5_doQuarrel_125 jc_X5_72 jmV_X5_refuse rfl rfl hG24.1 rfl rfl (by simp) jfr_nil (Nat.le_of_ble_eq_true rfl) ⟨Nat.le_of_ble_eq_true rfl, Nat.le_of_ble_eq_true rfl⟩ ⟨Nat.le_of_ble_eq_true rfl, Nat.le_of_ble_eq_true rfl⟩ (fun r h46 hp9 => ?_) (fun E h9 q => q.elim)
                    obtain ⟨rfl, hG47, hX48⟩ := hp9
                    have hE49 := hE26.tr hX48
                    subst hZ
                    exact j_ireturn dX5_doQuarrel_128 rfl rfl (jWi.i ((if_neg c2).trans ((if_neg c8).trans ((if_neg c10).trans ((if_neg c18).trans ((if_neg c27).trans (if_pos hmq)))))) hG47 hE49) (Nat.le_refl _) (Nat.le_refl _)
            · exact ⟨by omega, by omega, by rw [Int.sub_zero]⟩
          · refine j_aload_n dX5_doQuarrel_78 rfl rfl ?_
            refine j_iconst dX5_doQuarrel_79 ?_
            refine j_bipush dX5_doQuarrel_80 (by decide +kernel) ?_
            refine j_aload_n dX5_doQuarrel_82 rfl rfl ?_
            refine j_iload_n dX5_doQuarrel_83 rfl rfl ?_
            refine j_callV (c5_houseOf hG24 (f := (G 0)) rfl hO (by omega)) dX5_doQuarrel_84 jc_X5_176 jmV_X5_houseOf rfl rfl hG24.1 rfl rfl (by simp) jfr_nil (Nat.le_of_ble_eq_true rfl) ⟨Nat.le_of_ble_eq_true rfl, Nat.le_of_ble_eq_true rfl⟩ ⟨Nat.le_of_ble_eq_true rfl, Nat.le_of_ble_eq_true rfl⟩ (fun r h50 hp9 => ?_) (fun E h9 q => q.elim)
            obtain ⟨rfl, hG51, hX52⟩ := hp9
            have hE53 := hE26.tr hX52
            have ho9 := mfho hO (p := p) (by omega)
            refine j_callV (c5_refuse hG51) dX5_doQuarrel_87 jc_X5_72 jmV_X5_refuse rfl rfl hG51.1 rfl rfl (by simp) jfr_nil (Nat.le_of_ble_eq_true rfl) ⟨Nat.le_of_ble_eq_true rfl, Nat.le_of_ble_eq_true rfl⟩ ⟨Nat.le_of_ble_eq_true rfl, Nat.le_of_ble_eq_true rfl⟩ (fun r h54 hp9 => ?_) (fun E h9 q => q.elim)
            obtain ⟨rfl, hG55, hX56⟩ := hp9
            have hE57 := hE53.tr hX56
            subst hZ
            exact j_ireturn dX5_doQuarrel_90 rfl rfl (jWi.i ((if_neg c2).trans ((if_neg c8).trans ((if_neg c10).trans ((if_neg c18).trans (if_pos c27))))) hG55 hE57) (Nat.le_refl _) (Nat.le_refl _)
        · refine j_aload_n dX5_doQuarrel_38 rfl rfl ?_
          refine j_iconst dX5_doQuarrel_39 ?_
          refine j_iconst dX5_doQuarrel_40 ?_
          refine j_aload_n dX5_doQuarrel_41 rfl rfl ?_
          refine j_iload_n dX5_doQuarrel_42 rfl rfl ?_
          refine j_callV (c5_lives hG (f := (G 0)) rfl hO (by omega)) dX5_doQuarrel_43 jc_X5_96 jmV_X5_lives rfl rfl hG.1 rfl rfl (by simp) jfr_nil (Nat.le_of_ble_eq_true rfl) ⟨Nat.le_of_ble_eq_true rfl, Nat.le_of_ble_eq_true rfl⟩ ⟨Nat.le_of_ble_eq_true rfl, Nat.le_of_ble_eq_true rfl⟩ (fun r h58 hp9 => ?_) (fun E h9 q => q.elim)
          obtain ⟨rfl, rfl⟩ := hp9
          have hl9 := hO.l p
          refine j_if_eq (tgt := 53) dX5_doQuarrel_46 (by decide) (by omega) (fun c59 => (False.elim (by omega))) (fun c59 => ?_)
          refine j_iload_n dX5_doQuarrel_49 rfl rfl ?_
          refine j_goto (tgt := 54) dX5_doQuarrel_50 (by decide) ?_
          refine j_callV (c5_refuse hG) dX5_doQuarrel_54 jc_X5_72 jmV_X5_refuse rfl rfl hG.1 rfl rfl (by simp) jfr_nil (Nat.le_of_ble_eq_true rfl) ⟨Nat.le_of_ble_eq_true rfl, Nat.le_of_ble_eq_true rfl⟩ ⟨Nat.le_of_ble_eq_true rfl, Nat.le_of_ble_eq_true rfl⟩ (fun r h60 hp9 => ?_) (fun E h9 q => q.elim)
          obtain ⟨rfl, hG61, hX62⟩ := hp9
          have hE63 := hE0.tr hX62
          subst hZ
          exact j_ireturn dX5_doQuarrel_57 rfl rfl (jWi.i ((if_neg c2).trans ((if_neg c8).trans ((if_neg c10).trans (if_pos c18)))) hG61 hE63) (Nat.le_refl _) (Nat.le_refl _)
    · have qc8 := bi_z c8
      refine j_aload_n dX5_doQuarrel_16 rfl rfl ?_
      refine j_iconst dX5_doQuarrel_17 ?_
      refine j_callV (c5_fails hG) dX5_doQuarrel_18 jc_X5_93 jmV_X5_fails rfl rfl hG.1 rfl rfl (by simp) jfr_nil (Nat.le_of_ble_eq_true rfl) ⟨Nat.le_of_ble_eq_true rfl, Nat.le_of_ble_eq_true rfl⟩ ⟨Nat.le_of_ble_eq_true rfl, Nat.le_of_ble_eq_true rfl⟩ (fun r h64 hp9 => ?_) (fun E h9 q => q.elim)
      obtain ⟨rfl, hG65, hX66⟩ := hp9
      have hE67 := hE0.tr hX66
      subst hZ
      exact j_ireturn dX5_doQuarrel_21 rfl rfl (jWi.i ((if_neg c2).trans (if_pos c8)) hG65 hE67) (Nat.le_refl _) (Nat.le_refl _)
noncomputable def m_wouldEnd (G : fS) (p o : Int) : Int × fS := if (bi (0 ≤ p ∧ p < (G 0) 0)) = 0 then (0, gn G 6 1) else if (bi (0 ≤ o ∧ o < (G 0) 0)) = 0 then (0, gn G 6 1) else if (m_canMarry (gn G 6 0) p o).1 = 0 then (0, gn (gn (gn ((m_canMarry (gn G 6 0) p o).2) 7 (G 7 0)) 8 (G 8 0)) 6 2) else (csum (fun z => bi ((fho (mK (G 0)) (mK (G 0) 4 z) = fho (mK (G 0)) p ∧ fho (mK (G 0)) (mK (G 0) 5 z) = fho (mK (G 0)) o) ∨ (fho (mK (G 0)) (mK (G 0) 4 z) = fho (mK (G 0)) o ∧ fho (mK (G 0)) (mK (G 0) 5 z) = fho (mK (G 0)) p))) ((G 0) 1).toNat, m_tells (gn (gn (gn (gn G 6 0) 7 (G 7 0)) 8 (G 8 0)) 6 0))
set_option maxHeartbeats 4000000 in
/-- reference: wouldEnd -/
theorem c5_wouldEnd {k : Nat} {G : fS} {f : Int → Int} {B : Int} {h : jH} (hG : jOb sM k G h) (hf : G 0 = f) (hO : jOk B (mK f)) (hA : fAc (mK f)) {p o : Int} (hp : -2147483648 ≤ p ∧ p ≤ 2147483647) (ho : -2147483648 ≤ o ∧ o ≤ 2147483647) : jM mX5_wouldEnd 5 0 0 [] [.ref k, iv p, iv o] h (jWi sM k (m_wouldEnd G p o) h) jno := by
  refine j_method (by decide +kernel) rfl (fun _ _ _ => trivial) (Nat.le_of_ble_eq_true rfl) ?_
  generalize hZ : jZ [] 0 0 _ _ = Z
  show J mX5_wouldEnd (jR 5 0 0) [] Z 0 [(0, .ref k), (1, iv p), (2, iv o)] [] h 0 0
  subst hf
  have hn := mK_n hO
  have hb := hO.b
  have hq2 := mK_q hO
  have hE0 : jEx k 10 h h := jEx.rf
  refine j_aload_n dX5_wouldEnd_0 rfl rfl ?_
  refine j_aload_n dX5_wouldEnd_1 rfl rfl ?_
  refine j_iload_n dX5_wouldEnd_2 rfl rfl ?_
  refine j_callV (c5_has hG (f := (G 0)) rfl (by omega) (by omega)) dX5_wouldEnd_3 jc_X5_89 jmV_X5_has rfl rfl hG.1 rfl rfl (by simp) jfr_nil (Nat.le_of_ble_eq_true rfl) ⟨Nat.le_of_ble_eq_true rfl, Nat.le_of_ble_eq_true rfl⟩ ⟨Nat.le_of_ble_eq_true rfl, Nat.le_of_ble_eq_true rfl⟩ (fun r h1 hp9 => ?_) (fun E h9 q => q.elim)
  obtain ⟨rfl, rfl⟩ := hp9
  refine j_if_eq (tgt := 21) dX5_wouldEnd_6 (by decide) (bi_r32 _) (fun c2 => ?_) (fun c2 => ?_)
  · have qc2 := bi_z c2
    refine j_iconst dX5_wouldEnd_21 ?_
    refine jo_put (S := sM) dX5_wouldEnd_22 jf_X5_42 (fun q hq => by cases hq; exact ⟨rfl, rfl⟩) (jHold_int _) okM hG rfl (fun h3 hG3 hX3 => ?_)
    have hE4 := hE0.tr hX3
    refine j_aload_n dX5_wouldEnd_25 rfl rfl ?_
    refine j_getfield (v := iv 1) dX5_wouldEnd_26 jf_X5_42 hG3.1 rfl ?_
    refine j_if_le (tgt := 34) dX5_wouldEnd_29 (by decide) (by omega) (fun c5 => absurd c5 (by decide)) (fun c5 => ?_)
    refine j_iconst dX5_wouldEnd_32 ?_
    subst hZ
    exact j_ireturn dX5_wouldEnd_33 rfl rfl (jWi.i (if_pos c2) hG3 hE4) (Nat.le_refl _) (Nat.le_refl _)
  · have qc2 := bi_nz c2
    refine j_aload_n dX5_wouldEnd_9 rfl rfl ?_
    refine j_iload_n dX5_wouldEnd_10 rfl rfl ?_
    refine j_callV (c5_has hG (f := (G 0)) rfl (by omega) (by omega)) dX5_wouldEnd_11 jc_X5_89 jmV_X5_has rfl rfl hG.1 rfl rfl (by simp) jfr_nil (Nat.le_of_ble_eq_true rfl) ⟨Nat.le_of_ble_eq_true rfl, Nat.le_of_ble_eq_true rfl⟩ ⟨Nat.le_of_ble_eq_true rfl, Nat.le_of_ble_eq_true rfl⟩ (fun r h6 hp9 => ?_) (fun E h9 q => q.elim)
    obtain ⟨rfl, rfl⟩ := hp9
    refine j_if_eq (tgt := 21) dX5_wouldEnd_14 (by decide) (bi_r32 _) (fun c7 => ?_) (fun c7 => ?_)
    · have qc7 := bi_z c7
      refine j_iconst dX5_wouldEnd_21 ?_
      refine jo_put (S := sM) dX5_wouldEnd_22 jf_X5_42 (fun q hq => by cases hq; exact ⟨rfl, rfl⟩) (jHold_int _) okM hG rfl (fun h8 hG8 hX8 => ?_)
      have hE9 := hE0.tr hX8
      refine j_aload_n dX5_wouldEnd_25 rfl rfl ?_
      refine j_getfield (v := iv 1) dX5_wouldEnd_26 jf_X5_42 hG8.1 rfl ?_
      refine j_if_le (tgt := 34) dX5_wouldEnd_29 (by decide) (by omega) (fun c10 => absurd c10 (by decide)) (fun c10 => ?_)
      refine j_iconst dX5_wouldEnd_32 ?_
      subst hZ
      exact j_ireturn dX5_wouldEnd_33 rfl rfl (jWi.i ((if_neg c2).trans (if_pos c7)) hG8 hE9) (Nat.le_refl _) (Nat.le_refl _)
    · have qc7 := bi_nz c7
      refine j_iconst dX5_wouldEnd_17 ?_
      refine j_goto (tgt := 22) dX5_wouldEnd_18 (by decide) ?_
      refine jo_put (S := sM) dX5_wouldEnd_22 jf_X5_42 (fun q hq => by cases hq; exact ⟨rfl, rfl⟩) (jHold_int _) okM hG rfl (fun h11 hG11 hX11 => ?_)
      have hE12 := hE0.tr hX11
      refine j_aload_n dX5_wouldEnd_25 rfl rfl ?_
      refine j_getfield (v := iv 0) dX5_wouldEnd_26 jf_X5_42 hG11.1 rfl ?_
      refine j_if_le (tgt := 34) dX5_wouldEnd_29 (by decide) (by omega) (fun c13 => ?_) (fun c13 => absurd (by decide) c13)
      refine j_aload_n dX5_wouldEnd_34 rfl rfl ?_
      refine j_getfield (v := iv (G 7 0)) dX5_wouldEnd_35 jf_X5_58 hG11.1 rfl ?_
      refine j_istore_n (L' := [(0, _), (1, _), (2, _), (3, _)]) dX5_wouldEnd_38 rfl (by decide) rfl ?_
      refine j_aload_n dX5_wouldEnd_39 rfl rfl ?_
      refine j_getfield (v := iv (G 8 0)) dX5_wouldEnd_40 jf_X5_61 hG11.1 rfl ?_
      refine j_istore (L' := [(0, _), (1, _), (2, _), (3, _), (4, _)]) dX5_wouldEnd_43 (by decide) rfl ?_
      refine j_aload_n dX5_wouldEnd_45 rfl rfl ?_
      refine j_iload_n dX5_wouldEnd_46 rfl rfl ?_
      refine j_iload_n dX5_wouldEnd_47 rfl rfl ?_
      refine j_callV (c5_canMarry hG11 (f := (G 0)) rfl hO hA (by omega) (by omega)) dX5_wouldEnd_48 jc_X5_164 jmV_X5_canMarry rfl rfl hG11.1 rfl rfl (by simp) jfr_nil (Nat.le_of_ble_eq_true rfl) ⟨Nat.le_of_ble_eq_true rfl, Nat.le_of_ble_eq_true rfl⟩ ⟨Nat.le_of_ble_eq_true rfl, Nat.le_of_ble_eq_true rfl⟩ (fun r h14 hp9 => ?_) (fun E h9 q => q.elim)
      obtain ⟨rfl, hG15, hX16⟩ := hp9
      have hE17 := hE12.tr hX16
      by_cases c18 : (m_canMarry (gn G 6 0) p o).1 = 0
      · refine j_istore (L' := [(0, _), (1, _), (2, _), (3, _), (4, _), (5, _)]) dX5_wouldEnd_51 (by decide) rfl ?_
        refine j_aload_n dX5_wouldEnd_53 rfl rfl ?_
        refine j_iload_n dX5_wouldEnd_54 rfl rfl ?_
        refine jo_put (S := sM) dX5_wouldEnd_55 jf_X5_58 (fun q hq => by cases hq; exact ⟨rfl, rfl⟩) (jHold_int _) okM hG15 rfl (fun h19 hG19 hX19 => ?_)
        have hE20 := hE17.tr hX19
        refine j_aload_n dX5_wouldEnd_58 rfl rfl ?_
        refine j_iload dX5_wouldEnd_59 rfl ?_
        refine jo_put (S := sM) dX5_wouldEnd_61 jf_X5_61 (fun q hq => by cases hq; exact ⟨rfl, rfl⟩) (jHold_int _) okM hG19 rfl (fun h21 hG21 hX21 => ?_)
        have hE22 := hE20.tr hX21
        refine j_aload_n dX5_wouldEnd_64 rfl rfl ?_
        refine j_iload dX5_wouldEnd_65 rfl ?_
        refine j_if_eq (tgt := 74) dX5_wouldEnd_67 (by decide) (by have := m_canMarry_r (gn G 6 0) p o; omega) (fun c23 => ?_) (fun c23 => (False.elim (by omega)))
        refine j_iconst dX5_wouldEnd_74 ?_
        refine jo_put (S := sM) dX5_wouldEnd_75 jf_X5_42 (fun q hq => by cases hq; exact ⟨rfl, rfl⟩) (jHold_int _) okM hG21 rfl (fun h24 hG24 hX24 => ?_)
        have hE25 := hE22.tr hX24
        refine j_aload_n dX5_wouldEnd_78 rfl rfl ?_
        refine j_getfield (v := iv 2) dX5_wouldEnd_79 jf_X5_42 hG24.1 rfl ?_
        refine j_if_le (tgt := 87) dX5_wouldEnd_82 (by decide) (by omega) (fun c26 => absurd c26 (by decide)) (fun c26 => ?_)
        refine j_iconst dX5_wouldEnd_85 ?_
        subst hZ
        exact j_ireturn dX5_wouldEnd_86 rfl rfl (jWi.i ((if_neg c2).trans ((if_neg c7).trans (if_pos c18))) hG24 hE25) (Nat.le_refl _) (Nat.le_refl _)
      · have hG27 : jOb sM k (gn G 6 0) h14 := m_canMarry_t c18 ▸ hG15
        refine j_istore (L' := [(0, _), (1, _), (2, _), (3, _), (4, _), (5, _)]) dX5_wouldEnd_51 (by decide) rfl ?_
        refine j_aload_n dX5_wouldEnd_53 rfl rfl ?_
        refine j_iload_n dX5_wouldEnd_54 rfl rfl ?_
        refine jo_put (S := sM) dX5_wouldEnd_55 jf_X5_58 (fun q hq => by cases hq; exact ⟨rfl, rfl⟩) (jHold_int _) okM hG27 rfl (fun h28 hG28 hX28 => ?_)
        have hE29 := hE17.tr hX28
        refine j_aload_n dX5_wouldEnd_58 rfl rfl ?_
        refine j_iload dX5_wouldEnd_59 rfl ?_
        refine jo_put (S := sM) dX5_wouldEnd_61 jf_X5_61 (fun q hq => by cases hq; exact ⟨rfl, rfl⟩) (jHold_int _) okM hG28 rfl (fun h30 hG30 hX30 => ?_)
        have hE31 := hE29.tr hX30
        refine j_aload_n dX5_wouldEnd_64 rfl rfl ?_
        refine j_iload dX5_wouldEnd_65 rfl ?_
        refine j_if_eq (tgt := 74) dX5_wouldEnd_67 (by decide) (by have := m_canMarry_r (gn G 6 0) p o; omega) (fun c32 => (False.elim (by omega))) (fun c32 => ?_)
        refine j_iconst dX5_wouldEnd_70 ?_
        refine j_goto (tgt := 75) dX5_wouldEnd_71 (by decide) ?_
        refine jo_put (S := sM) dX5_wouldEnd_75 jf_X5_42 (fun q hq => by cases hq; exact ⟨rfl, rfl⟩) (jHold_int _) okM hG30 rfl (fun h33 hG33 hX33 => ?_)
        have hE34 := hE31.tr hX33
        refine j_aload_n dX5_wouldEnd_78 rfl rfl ?_
        refine j_getfield (v := iv 0) dX5_wouldEnd_79 jf_X5_42 hG33.1 rfl ?_
        refine j_if_le (tgt := 87) dX5_wouldEnd_82 (by decide) (by omega) (fun c35 => ?_) (fun c35 => absurd (by decide) c35)
        refine j_aload_n dX5_wouldEnd_87 rfl rfl ?_
        refine j_callV (c5_tellsHouses hG33 (f := (G 0)) rfl hO) dX5_wouldEnd_88 jc_X5_155 jmV_X5_tellsHouses rfl rfl hG33.1 rfl rfl (by simp) jfr_nil (Nat.le_of_ble_eq_true rfl) ⟨Nat.le_of_ble_eq_true rfl, Nat.le_of_ble_eq_true rfl⟩ ⟨Nat.le_of_ble_eq_true rfl, Nat.le_of_ble_eq_true rfl⟩ (fun r h36 hp9 => ?_) (fun E h9 q => q.elim)
        obtain ⟨rfl, hG37, hX38⟩ := hp9
        have hE39 := hE34.tr hX38
        refine j_iconst dX5_wouldEnd_91 ?_
        refine j_istore (L' := [(0, _), (1, _), (2, _), (3, _), (4, _), (5, _), (6, _)]) dX5_wouldEnd_92 (by decide) rfl ?_
        refine j_iconst dX5_wouldEnd_94 ?_
        refine j_istore (L' := [(0, _), (1, _), (2, _), (3, _), (4, _), (5, _), (6, _), (7, _)]) dX5_wouldEnd_95 (by decide) rfl ?_
        refine J.keep [0, 1, 2, 6, 7] (L' := [(0, _), (1, _), (2, _), (6, _), (7, _)]) rfl ?_
        refine jloop (P := fun z9 : Int × Int => J mX5_wouldEnd (jR 5 0 0) [] Z 97 [(0, .ref k), (1, iv p), (2, iv o), (6, iv z9.1), (7, iv z9.2)] [] h36 0 0) (fun z9 => 0 ≤ z9.2 ∧ z9.2 ≤ (G 0) 1 ∧ z9.1 = csum (fun z => bi ((fho (mK (G 0)) (mK (G 0) 4 z) = fho (mK (G 0)) p ∧ fho (mK (G 0)) (mK (G 0) 5 z) = fho (mK (G 0)) o) ∨ (fho (mK (G 0)) (mK (G 0) 4 z) = fho (mK (G 0)) o ∧ fho (mK (G 0)) (mK (G 0) 5 z) = fho (mK (G 0)) p))) z9.2.toNat) (fun z9 => ((G 0) 1 - z9.2).toNat) ?_ (0, 0) ?_
        · rintro ⟨a, q⟩ hinv ih
          dsimp only at hinv ih ⊢
          obtain ⟨i1, i2, i3⟩ := hinv
          have z6 : G 0 (101 + 2 * q + 1) = G 0 (102 + 2 * q) := congrArg (G 0) (by omega)
          refine j_iload dX5_wouldEnd_97 rfl ?_
          refine j_aload_n dX5_wouldEnd_99 rfl rfl ?_
          refine j_getfield (v := .ref (k + 1)) dX5_wouldEnd_100 jf_X5_9 hG37.1 rfl ?_
          refine j_iconst dX5_wouldEnd_103 ?_
          refine j_iaload (f := G 0) dX5_wouldEnd_104 (hG37.a 0 1 0 141 rfl) (by omega) (by decide) ?_
          refine j_icmp_ge (tgt := 220) dX5_wouldEnd_105 (by decide) (by omega) (fun c40 => ?_) (fun c40 => ?_)
          · refine j_iload dX5_wouldEnd_220 rfl ?_
            subst hZ
            exact j_ireturn dX5_wouldEnd_222 rfl rfl (jWi.i ((((if_neg c2).trans ((if_neg c7).trans (if_neg c18)))).trans (by rw [i3, show q = (G 0) 1 by omega])) hG37 hE39) (Nat.le_refl _) (Nat.le_refl _)
          · have z3 := hO.qq q i1 (by show q < G 0 1; omega)
            have z4 := mK_4 (f := G 0) (p := q) (by omega)
            have z5 := mK_5 (f := G 0) (p := q) (by omega)
            have z7 : 0 ≤ G 0 (101 + 2 * q) ∧ G 0 (101 + 2 * q) < G 0 0 := ⟨by rw [← z4]; exact z3.1.1, by rw [← z4]; exact z3.1.2⟩
            have z8 : 0 ≤ G 0 (101 + 2 * q + 1) ∧ G 0 (101 + 2 * q + 1) < G 0 0 := ⟨by rw [z6, ← z5]; exact z3.2.1, by rw [z6, ← z5]; exact z3.2.2⟩
            have y1 : m_hrow (gn (gn (gn (gn G 6 0) 7 (G 7 0)) 8 (G 8 0)) 6 0) (G 0 (101 + 2 * q)) = fho (mK (G 0)) (mK (G 0) 4 q) := by rw [z4]; exact m_hrow_in (G := (gn (gn (gn (gn G 6 0) 7 (G 7 0)) 8 (G 8 0)) 6 0)) z7
            have y2 : m_hrow (gn (gn (gn (gn G 6 0) 7 (G 7 0)) 8 (G 8 0)) 6 0) (G 0 (101 + 2 * q + 1)) = fho (mK (G 0)) (mK (G 0) 5 q) := by rw [z5, ← z6]; exact m_hrow_in (G := (gn (gn (gn (gn G 6 0) 7 (G 7 0)) 8 (G 8 0)) 6 0)) z8
            have y3 : m_hrow (gn (gn (gn (gn G 6 0) 7 (G 7 0)) 8 (G 8 0)) 6 0) p = fho (mK (G 0)) p := m_hrow_in (G := (gn (gn (gn (gn G 6 0) 7 (G 7 0)) 8 (G 8 0)) 6 0)) (p := p) (by show 0 ≤ p ∧ p < G 0 0; omega)
            have y4 : m_hrow (gn (gn (gn (gn G 6 0) 7 (G 7 0)) 8 (G 8 0)) 6 0) o = fho (mK (G 0)) o := m_hrow_in (G := (gn (gn (gn (gn G 6 0) 7 (G 7 0)) 8 (G 8 0)) 6 0)) (p := o) (by show 0 ≤ o ∧ o < G 0 0; omega)
            have x1 := m_hrow_rg (G := (gn (gn (gn (gn G 6 0) 7 (G 7 0)) 8 (G 8 0)) 6 0)) hO z7
            have x2 := m_hrow_rg (G := (gn (gn (gn (gn G 6 0) 7 (G 7 0)) 8 (G 8 0)) 6 0)) hO z8
            have x3 := m_hrow_rg (G := (gn (gn (gn (gn G 6 0) 7 (G 7 0)) 8 (G 8 0)) 6 0)) hO (p := p) (by show 0 ≤ p ∧ p < G 0 0; omega)
            have x4 := m_hrow_rg (G := (gn (gn (gn (gn G 6 0) 7 (G 7 0)) 8 (G 8 0)) 6 0)) hO (p := o) (by show 0 ≤ o ∧ o < G 0 0; omega)
            have z9 : G 0 (101 + 2 * q) < 24 := by omega
            have z10 : G 0 (101 + 2 * q + 1) < 24 := by omega
            refine j_aload_n dX5_wouldEnd_108 rfl rfl ?_
            refine j_getfield (v := .ref (k + 6)) dX5_wouldEnd_109 jf_X5_25 hG37.1 rfl ?_
            refine j_aload_n dX5_wouldEnd_112 rfl rfl ?_
            refine j_getfield (v := .ref (k + 1)) dX5_wouldEnd_113 jf_X5_9 hG37.1 rfl ?_
            refine j_bipush dX5_wouldEnd_116 (by decide +kernel) ?_
            refine j_iconst dX5_wouldEnd_118 ?_
            refine j_iload dX5_wouldEnd_119 rfl ?_
            refine j_imul dX5_wouldEnd_121 ?_
            refine j_iadd dX5_wouldEnd_122 ?_
            refine j_iaload (f := G 0) dX5_wouldEnd_123 (hG37.a 0 1 0 141 rfl) (by omega) (by decide) ?_
            refine j_iaload (f := m_hrow (gn (gn (gn (gn G 6 0) 7 (G 7 0)) 8 (G 8 0)) 6 0)) dX5_wouldEnd_124 (hG37.a 12 6 0 24 rfl) (by omega) (by decide) ?_
            refine j_istore (L' := [(0, _), (1, _), (2, _), (6, _), (7, _), (8, _)]) dX5_wouldEnd_125 (by decide) rfl ?_
            refine j_aload_n dX5_wouldEnd_127 rfl rfl ?_
            refine j_getfield (v := .ref (k + 6)) dX5_wouldEnd_128 jf_X5_25 hG37.1 rfl ?_
            refine j_aload_n dX5_wouldEnd_131 rfl rfl ?_
            refine j_getfield (v := .ref (k + 1)) dX5_wouldEnd_132 jf_X5_9 hG37.1 rfl ?_
            refine j_bipush dX5_wouldEnd_135 (by decide +kernel) ?_
            refine j_iconst dX5_wouldEnd_137 ?_
            refine j_iload dX5_wouldEnd_138 rfl ?_
            refine j_imul dX5_wouldEnd_140 ?_
            refine j_iadd dX5_wouldEnd_141 ?_
            refine j_iconst dX5_wouldEnd_142 ?_
            refine j_iadd dX5_wouldEnd_143 ?_
            refine j_iaload (f := G 0) dX5_wouldEnd_144 (hG37.a 0 1 0 141 rfl) (by omega) (by decide) ?_
            refine j_iaload (f := m_hrow (gn (gn (gn (gn G 6 0) 7 (G 7 0)) 8 (G 8 0)) 6 0)) dX5_wouldEnd_145 (hG37.a 12 6 0 24 rfl) (by omega) (by decide) ?_
            refine j_istore (L' := [(0, _), (1, _), (2, _), (6, _), (7, _), (8, _), (9, _)]) dX5_wouldEnd_146 (by decide) rfl ?_
            refine j_iload dX5_wouldEnd_148 rfl ?_
            refine j_aload_n dX5_wouldEnd_150 rfl rfl ?_
            refine j_getfield (v := .ref (k + 6)) dX5_wouldEnd_151 jf_X5_25 hG37.1 rfl ?_
            refine j_iload_n dX5_wouldEnd_154 rfl rfl ?_
            refine j_iaload (f := m_hrow (gn (gn (gn (gn G 6 0) 7 (G 7 0)) 8 (G 8 0)) 6 0)) dX5_wouldEnd_155 (hG37.a 12 6 0 24 rfl) (by omega) (by decide) ?_
            refine j_icmp_ne (tgt := 170) dX5_wouldEnd_156 (by decide) (by omega) (fun c41 => ?_) (fun c41 => ?_)
            · refine j_iload dX5_wouldEnd_170 rfl ?_
              refine j_aload_n dX5_wouldEnd_172 rfl rfl ?_
              refine j_getfield (v := .ref (k + 6)) dX5_wouldEnd_173 jf_X5_25 hG37.1 rfl ?_
              refine j_iload_n dX5_wouldEnd_176 rfl rfl ?_
              refine j_iaload (f := m_hrow (gn (gn (gn (gn G 6 0) 7 (G 7 0)) 8 (G 8 0)) 6 0)) dX5_wouldEnd_177 (hG37.a 12 6 0 24 rfl) (by omega) (by decide) ?_
              refine j_icmp_ne (tgt := 196) dX5_wouldEnd_178 (by decide) (by omega) (fun c42 => ?_) (fun c42 => ?_)
              · refine j_iconst dX5_wouldEnd_196 ?_
                refine j_istore (L' := [(0, _), (1, _), (2, _), (6, _), (7, _), (8, _), (9, _), (10, _)]) dX5_wouldEnd_197 (by decide) rfl ?_
                refine j_iload dX5_wouldEnd_199 rfl ?_
                refine j_iload dX5_wouldEnd_201 rfl ?_
                refine j_if_eq (tgt := 210) dX5_wouldEnd_203 (by decide) (by omega) (fun c43 => ?_) (fun c43 => absurd (by decide) c43)
                refine j_iconst dX5_wouldEnd_210 ?_
                refine j_iadd dX5_wouldEnd_211 ?_
                refine j_istore (L' := [(0, _), (1, _), (2, _), (6, _), (7, _), (8, _), (9, _), (10, _)]) dX5_wouldEnd_212 (by decide) rfl ?_
                refine j_iinc (L' := [(0, _), (1, _), (2, _), (6, _), (7, _), (8, _), (9, _), (10, _)]) dX5_wouldEnd_214 rfl (by decide) rfl ?_
                refine j_goto (tgt := 97) dX5_wouldEnd_217 (by decide) ?_
                refine J.keep [0, 1, 2, 6, 7] (L' := [(0, _), (1, _), (2, _), (6, _), (7, _)]) rfl ?_
                have e9 := csum_s (fun z => bi ((fho (mK (G 0)) (mK (G 0) 4 z) = fho (mK (G 0)) p ∧ fho (mK (G 0)) (mK (G 0) 5 z) = fho (mK (G 0)) o) ∨ (fho (mK (G 0)) (mK (G 0) 4 z) = fho (mK (G 0)) o ∧ fho (mK (G 0)) (mK (G 0) 5 z) = fho (mK (G 0)) p))) i1
                try dsimp only at e9
                first
                  | (rw [bi_t (by omega)] at e9; have ih9 := ih (a + 1, q + 1); dsimp only at ih9; exact ih9 ⟨by omega, by omega, by omega⟩ (by omega))
                  | (rw [bi_f (by omega)] at e9; have ih9 := ih (a + 0, q + 1); dsimp only at ih9; exact ih9 ⟨by omega, by omega, by omega⟩ (by omega))
              · refine j_iload dX5_wouldEnd_181 rfl ?_
                refine j_aload_n dX5_wouldEnd_183 rfl rfl ?_
                refine j_getfield (v := .ref (k + 6)) dX5_wouldEnd_184 jf_X5_25 hG37.1 rfl ?_
                refine j_iload_n dX5_wouldEnd_187 rfl rfl ?_
                refine j_iaload (f := m_hrow (gn (gn (gn (gn G 6 0) 7 (G 7 0)) 8 (G 8 0)) 6 0)) dX5_wouldEnd_188 (hG37.a 12 6 0 24 rfl) (by omega) (by decide) ?_
                refine j_icmp_ne (tgt := 196) dX5_wouldEnd_189 (by decide) (by omega) (fun c44 => ?_) (fun c44 => ?_)
                · refine j_iconst dX5_wouldEnd_196 ?_
                  refine j_istore (L' := [(0, _), (1, _), (2, _), (6, _), (7, _), (8, _), (9, _), (10, _)]) dX5_wouldEnd_197 (by decide) rfl ?_
                  refine j_iload dX5_wouldEnd_199 rfl ?_
                  refine j_iload dX5_wouldEnd_201 rfl ?_
                  refine j_if_eq (tgt := 210) dX5_wouldEnd_203 (by decide) (by omega) (fun c45 => ?_) (fun c45 => absurd (by decide) c45)
                  refine j_iconst dX5_wouldEnd_210 ?_
                  refine j_iadd dX5_wouldEnd_211 ?_
                  refine j_istore (L' := [(0, _), (1, _), (2, _), (6, _), (7, _), (8, _), (9, _), (10, _)]) dX5_wouldEnd_212 (by decide) rfl ?_
                  refine j_iinc (L' := [(0, _), (1, _), (2, _), (6, _), (7, _), (8, _), (9, _), (10, _)]) dX5_wouldEnd_214 rfl (by decide) rfl ?_
                  refine j_goto (tgt := 97) dX5_wouldEnd_217 (by decide) ?_
                  refine J.keep [0, 1, 2, 6, 7] (L' := [(0, _), (1, _), (2, _), (6, _), (7, _)]) rfl ?_
                  have e9 := csum_s (fun z => bi ((fho (mK (G 0)) (mK (G 0) 4 z) = fho (mK (G 0)) p ∧ fho (mK (G 0)) (mK (G 0) 5 z) = fho (mK (G 0)) o) ∨ (fho (mK (G 0)) (mK (G 0) 4 z) = fho (mK (G 0)) o ∧ fho (mK (G 0)) (mK (G 0) 5 z) = fho (mK (G 0)) p))) i1
                  try dsimp only at e9
                  first
                    | (rw [bi_t (by omega)] at e9; have ih9 := ih (a + 1, q + 1); dsimp only at ih9; exact ih9 ⟨by omega, by omega, by omega⟩ (by omega))
                    | (rw [bi_f (by omega)] at e9; have ih9 := ih (a + 0, q + 1); dsimp only at ih9; exact ih9 ⟨by omega, by omega, by omega⟩ (by omega))
                · refine j_iconst dX5_wouldEnd_192 ?_
                  refine j_goto (tgt := 197) dX5_wouldEnd_193 (by decide) ?_
                  refine j_istore (L' := [(0, _), (1, _), (2, _), (6, _), (7, _), (8, _), (9, _), (10, _)]) dX5_wouldEnd_197 (by decide) rfl ?_
                  refine j_iload dX5_wouldEnd_199 rfl ?_
                  refine j_iload dX5_wouldEnd_201 rfl ?_
                  refine j_if_eq (tgt := 210) dX5_wouldEnd_203 (by decide) (by omega) (fun c46 => absurd c46 (by decide)) (fun c46 => ?_)
                  refine j_iconst dX5_wouldEnd_206 ?_
                  refine j_goto (tgt := 211) dX5_wouldEnd_207 (by decide) ?_
                  refine j_iadd dX5_wouldEnd_211 ?_
                  refine j_istore (L' := [(0, _), (1, _), (2, _), (6, _), (7, _), (8, _), (9, _), (10, _)]) dX5_wouldEnd_212 (by decide) rfl ?_
                  refine j_iinc (L' := [(0, _), (1, _), (2, _), (6, _), (7, _), (8, _), (9, _), (10, _)]) dX5_wouldEnd_214 rfl (by decide) rfl ?_
                  refine j_goto (tgt := 97) dX5_wouldEnd_217 (by decide) ?_
                  refine J.keep [0, 1, 2, 6, 7] (L' := [(0, _), (1, _), (2, _), (6, _), (7, _)]) rfl ?_
                  have e9 := csum_s (fun z => bi ((fho (mK (G 0)) (mK (G 0) 4 z) = fho (mK (G 0)) p ∧ fho (mK (G 0)) (mK (G 0) 5 z) = fho (mK (G 0)) o) ∨ (fho (mK (G 0)) (mK (G 0) 4 z) = fho (mK (G 0)) o ∧ fho (mK (G 0)) (mK (G 0) 5 z) = fho (mK (G 0)) p))) i1
                  try dsimp only at e9
                  first
                    | (rw [bi_t (by omega)] at e9; have ih9 := ih (a + 1, q + 1); dsimp only at ih9; exact ih9 ⟨by omega, by omega, by omega⟩ (by omega))
                    | (rw [bi_f (by omega)] at e9; have ih9 := ih (a + 0, q + 1); dsimp only at ih9; exact ih9 ⟨by omega, by omega, by omega⟩ (by omega))
            · refine j_iload dX5_wouldEnd_159 rfl ?_
              refine j_aload_n dX5_wouldEnd_161 rfl rfl ?_
              refine j_getfield (v := .ref (k + 6)) dX5_wouldEnd_162 jf_X5_25 hG37.1 rfl ?_
              refine j_iload_n dX5_wouldEnd_165 rfl rfl ?_
              refine j_iaload (f := m_hrow (gn (gn (gn (gn G 6 0) 7 (G 7 0)) 8 (G 8 0)) 6 0)) dX5_wouldEnd_166 (hG37.a 12 6 0 24 rfl) (by omega) (by decide) ?_
              refine j_icmp_eq (tgt := 192) dX5_wouldEnd_167 (by decide) (by omega) (fun c47 => ?_) (fun c47 => ?_)
              · refine j_iconst dX5_wouldEnd_192 ?_
                refine j_goto (tgt := 197) dX5_wouldEnd_193 (by decide) ?_
                refine j_istore (L' := [(0, _), (1, _), (2, _), (6, _), (7, _), (8, _), (9, _), (10, _)]) dX5_wouldEnd_197 (by decide) rfl ?_
                refine j_iload dX5_wouldEnd_199 rfl ?_
                refine j_iload dX5_wouldEnd_201 rfl ?_
                refine j_if_eq (tgt := 210) dX5_wouldEnd_203 (by decide) (by omega) (fun c48 => absurd c48 (by decide)) (fun c48 => ?_)
                refine j_iconst dX5_wouldEnd_206 ?_
                refine j_goto (tgt := 211) dX5_wouldEnd_207 (by decide) ?_
                refine j_iadd dX5_wouldEnd_211 ?_
                refine j_istore (L' := [(0, _), (1, _), (2, _), (6, _), (7, _), (8, _), (9, _), (10, _)]) dX5_wouldEnd_212 (by decide) rfl ?_
                refine j_iinc (L' := [(0, _), (1, _), (2, _), (6, _), (7, _), (8, _), (9, _), (10, _)]) dX5_wouldEnd_214 rfl (by decide) rfl ?_
                refine j_goto (tgt := 97) dX5_wouldEnd_217 (by decide) ?_
                refine J.keep [0, 1, 2, 6, 7] (L' := [(0, _), (1, _), (2, _), (6, _), (7, _)]) rfl ?_
                have e9 := csum_s (fun z => bi ((fho (mK (G 0)) (mK (G 0) 4 z) = fho (mK (G 0)) p ∧ fho (mK (G 0)) (mK (G 0) 5 z) = fho (mK (G 0)) o) ∨ (fho (mK (G 0)) (mK (G 0) 4 z) = fho (mK (G 0)) o ∧ fho (mK (G 0)) (mK (G 0) 5 z) = fho (mK (G 0)) p))) i1
                try dsimp only at e9
                first
                  | (rw [bi_t (by omega)] at e9; have ih9 := ih (a + 1, q + 1); dsimp only at ih9; exact ih9 ⟨by omega, by omega, by omega⟩ (by omega))
                  | (rw [bi_f (by omega)] at e9; have ih9 := ih (a + 0, q + 1); dsimp only at ih9; exact ih9 ⟨by omega, by omega, by omega⟩ (by omega))
              · refine j_iload dX5_wouldEnd_170 rfl ?_
                refine j_aload_n dX5_wouldEnd_172 rfl rfl ?_
                refine j_getfield (v := .ref (k + 6)) dX5_wouldEnd_173 jf_X5_25 hG37.1 rfl ?_
                refine j_iload_n dX5_wouldEnd_176 rfl rfl ?_
                refine j_iaload (f := m_hrow (gn (gn (gn (gn G 6 0) 7 (G 7 0)) 8 (G 8 0)) 6 0)) dX5_wouldEnd_177 (hG37.a 12 6 0 24 rfl) (by omega) (by decide) ?_
                refine j_icmp_ne (tgt := 196) dX5_wouldEnd_178 (by decide) (by omega) (fun c49 => ?_) (fun c49 => ?_)
                · refine j_iconst dX5_wouldEnd_196 ?_
                  refine j_istore (L' := [(0, _), (1, _), (2, _), (6, _), (7, _), (8, _), (9, _), (10, _)]) dX5_wouldEnd_197 (by decide) rfl ?_
                  refine j_iload dX5_wouldEnd_199 rfl ?_
                  refine j_iload dX5_wouldEnd_201 rfl ?_
                  refine j_if_eq (tgt := 210) dX5_wouldEnd_203 (by decide) (by omega) (fun c50 => ?_) (fun c50 => absurd (by decide) c50)
                  refine j_iconst dX5_wouldEnd_210 ?_
                  refine j_iadd dX5_wouldEnd_211 ?_
                  refine j_istore (L' := [(0, _), (1, _), (2, _), (6, _), (7, _), (8, _), (9, _), (10, _)]) dX5_wouldEnd_212 (by decide) rfl ?_
                  refine j_iinc (L' := [(0, _), (1, _), (2, _), (6, _), (7, _), (8, _), (9, _), (10, _)]) dX5_wouldEnd_214 rfl (by decide) rfl ?_
                  refine j_goto (tgt := 97) dX5_wouldEnd_217 (by decide) ?_
                  refine J.keep [0, 1, 2, 6, 7] (L' := [(0, _), (1, _), (2, _), (6, _), (7, _)]) rfl ?_
                  have e9 := csum_s (fun z => bi ((fho (mK (G 0)) (mK (G 0) 4 z) = fho (mK (G 0)) p ∧ fho (mK (G 0)) (mK (G 0) 5 z) = fho (mK (G 0)) o) ∨ (fho (mK (G 0)) (mK (G 0) 4 z) = fho (mK (G 0)) o ∧ fho (mK (G 0)) (mK (G 0) 5 z) = fho (mK (G 0)) p))) i1
                  try dsimp only at e9
                  first
                    | (rw [bi_t (by omega)] at e9; have ih9 := ih (a + 1, q + 1); dsimp only at ih9; exact ih9 ⟨by omega, by omega, by omega⟩ (by omega))
                    | (rw [bi_f (by omega)] at e9; have ih9 := ih (a + 0, q + 1); dsimp only at ih9; exact ih9 ⟨by omega, by omega, by omega⟩ (by omega))
                · refine j_iload dX5_wouldEnd_181 rfl ?_
                  refine j_aload_n dX5_wouldEnd_183 rfl rfl ?_
                  refine j_getfield (v := .ref (k + 6)) dX5_wouldEnd_184 jf_X5_25 hG37.1 rfl ?_
                  refine j_iload_n dX5_wouldEnd_187 rfl rfl ?_
                  refine j_iaload (f := m_hrow (gn (gn (gn (gn G 6 0) 7 (G 7 0)) 8 (G 8 0)) 6 0)) dX5_wouldEnd_188 (hG37.a 12 6 0 24 rfl) (by omega) (by decide) ?_
                  refine j_icmp_ne (tgt := 196) dX5_wouldEnd_189 (by decide) (by omega) (fun c51 => ?_) (fun c51 => ?_)
                  · refine j_iconst dX5_wouldEnd_196 ?_
                    refine j_istore (L' := [(0, _), (1, _), (2, _), (6, _), (7, _), (8, _), (9, _), (10, _)]) dX5_wouldEnd_197 (by decide) rfl ?_
                    refine j_iload dX5_wouldEnd_199 rfl ?_
                    refine j_iload dX5_wouldEnd_201 rfl ?_
                    refine j_if_eq (tgt := 210) dX5_wouldEnd_203 (by decide) (by omega) (fun c52 => ?_) (fun c52 => absurd (by decide) c52)
                    refine j_iconst dX5_wouldEnd_210 ?_
                    refine j_iadd dX5_wouldEnd_211 ?_
                    refine j_istore (L' := [(0, _), (1, _), (2, _), (6, _), (7, _), (8, _), (9, _), (10, _)]) dX5_wouldEnd_212 (by decide) rfl ?_
                    refine j_iinc (L' := [(0, _), (1, _), (2, _), (6, _), (7, _), (8, _), (9, _), (10, _)]) dX5_wouldEnd_214 rfl (by decide) rfl ?_
                    refine j_goto (tgt := 97) dX5_wouldEnd_217 (by decide) ?_
                    refine J.keep [0, 1, 2, 6, 7] (L' := [(0, _), (1, _), (2, _), (6, _), (7, _)]) rfl ?_
                    have e9 := csum_s (fun z => bi ((fho (mK (G 0)) (mK (G 0) 4 z) = fho (mK (G 0)) p ∧ fho (mK (G 0)) (mK (G 0) 5 z) = fho (mK (G 0)) o) ∨ (fho (mK (G 0)) (mK (G 0) 4 z) = fho (mK (G 0)) o ∧ fho (mK (G 0)) (mK (G 0) 5 z) = fho (mK (G 0)) p))) i1
                    try dsimp only at e9
                    first
                      | (rw [bi_t (by omega)] at e9; have ih9 := ih (a + 1, q + 1); dsimp only at ih9; exact ih9 ⟨by omega, by omega, by omega⟩ (by omega))
                      | (rw [bi_f (by omega)] at e9; have ih9 := ih (a + 0, q + 1); dsimp only at ih9; exact ih9 ⟨by omega, by omega, by omega⟩ (by omega))
                  · refine j_iconst dX5_wouldEnd_192 ?_
                    refine j_goto (tgt := 197) dX5_wouldEnd_193 (by decide) ?_
                    refine j_istore (L' := [(0, _), (1, _), (2, _), (6, _), (7, _), (8, _), (9, _), (10, _)]) dX5_wouldEnd_197 (by decide) rfl ?_
                    refine j_iload dX5_wouldEnd_199 rfl ?_
                    refine j_iload dX5_wouldEnd_201 rfl ?_
                    refine j_if_eq (tgt := 210) dX5_wouldEnd_203 (by decide) (by omega) (fun c53 => absurd c53 (by decide)) (fun c53 => ?_)
                    refine j_iconst dX5_wouldEnd_206 ?_
                    refine j_goto (tgt := 211) dX5_wouldEnd_207 (by decide) ?_
                    refine j_iadd dX5_wouldEnd_211 ?_
                    refine j_istore (L' := [(0, _), (1, _), (2, _), (6, _), (7, _), (8, _), (9, _), (10, _)]) dX5_wouldEnd_212 (by decide) rfl ?_
                    refine j_iinc (L' := [(0, _), (1, _), (2, _), (6, _), (7, _), (8, _), (9, _), (10, _)]) dX5_wouldEnd_214 rfl (by decide) rfl ?_
                    refine j_goto (tgt := 97) dX5_wouldEnd_217 (by decide) ?_
                    refine J.keep [0, 1, 2, 6, 7] (L' := [(0, _), (1, _), (2, _), (6, _), (7, _)]) rfl ?_
                    have e9 := csum_s (fun z => bi ((fho (mK (G 0)) (mK (G 0) 4 z) = fho (mK (G 0)) p ∧ fho (mK (G 0)) (mK (G 0) 5 z) = fho (mK (G 0)) o) ∨ (fho (mK (G 0)) (mK (G 0) 4 z) = fho (mK (G 0)) o ∧ fho (mK (G 0)) (mK (G 0) 5 z) = fho (mK (G 0)) p))) i1
                    try dsimp only at e9
                    first
                      | (rw [bi_t (by omega)] at e9; have ih9 := ih (a + 1, q + 1); dsimp only at ih9; exact ih9 ⟨by omega, by omega, by omega⟩ (by omega))
                      | (rw [bi_f (by omega)] at e9; have ih9 := ih (a + 0, q + 1); dsimp only at ih9; exact ih9 ⟨by omega, by omega, by omega⟩ (by omega))
        · dsimp only
          exact ⟨by omega, by omega, rfl⟩
