theorem cmax_r {f : Int → Int} {b : Int} (h : ∀ i, 0 ≤ f i ∧ f i ≤ b) : ∀ k : Nat, 0 ≤ cmax f k ∧ (cmax f k ≤ b ∨ cmax f k = 0)
  | 0 => ⟨Int.le_refl _, Or.inr rfl⟩
  | k + 1 => by
    have h1 := cmax_r h k
    have h2 := h k
    show 0 ≤ max (cmax f k) (f k) ∧ (max (cmax f k) (f k) ≤ b ∨ max (cmax f k) (f k) = 0)
    omega
def m_account (G : fS) (w : Int) : Int × fS := if (bi (0 ≤ w ∧ w ≤ 11)) = 0 then (0, gn G 6 1) else if w = 0 then ((G 0) 0, gn G 6 0) else if w = 1 then (csum (fun c => mK (G 0) 3 c) ((G 0) 0).toNat, gn G 6 0) else if w = 2 then (csum (fun c => bi (mK (G 0) 0 c = -1)) ((G 0) 0).toNat, gn G 6 0) else if w = 3 then (csum (fun z => bi (mK (G 0) 1 z > z)) ((G 0) 0).toNat, gn G 6 0) else if w = 4 then ((G 0) 1, gn G 6 0) else if w = 5 then ((G 0) 2, gn G 6 0) else if w = 6 then (cmax (fun c => fdep (mK (G 0)) c) ((G 0) 0).toNat, gn G 6 0) else if w = 7 then (csum (fun c => mK (G 0) 2 c) ((G 0) 0).toNat, gn G 6 0) else if w = 8 then ((G 0) 3, gn G 6 0) else if w = 9 then ((G 0) 4, gn G 6 0) else if w = 10 then (G 16 0, gn G 6 0) else (G 5 0, gn G 6 0)
set_option maxHeartbeats 4000000 in
/-- reference: account -/
theorem c5_account {k : Nat} {G : fS} {f : Int → Int} {B : Int} {h : jH} (hG : jOb sM k G h) (hf : G 0 = f) (hO : jOk B (mK f)) (hA : fAc (mK f)) {w : Int} (hw : -2147483648 ≤ w ∧ w ≤ 2147483647) : jM mX5_account 3 0 0 [] [.ref k, iv w] h (jWi sM k (m_account G w) h) jno := by
  refine j_method (by decide +kernel) rfl (fun _ _ _ => trivial) (Nat.le_of_ble_eq_true rfl) ?_
  generalize hZ : jZ [] 0 0 _ _ = Z
  show J mX5_account (jR 3 0 0) [] Z 0 [(0, .ref k), (1, iv w)] [] h 0 0
  subst hf
  have hn := mK_n hO
  have hb := hO.b
  have hq2 := mK_q hO
  have hE0 : jEx k 10 h h := jEx.rf
  refine j_aload_n dX5_account_0 rfl rfl ?_
  refine j_iload_n dX5_account_1 rfl rfl ?_
  refine j_iconst dX5_account_2 ?_
  refine j_bipush dX5_account_3 (by decide +kernel) ?_
  refine j_callS (c5_in (by omega)) dX5_account_5 jc_X5_64 jmS_X5_in rfl rfl rfl (by simp) jfr_nil (Nat.le_of_ble_eq_true rfl) ⟨Nat.le_of_ble_eq_true rfl, Nat.le_of_ble_eq_true rfl⟩ ⟨Nat.le_of_ble_eq_true rfl, Nat.le_of_ble_eq_true rfl⟩ (fun r h1 hp9 => ?_) (fun E h9 q => q.elim)
  obtain ⟨rfl, rfl⟩ := hp9
  refine j_if_eq (tgt := 15) dX5_account_8 (by decide) (bi_r32 _) (fun c2 => ?_) (fun c2 => ?_)
  · have qc2 := bi_z c2
    refine j_iconst dX5_account_15 ?_
    refine jo_put (S := sM) dX5_account_16 jf_X5_42 (fun q hq => by cases hq; exact ⟨rfl, rfl⟩) (jHold_int _) okM hG rfl (fun h3 hG3 hX3 => ?_)
    have hE4 := hE0.tr hX3
    refine j_aload_n dX5_account_19 rfl rfl ?_
    refine j_getfield (v := iv 1) dX5_account_20 jf_X5_42 hG3.1 rfl ?_
    refine j_if_le (tgt := 28) dX5_account_23 (by decide) (by omega) (fun c5 => absurd c5 (by decide)) (fun c5 => ?_)
    refine j_iconst dX5_account_26 ?_
    subst hZ
    exact j_ireturn dX5_account_27 rfl rfl (jWi.i (if_pos c2) hG3 hE4) (Nat.le_refl _) (Nat.le_refl _)
  · have qc2 := bi_nz c2
    refine j_iconst dX5_account_11 ?_
    refine j_goto (tgt := 16) dX5_account_12 (by decide) ?_
    refine jo_put (S := sM) dX5_account_16 jf_X5_42 (fun q hq => by cases hq; exact ⟨rfl, rfl⟩) (jHold_int _) okM hG rfl (fun h6 hG6 hX6 => ?_)
    have hE7 := hE0.tr hX6
    refine j_aload_n dX5_account_19 rfl rfl ?_
    refine j_getfield (v := iv 0) dX5_account_20 jf_X5_42 hG6.1 rfl ?_
    refine j_if_le (tgt := 28) dX5_account_23 (by decide) (by omega) (fun c8 => ?_) (fun c8 => absurd (by decide) c8)
    refine j_iconst dX5_account_28 ?_
    refine j_istore_n (L' := [(0, _), (1, _), (2, _)]) dX5_account_29 rfl (by decide) rfl ?_
    refine j_iload_n dX5_account_30 rfl rfl ?_
    by_cases c9 : w = 0
    · refine j_tabIn (tgt := 88) 0 dX5_account_31 c9 (by decide) (by decide) (by decide) rfl (by decide) ?_
      refine j_aload_n dX5_account_88 rfl rfl ?_
      refine j_getfield (v := .ref (k + 1)) dX5_account_89 jf_X5_9 hG6.1 rfl ?_
      refine j_iconst dX5_account_92 ?_
      refine j_iaload (f := G 0) dX5_account_93 (hG6.a 0 1 0 141 rfl) (by omega) (by decide) ?_
      subst hZ
      exact j_ireturn dX5_account_94 rfl rfl (jWi.i ((if_neg c2).trans (if_pos c9)) hG6 hE7) (Nat.le_refl _) (Nat.le_refl _)
    by_cases c10 : w = 1
    · refine j_tabIn (tgt := 95) 1 dX5_account_31 c10 (by decide) (by decide) (by decide) rfl (by decide) ?_
      refine j_aload_n dX5_account_95 rfl rfl ?_
      refine j_callV (c5_living hG6 (f := (G 0)) rfl hO) dX5_account_96 jc_X5_233 jmV_X5_living rfl rfl hG6.1 rfl rfl (by simp) jfr_nil (Nat.le_of_ble_eq_true rfl) ⟨Nat.le_of_ble_eq_true rfl, Nat.le_of_ble_eq_true rfl⟩ ⟨Nat.le_of_ble_eq_true rfl, Nat.le_of_ble_eq_true rfl⟩ (fun r h11 hp9 => ?_) (fun E h9 q => q.elim)
      obtain ⟨rfl, rfl⟩ := hp9
      subst hZ
      exact j_ireturn dX5_account_99 rfl rfl (jWi.i ((if_neg c2).trans ((if_neg c9).trans (if_pos c10))) hG6 hE7) (Nat.le_refl _) (Nat.le_refl _)
    by_cases c12 : w = 2
    · refine j_tabIn (tgt := 100) 2 dX5_account_31 c12 (by decide) (by decide) (by decide) rfl (by decide) ?_
      refine j_aload_n dX5_account_100 rfl rfl ?_
      refine j_callV (c5_oaks hG6 (f := (G 0)) rfl hO) dX5_account_101 jc_X5_108 jmV_X5_oaks rfl rfl hG6.1 rfl rfl (by simp) jfr_nil (Nat.le_of_ble_eq_true rfl) ⟨Nat.le_of_ble_eq_true rfl, Nat.le_of_ble_eq_true rfl⟩ ⟨Nat.le_of_ble_eq_true rfl, Nat.le_of_ble_eq_true rfl⟩ (fun r h13 hp9 => ?_) (fun E h9 q => q.elim)
      obtain ⟨rfl, rfl⟩ := hp9
      have hk9 := csum_bi (P := fun c => mK (G 0) 0 c = -1) ((G 0) 0).toNat
      subst hZ
      exact j_ireturn dX5_account_104 rfl rfl (jWi.i ((if_neg c2).trans ((if_neg c9).trans ((if_neg c10).trans (if_pos c12)))) hG6 hE7) (Nat.le_refl _) (Nat.le_refl _)
    by_cases c14 : w = 3
    · refine j_tabIn (tgt := 105) 3 dX5_account_31 c14 (by decide) (by decide) (by decide) rfl (by decide) ?_
      refine j_iconst dX5_account_105 ?_
      refine j_istore_n (L' := [(0, _), (1, _), (2, _), (3, _)]) dX5_account_106 rfl (by decide) rfl ?_
      refine jloop (P := fun z9 : Int × Int => J mX5_account (jR 3 0 0) [] Z 107 [(0, .ref k), (1, iv w), (2, iv z9.1), (3, iv z9.2)] [] h6 0 0) (fun z9 => 0 ≤ z9.2 ∧ z9.2 ≤ (G 0) 0 ∧ z9.1 = csum (fun z => bi (mK (G 0) 1 z > z)) z9.2.toNat) (fun z9 => ((G 0) 0 - z9.2).toNat) ?_ (0, 0) ?_
      · rintro ⟨a, i⟩ hinv ih
        dsimp only at hinv ih ⊢
        obtain ⟨i1, i2, i3⟩ := hinv
        have z1 := fun q => mK_1 (f := G 0) (p := i) ⟨i1, q⟩
        have z2 : _ ∧ _ < G 0 0 := hO.s i
        refine j_iload_n dX5_account_107 rfl rfl ?_
        refine j_aload_n dX5_account_108 rfl rfl ?_
        refine j_getfield (v := .ref (k + 1)) dX5_account_109 jf_X5_9 hG6.1 rfl ?_
        refine j_iconst dX5_account_112 ?_
        refine j_iaload (f := G 0) dX5_account_113 (hG6.a 0 1 0 141 rfl) (by omega) (by decide) ?_
        refine j_icmp_ge (tgt := 144) dX5_account_114 (by decide) (by omega) (fun c15 => ?_) (fun c15 => ?_)
        · refine j_iload_n dX5_account_144 rfl rfl ?_
          subst hZ
          exact j_ireturn dX5_account_145 rfl rfl (jWi.i ((((if_neg c2).trans ((if_neg c9).trans ((if_neg c10).trans ((if_neg c12).trans (if_pos c14)))))).trans (by rw [i3, show i = (G 0) 0 by omega])) hG6 hE7) (Nat.le_refl _) (Nat.le_refl _)
        · have z3 := z1 (by omega)
          refine j_iload_n dX5_account_117 rfl rfl ?_
          refine j_aload_n dX5_account_118 rfl rfl ?_
          refine j_getfield (v := .ref (k + 1)) dX5_account_119 jf_X5_9 hG6.1 rfl ?_
          refine j_bipush dX5_account_122 (by decide +kernel) ?_
          refine j_iload_n dX5_account_124 rfl rfl ?_
          refine j_iadd dX5_account_125 ?_
          refine j_iaload (f := G 0) dX5_account_126 (hG6.a 0 1 0 141 rfl) (by omega) (by decide) ?_
          refine j_iload_n dX5_account_127 rfl rfl ?_
          refine j_icmp_le (tgt := 135) dX5_account_128 (by decide) (by omega) (fun c16 => ?_) (fun c16 => ?_)
          · refine j_iconst dX5_account_135 ?_
            refine j_iadd dX5_account_136 ?_
            refine j_istore_n (L' := [(0, _), (1, _), (2, _), (3, _)]) dX5_account_137 rfl (by decide) rfl ?_
            refine j_iinc (L' := [(0, _), (1, _), (2, _), (3, _)]) dX5_account_138 rfl (by decide) rfl ?_
            refine j_goto (tgt := 107) dX5_account_141 (by decide) ?_
            have e9 := csum_s (fun z => bi (mK (G 0) 1 z > z)) i1
            try dsimp only at e9
            first
              | (rw [bi_t (by omega)] at e9; have ih9 := ih (a + 1, i + 1); dsimp only at ih9; exact ih9 ⟨by omega, by omega, by omega⟩ (by omega))
              | (rw [bi_f (by omega)] at e9; have ih9 := ih (a + 0, i + 1); dsimp only at ih9; exact ih9 ⟨by omega, by omega, by omega⟩ (by omega))
          · refine j_iconst dX5_account_131 ?_
            refine j_goto (tgt := 136) dX5_account_132 (by decide) ?_
            refine j_iadd dX5_account_136 ?_
            refine j_istore_n (L' := [(0, _), (1, _), (2, _), (3, _)]) dX5_account_137 rfl (by decide) rfl ?_
            refine j_iinc (L' := [(0, _), (1, _), (2, _), (3, _)]) dX5_account_138 rfl (by decide) rfl ?_
            refine j_goto (tgt := 107) dX5_account_141 (by decide) ?_
            have e9 := csum_s (fun z => bi (mK (G 0) 1 z > z)) i1
            try dsimp only at e9
            first
              | (rw [bi_t (by omega)] at e9; have ih9 := ih (a + 1, i + 1); dsimp only at ih9; exact ih9 ⟨by omega, by omega, by omega⟩ (by omega))
              | (rw [bi_f (by omega)] at e9; have ih9 := ih (a + 0, i + 1); dsimp only at ih9; exact ih9 ⟨by omega, by omega, by omega⟩ (by omega))
      · dsimp only
        exact ⟨by omega, by omega, rfl⟩
    by_cases c17 : w = 4
    · refine j_tabIn (tgt := 146) 4 dX5_account_31 c17 (by decide) (by decide) (by decide) rfl (by decide) ?_
      refine j_aload_n dX5_account_146 rfl rfl ?_
      refine j_getfield (v := .ref (k + 1)) dX5_account_147 jf_X5_9 hG6.1 rfl ?_
      refine j_iconst dX5_account_150 ?_
      refine j_iaload (f := G 0) dX5_account_151 (hG6.a 0 1 0 141 rfl) (by omega) (by decide) ?_
      subst hZ
      exact j_ireturn dX5_account_152 rfl rfl (jWi.i ((if_neg c2).trans ((if_neg c9).trans ((if_neg c10).trans ((if_neg c12).trans ((if_neg c14).trans (if_pos c17)))))) hG6 hE7) (Nat.le_refl _) (Nat.le_refl _)
    by_cases c18 : w = 5
    · refine j_tabIn (tgt := 153) 5 dX5_account_31 c18 (by decide) (by decide) (by decide) rfl (by decide) ?_
      refine j_aload_n dX5_account_153 rfl rfl ?_
      refine j_getfield (v := .ref (k + 1)) dX5_account_154 jf_X5_9 hG6.1 rfl ?_
      refine j_iconst dX5_account_157 ?_
      refine j_iaload (f := G 0) dX5_account_158 (hG6.a 0 1 0 141 rfl) (by omega) (by decide) ?_
      subst hZ
      exact j_ireturn dX5_account_159 rfl rfl (jWi.i ((if_neg c2).trans ((if_neg c9).trans ((if_neg c10).trans ((if_neg c12).trans ((if_neg c14).trans ((if_neg c17).trans (if_pos c18))))))) hG6 hE7) (Nat.le_refl _) (Nat.le_refl _)
    by_cases c19 : w = 6
    · refine j_tabIn (tgt := 160) 6 dX5_account_31 c19 (by decide) (by decide) (by decide) rfl (by decide) ?_
      refine j_iconst dX5_account_160 ?_
      refine j_istore_n (L' := [(0, _), (1, _), (2, _), (3, _)]) dX5_account_161 rfl (by decide) rfl ?_
      refine jloop (P := fun z9 : Int × Int => J mX5_account (jR 3 0 0) [] Z 162 [(0, .ref k), (1, iv w), (2, iv z9.1), (3, iv z9.2)] [] h6 0 0) (fun z9 => 0 ≤ z9.2 ∧ z9.2 ≤ G 0 0 ∧ z9.1 = cmax (fun c => fdep (mK (G 0)) c) z9.2.toNat ∧ 0 ≤ z9.1 ∧ z9.1 ≤ 24) (fun z9 => ((G 0) 0 - z9.2).toNat) ?_ (0, 0) ?_
      · rintro ⟨a, i⟩ hinv2 ih2
        dsimp only at hinv2 ih2 ⊢
        obtain ⟨i1, i2, i3, i4, i5⟩ := hinv2
        refine j_iload_n dX5_account_162 rfl rfl ?_
        refine j_aload_n dX5_account_163 rfl rfl ?_
        refine j_getfield (v := .ref (k + 1)) dX5_account_164 jf_X5_9 hG6.1 rfl ?_
        refine j_iconst dX5_account_167 ?_
        refine j_iaload (f := G 0) dX5_account_168 (hG6.a 0 1 0 141 rfl) (by omega) (by decide) ?_
        refine j_icmp_ge (tgt := 188) dX5_account_169 (by decide) (by omega) (fun c20 => ?_) (fun c20 => ?_)
        · refine j_iload_n dX5_account_188 rfl rfl ?_
          subst hZ
          exact j_ireturn dX5_account_189 rfl rfl (jWi.i ((((if_neg c2).trans ((if_neg c9).trans ((if_neg c10).trans ((if_neg c12).trans ((if_neg c14).trans ((if_neg c17).trans ((if_neg c18).trans (if_pos c19))))))))).trans (by rw [i3, show i = (G 0) 0 by omega])) hG6 hE7) (Nat.le_refl _) (Nat.le_refl _)
        · refine j_iload_n dX5_account_172 rfl rfl ?_
          refine j_aload_n dX5_account_173 rfl rfl ?_
          refine j_iload_n dX5_account_174 rfl rfl ?_
          refine j_callV (c5_depth hG6 (f := (G 0)) rfl hO hA (by omega)) dX5_account_175 jc_X5_118 jmV_X5_depth rfl rfl hG6.1 rfl rfl (by simp) jfr_nil (Nat.le_of_ble_eq_true rfl) ⟨Nat.le_of_ble_eq_true rfl, Nat.le_of_ble_eq_true rfl⟩ ⟨Nat.le_of_ble_eq_true rfl, Nat.le_of_ble_eq_true rfl⟩ (fun r h21 hp9 => ?_) (fun E h9 q => q.elim)
          obtain ⟨rfl, rfl⟩ := hp9
          have hd9 := fdep_rg (mK (G 0)) i
          refine j_mmax (jw_mem 1799 (by decide +kernel) (by decide +kernel)) (jw_mem 1003 (by decide +kernel) (by decide +kernel)) (jw_mem 111 (by decide +kernel) (by decide +kernel)) (jw_mem 1004 (by decide +kernel) (by decide +kernel)) (by omega) dX5_account_178 (by decide) (by decide) (Nat.le_of_ble_eq_true rfl) ?_
          refine j_istore_n (L' := [(0, _), (1, _), (2, _), (3, _)]) dX5_account_181 rfl (by decide) rfl ?_
          refine j_iinc (L' := [(0, _), (1, _), (2, _), (3, _)]) dX5_account_182 rfl (by decide) rfl ?_
          refine j_goto (tgt := 162) dX5_account_185 (by decide) ?_
          have e9 := cmax_s (fun c => fdep (mK (G 0)) c) i1
          try dsimp only at e9
          exact ih2 (max a (fdep (mK (G 0)) i), i + 1) ⟨by show 0 ≤ i + 1; omega, by show i + 1 ≤ G 0 0; omega, by show max a (fdep (mK (G 0)) i) = cmax (fun c => fdep (mK (G 0)) c) (i + 1).toNat; omega, by show 0 ≤ max a (fdep (mK (G 0)) i); omega, by show max a (fdep (mK (G 0)) i) ≤ 24; omega⟩ (by show ((G 0) 0 - (i + 1)).toNat < ((G 0) 0 - i).toNat; omega)
      · dsimp only
        exact ⟨by omega, by omega, rfl, by omega, by omega⟩
    by_cases c22 : w = 7
    · refine j_tabIn (tgt := 190) 7 dX5_account_31 c22 (by decide) (by decide) (by decide) rfl (by decide) ?_
      refine j_aload_n dX5_account_190 rfl rfl ?_
      refine j_callV (c5_coins hG6 (f := (G 0)) rfl hO) dX5_account_191 jc_X5_239 jmV_X5_coins rfl rfl hG6.1 rfl rfl (by simp) jfr_nil (Nat.le_of_ble_eq_true rfl) ⟨Nat.le_of_ble_eq_true rfl, Nat.le_of_ble_eq_true rfl⟩ ⟨Nat.le_of_ble_eq_true rfl, Nat.le_of_ble_eq_true rfl⟩ (fun r h23 hp9 => ?_) (fun E h9 q => q.elim)
      obtain ⟨rfl, rfl⟩ := hp9
      subst hZ
      exact j_ireturn dX5_account_194 rfl rfl (jWi.i ((if_neg c2).trans ((if_neg c9).trans ((if_neg c10).trans ((if_neg c12).trans ((if_neg c14).trans ((if_neg c17).trans ((if_neg c18).trans ((if_neg c19).trans (if_pos c22))))))))) hG6 hE7) (Nat.le_refl _) (Nat.le_refl _)
    by_cases c24 : w = 8
    · refine j_tabIn (tgt := 195) 8 dX5_account_31 c24 (by decide) (by decide) (by decide) rfl (by decide) ?_
      refine j_aload_n dX5_account_195 rfl rfl ?_
      refine j_getfield (v := .ref (k + 1)) dX5_account_196 jf_X5_9 hG6.1 rfl ?_
      refine j_iconst dX5_account_199 ?_
      refine j_iaload (f := G 0) dX5_account_200 (hG6.a 0 1 0 141 rfl) (by omega) (by decide) ?_
      subst hZ
      exact j_ireturn dX5_account_201 rfl rfl (jWi.i ((if_neg c2).trans ((if_neg c9).trans ((if_neg c10).trans ((if_neg c12).trans ((if_neg c14).trans ((if_neg c17).trans ((if_neg c18).trans ((if_neg c19).trans ((if_neg c22).trans (if_pos c24)))))))))) hG6 hE7) (Nat.le_refl _) (Nat.le_refl _)
    by_cases c25 : w = 9
    · refine j_tabIn (tgt := 202) 9 dX5_account_31 c25 (by decide) (by decide) (by decide) rfl (by decide) ?_
      refine j_aload_n dX5_account_202 rfl rfl ?_
      refine j_getfield (v := .ref (k + 1)) dX5_account_203 jf_X5_9 hG6.1 rfl ?_
      refine j_iconst dX5_account_206 ?_
      refine j_iaload (f := G 0) dX5_account_207 (hG6.a 0 1 0 141 rfl) (by omega) (by decide) ?_
      subst hZ
      exact j_ireturn dX5_account_208 rfl rfl (jWi.i ((if_neg c2).trans ((if_neg c9).trans ((if_neg c10).trans ((if_neg c12).trans ((if_neg c14).trans ((if_neg c17).trans ((if_neg c18).trans ((if_neg c19).trans ((if_neg c22).trans ((if_neg c24).trans (if_pos c25))))))))))) hG6 hE7) (Nat.le_refl _) (Nat.le_refl _)
    by_cases c26 : w = 10
    · refine j_tabIn (tgt := 209) 10 dX5_account_31 c26 (by decide) (by decide) (by decide) rfl (by decide) ?_
      refine j_aload_n dX5_account_209 rfl rfl ?_
      refine j_getfield (v := iv (G 16 0)) dX5_account_210 jf_X5_204 hG6.1 rfl ?_
      subst hZ
      exact j_ireturn dX5_account_213 rfl rfl (jWi.i ((if_neg c2).trans ((if_neg c9).trans ((if_neg c10).trans ((if_neg c12).trans ((if_neg c14).trans ((if_neg c17).trans ((if_neg c18).trans ((if_neg c19).trans ((if_neg c22).trans ((if_neg c24).trans ((if_neg c25).trans (if_pos c26)))))))))))) hG6 hE7) (Nat.le_refl _) (Nat.le_refl _)
    refine j_tabOut (tgt := 214) dX5_account_31 (by omega) (by omega) (by decide) ?_
    refine j_aload_n dX5_account_214 rfl rfl ?_
    refine j_getfield (v := iv (G 5 0)) dX5_account_215 jf_X5_51 hG6.1 rfl ?_
    subst hZ
    exact j_ireturn dX5_account_218 rfl rfl (jWi.i ((if_neg c2).trans ((if_neg c9).trans ((if_neg c10).trans ((if_neg c12).trans ((if_neg c14).trans ((if_neg c17).trans ((if_neg c18).trans ((if_neg c19).trans ((if_neg c22).trans ((if_neg c24).trans ((if_neg c25).trans (if_neg c26)))))))))))) hG6 hE7) (Nat.le_refl _) (Nat.le_refl _)
noncomputable def m_isWell (G : fS) : Int × fS := (bi ((G 0) 3 = csum (fun c => mK (G 0) 2 c) ((G 0) 0).toNat + (G 0) 4 ∧ csum (fun z => bi (fho (mK (G 0)) (mK (G 0) 4 z) = fho (mK (G 0)) (mK (G 0) 5 z))) ((G 0) 1).toNat = 0), m_tells (gn G 6 0))
theorem csum_big {f : Int → Int} {b : Int} (h : ∀ i, 0 ≤ f i ∧ f i ≤ b) (hb : 0 ≤ b) (k : Nat) : 0 ≤ csum f k ∧ csum f k ≤ k * b := by
  have := csum_rg (f := f) (a := 0) (b := b) h (Int.le_refl _) hb k
  rw [Int.mul_zero] at this
  exact this
theorem csum_co {B : Int} {K : fS} (hO : jOk B K) : 0 ≤ csum (fun c => K 2 c) (K 6 0).toNat ∧ csum (fun c => K 2 c) (K 6 0).toNat ≤ 480000000 := by
  have hn := hO.n
  have hb := hO.b
  have h := csum_big (f := fun c => K 2 c) (b := 20000000) (fun i => by have := hO.c i; omega) (by omega) (K 6 0).toNat
  omega
theorem mcsum_co {B : Int} {f : Int → Int} (hO : jOk B (mK f)) : 0 ≤ csum (fun c => mK f 2 c) (f 0).toNat ∧ csum (fun c => mK f 2 c) (f 0).toNat ≤ 480000000 := csum_co hO
set_option maxHeartbeats 4000000 in
/-- reference: isWell -/
theorem c5_isWell {k : Nat} {G : fS} {f : Int → Int} {B : Int} {h : jH} (hG : jOb sM k G h) (hf : G 0 = f) (hO : jOk B (mK f))  : jM mX5_isWell 5 0 0 [] [.ref k] h (jWi sM k (m_isWell G) h) jno := by
  refine j_method (by decide +kernel) rfl (fun _ _ _ => trivial) (Nat.le_of_ble_eq_true rfl) ?_
  generalize hZ : jZ [] 0 0 _ _ = Z
  show J mX5_isWell (jR 5 0 0) [] Z 0 [(0, .ref k)] [] h 0 0
  subst hf
  have hn := mK_n hO
  have hb := hO.b
  have hq2 := mK_q hO
  have hs9 := mcsum_co hO
  have h9 : 0 ≤ (G 0) 3 ∧ (G 0) 3 ≤ B := hO.g
  have h8 : 0 ≤ (G 0) 4 ∧ (G 0) 4 ≤ B := hO.o
  have hE0 : jEx k 10 h h := jEx.rf
  refine j_aload_n dX5_isWell_0 rfl rfl ?_
  refine j_iconst dX5_isWell_1 ?_
  refine jo_put (S := sM) dX5_isWell_2 jf_X5_42 (fun q hq => by cases hq; exact ⟨rfl, rfl⟩) (jHold_int _) okM hG rfl (fun h1 hG1 hX1 => ?_)
  have hE2 := hE0.tr hX1
  refine j_aload_n dX5_isWell_5 rfl rfl ?_
  refine j_callV (c5_tellsHouses hG1 (f := (G 0)) rfl hO) dX5_isWell_6 jc_X5_155 jmV_X5_tellsHouses rfl rfl hG1.1 rfl rfl (by simp) jfr_nil (Nat.le_of_ble_eq_true rfl) ⟨Nat.le_of_ble_eq_true rfl, Nat.le_of_ble_eq_true rfl⟩ ⟨Nat.le_of_ble_eq_true rfl, Nat.le_of_ble_eq_true rfl⟩ (fun r h3 hp9 => ?_) (fun E h9 q => q.elim)
  obtain ⟨rfl, hG4, hX5⟩ := hp9
  have hE6 := hE2.tr hX5
  refine j_aload_n dX5_isWell_9 rfl rfl ?_
  refine j_getfield (v := .ref (k + 1)) dX5_isWell_10 jf_X5_9 hG4.1 rfl ?_
  refine j_iconst dX5_isWell_13 ?_
  refine j_iaload (f := G 0) dX5_isWell_14 (hG4.a 0 1 0 141 rfl) (by omega) (by decide) ?_
  refine j_aload_n dX5_isWell_15 rfl rfl ?_
  refine j_callV (c5_coins hG4 (f := (G 0)) rfl hO) dX5_isWell_16 jc_X5_239 jmV_X5_coins rfl rfl hG4.1 rfl rfl (by simp) jfr_nil (Nat.le_of_ble_eq_true rfl) ⟨Nat.le_of_ble_eq_true rfl, Nat.le_of_ble_eq_true rfl⟩ ⟨Nat.le_of_ble_eq_true rfl, Nat.le_of_ble_eq_true rfl⟩ (fun r h7 hp9 => ?_) (fun E h9 q => q.elim)
  obtain ⟨rfl, rfl⟩ := hp9
  refine j_aload_n dX5_isWell_19 rfl rfl ?_
  refine j_getfield (v := .ref (k + 1)) dX5_isWell_20 jf_X5_9 hG4.1 rfl ?_
  refine j_iconst dX5_isWell_23 ?_
  refine j_iaload (f := G 0) dX5_isWell_24 (hG4.a 0 1 0 141 rfl) (by omega) (by decide) ?_
  refine j_iadd dX5_isWell_25 ?_
  refine j_icmp_ne (tgt := 33) dX5_isWell_26 (by decide) (by omega) (fun c8 => ?_) (fun c8 => ?_)
  · refine j_iconst dX5_isWell_33 ?_
    refine j_istore_n (L' := [(0, _), (1, _)]) dX5_isWell_34 rfl (by decide) rfl ?_
    refine j_iconst dX5_isWell_35 ?_
    refine j_istore_n (L' := [(0, _), (1, _), (2, _)]) dX5_isWell_36 rfl (by decide) rfl ?_
    refine jloop (P := fun z9 : Int × Int => J mX5_isWell (jR 5 0 0) [] Z 37 [(0, .ref k), (1, iv z9.1), (2, iv z9.2)] [] h3 0 0) (fun z9 => 0 ≤ z9.2 ∧ z9.2 ≤ (G 0) 1 ∧ z9.1 = bi ((G 0) 3 = csum (fun c => mK (G 0) 2 c) ((G 0) 0).toNat + (G 0) 4 ∧ csum (fun z => bi (fho (mK (G 0)) (mK (G 0) 4 z) = fho (mK (G 0)) (mK (G 0) 5 z))) z9.2.toNat = 0)) (fun z9 => ((G 0) 1 - z9.2).toNat) ?_ (0, 0) ?_
    · rintro ⟨a, q⟩ hinv ih
      dsimp only at hinv ih ⊢
      obtain ⟨i1, i2, i3⟩ := hinv
      have i4 : 0 ≤ a ∧ a ≤ 1 := by rw [i3]; exact bi_rg _
      have z6 : G 0 (101 + 2 * q + 1) = G 0 (102 + 2 * q) := congrArg (G 0) (by omega)
      refine j_iload_n dX5_isWell_37 rfl rfl ?_
      refine j_aload_n dX5_isWell_38 rfl rfl ?_
      refine j_getfield (v := .ref (k + 1)) dX5_isWell_39 jf_X5_9 hG4.1 rfl ?_
      refine j_iconst dX5_isWell_42 ?_
      refine j_iaload (f := G 0) dX5_isWell_43 (hG4.a 0 1 0 141 rfl) (by omega) (by decide) ?_
      refine j_icmp_ge (tgt := 100) dX5_isWell_44 (by decide) (by omega) (fun c9 => ?_) (fun c9 => ?_)
      · refine j_iload_n dX5_isWell_100 rfl rfl ?_
        subst hZ
        exact j_ireturn dX5_isWell_101 rfl (by rw [i3]; exact bi_nar _) (jWi.i (by unfold m_isWell; rw [i3, show q = (G 0) 1 by omega]) hG4 hE6) (Nat.le_refl _) (Nat.le_refl _)
      · have z3 := hO.qq q i1 (by show q < G 0 1; omega)
        have z4 := mK_4 (f := G 0) (p := q) (by omega)
        have z5 := mK_5 (f := G 0) (p := q) (by omega)
        have z7 : 0 ≤ G 0 (101 + 2 * q) ∧ G 0 (101 + 2 * q) < G 0 0 := ⟨by rw [← z4]; exact z3.1.1, by rw [← z4]; exact z3.1.2⟩
        have z8 : 0 ≤ G 0 (101 + 2 * q + 1) ∧ G 0 (101 + 2 * q + 1) < G 0 0 := ⟨by rw [z6, ← z5]; exact z3.2.1, by rw [z6, ← z5]; exact z3.2.2⟩
        have y1 : m_hrow (gn G 6 0) (G 0 (101 + 2 * q)) = fho (mK (G 0)) (mK (G 0) 4 q) := by rw [z4]; exact m_hrow_in (G := (gn G 6 0)) z7
        have y2 : m_hrow (gn G 6 0) (G 0 (101 + 2 * q + 1)) = fho (mK (G 0)) (mK (G 0) 5 q) := by rw [z5, ← z6]; exact m_hrow_in (G := (gn G 6 0)) z8
        have x1 := m_hrow_rg (G := (gn G 6 0)) hO z7
        have x2 := m_hrow_rg (G := (gn G 6 0)) hO z8
        refine j_iload_n dX5_isWell_47 rfl rfl ?_
        refine j_if_eq (tgt := 92) dX5_isWell_48 (by decide) (by omega) (fun c10 => ?_) (fun c10 => ?_)
        · have qa0 := c10
          refine j_iconst dX5_isWell_92 ?_
          refine j_istore_n (L' := [(0, _), (1, _), (2, _)]) dX5_isWell_93 rfl (by decide) rfl ?_
          refine j_iinc (L' := [(0, _), (1, _), (2, _)]) dX5_isWell_94 rfl (by decide) rfl ?_
          refine j_goto (tgt := 37) dX5_isWell_97 (by decide) ?_
          have e9 := csum_s (fun z => bi (fho (mK (G 0)) (mK (G 0) 4 z) = fho (mK (G 0)) (mK (G 0) 5 z))) i1
          try dsimp only at e9
          have e8 : 0 ≤ csum (fun z => bi (fho (mK (G 0)) (mK (G 0) 4 z) = fho (mK (G 0)) (mK (G 0) 5 z))) q.toNat := (csum_bi (P := fun z => fho (mK (G 0)) (mK (G 0) 4 z) = fho (mK (G 0)) (mK (G 0) 5 z)) q.toNat).1
          first
            | (have e7 := bi_z (c := (G 0) 3 = csum (fun c => mK (G 0) 2 c) ((G 0) 0).toNat + (G 0) 4 ∧ csum (fun z => bi (fho (mK (G 0)) (mK (G 0) 4 z) = fho (mK (G 0)) (mK (G 0) 5 z))) q.toNat = 0) (by rw [← i3]; exact qa0); have e6 := bi_rg (fho (mK (G 0)) (mK (G 0) 4 q) = fho (mK (G 0)) (mK (G 0) 5 q)); have ih9 := ih (0, q + 1); dsimp only at ih9; exact ih9 ⟨by omega, by omega, (bi_f fun e => e7 ⟨e.1, by omega⟩).symm⟩ (by omega))
            | (rw [bi_t (by rw [← y1, ← y2]; exact qe)] at e9; have ih9 := ih (0, q + 1); dsimp only at ih9; exact ih9 ⟨by omega, by omega, (bi_f fun e => by omega).symm⟩ (by omega))
        · have qa1 := c10
          refine j_aload_n dX5_isWell_51 rfl rfl ?_
          refine j_getfield (v := .ref (k + 6)) dX5_isWell_52 jf_X5_25 hG4.1 rfl ?_
          refine j_aload_n dX5_isWell_55 rfl rfl ?_
          refine j_getfield (v := .ref (k + 1)) dX5_isWell_56 jf_X5_9 hG4.1 rfl ?_
          refine j_bipush dX5_isWell_59 (by decide +kernel) ?_
          refine j_iconst dX5_isWell_61 ?_
          refine j_iload_n dX5_isWell_62 rfl rfl ?_
          refine j_imul dX5_isWell_63 ?_
          refine j_iadd dX5_isWell_64 ?_
          refine j_iaload (f := G 0) dX5_isWell_65 (hG4.a 0 1 0 141 rfl) (by omega) (by decide) ?_
          refine j_iaload (f := m_hrow (gn G 6 0)) dX5_isWell_66 (hG4.a 12 6 0 24 rfl) (by omega) (by decide) ?_
          refine j_aload_n dX5_isWell_67 rfl rfl ?_
          refine j_getfield (v := .ref (k + 6)) dX5_isWell_68 jf_X5_25 hG4.1 rfl ?_
          refine j_aload_n dX5_isWell_71 rfl rfl ?_
          refine j_getfield (v := .ref (k + 1)) dX5_isWell_72 jf_X5_9 hG4.1 rfl ?_
          refine j_bipush dX5_isWell_75 (by decide +kernel) ?_
          refine j_iconst dX5_isWell_77 ?_
          refine j_iload_n dX5_isWell_78 rfl rfl ?_
          refine j_imul dX5_isWell_79 ?_
          refine j_iadd dX5_isWell_80 ?_
          refine j_iconst dX5_isWell_81 ?_
          refine j_iadd dX5_isWell_82 ?_
          refine j_iaload (f := G 0) dX5_isWell_83 (hG4.a 0 1 0 141 rfl) (by omega) (by decide) ?_
          refine j_iaload (f := m_hrow (gn G 6 0)) dX5_isWell_84 (hG4.a 12 6 0 24 rfl) (by omega) (by decide) ?_
          refine j_icmp_eq (tgt := 92) dX5_isWell_85 (by decide) (by omega) (fun c11 => ?_) (fun c11 => ?_)
          · have qe := c11
            refine j_iconst dX5_isWell_92 ?_
            refine j_istore_n (L' := [(0, _), (1, _), (2, _)]) dX5_isWell_93 rfl (by decide) rfl ?_
            refine j_iinc (L' := [(0, _), (1, _), (2, _)]) dX5_isWell_94 rfl (by decide) rfl ?_
            refine j_goto (tgt := 37) dX5_isWell_97 (by decide) ?_
            have e9 := csum_s (fun z => bi (fho (mK (G 0)) (mK (G 0) 4 z) = fho (mK (G 0)) (mK (G 0) 5 z))) i1
            try dsimp only at e9
            have e8 : 0 ≤ csum (fun z => bi (fho (mK (G 0)) (mK (G 0) 4 z) = fho (mK (G 0)) (mK (G 0) 5 z))) q.toNat := (csum_bi (P := fun z => fho (mK (G 0)) (mK (G 0) 4 z) = fho (mK (G 0)) (mK (G 0) 5 z)) q.toNat).1
            first
              | (have e7 := bi_z (c := (G 0) 3 = csum (fun c => mK (G 0) 2 c) ((G 0) 0).toNat + (G 0) 4 ∧ csum (fun z => bi (fho (mK (G 0)) (mK (G 0) 4 z) = fho (mK (G 0)) (mK (G 0) 5 z))) q.toNat = 0) (by rw [← i3]; exact qa0); have e6 := bi_rg (fho (mK (G 0)) (mK (G 0) 4 q) = fho (mK (G 0)) (mK (G 0) 5 q)); have ih9 := ih (0, q + 1); dsimp only at ih9; exact ih9 ⟨by omega, by omega, (bi_f fun e => e7 ⟨e.1, by omega⟩).symm⟩ (by omega))
              | (rw [bi_t (by rw [← y1, ← y2]; exact qe)] at e9; have ih9 := ih (0, q + 1); dsimp only at ih9; exact ih9 ⟨by omega, by omega, (bi_f fun e => by omega).symm⟩ (by omega))
          · have qn := c11
            refine j_iconst dX5_isWell_88 ?_
            refine j_goto (tgt := 93) dX5_isWell_89 (by decide) ?_
            refine j_istore_n (L' := [(0, _), (1, _), (2, _)]) dX5_isWell_93 rfl (by decide) rfl ?_
            refine j_iinc (L' := [(0, _), (1, _), (2, _)]) dX5_isWell_94 rfl (by decide) rfl ?_
            refine j_goto (tgt := 37) dX5_isWell_97 (by decide) ?_
            have e9 := csum_s (fun z => bi (fho (mK (G 0)) (mK (G 0) 4 z) = fho (mK (G 0)) (mK (G 0) 5 z))) i1
            try dsimp only at e9
            have e8 : 0 ≤ csum (fun z => bi (fho (mK (G 0)) (mK (G 0) 4 z) = fho (mK (G 0)) (mK (G 0) 5 z))) q.toNat := (csum_bi (P := fun z => fho (mK (G 0)) (mK (G 0) 4 z) = fho (mK (G 0)) (mK (G 0) 5 z)) q.toNat).1
            rw [bi_f (by rw [← y1, ← y2]; exact qn)] at e9
            have e7 := bi_nz (c := (G 0) 3 = csum (fun c => mK (G 0) 2 c) ((G 0) 0).toNat + (G 0) 4 ∧ csum (fun z => bi (fho (mK (G 0)) (mK (G 0) 4 z) = fho (mK (G 0)) (mK (G 0) 5 z))) q.toNat = 0) (by rw [← i3]; exact qa1)
            have ih9 := ih (1, q + 1); dsimp only at ih9; exact ih9 ⟨by omega, by omega, (bi_t ⟨e7.1, by omega⟩).symm⟩ (by omega)
    · dsimp only
      exact ⟨by omega, by omega, (bi_f fun e => by first | exact c2 e.1 | exact c3 e.1 | exact c4 e.1 | exact c5 e.1 | exact c6 e.1 | exact c7 e.1 | exact c8 e.1 | exact c9 e.1).symm⟩
  · refine j_iconst dX5_isWell_29 ?_
    refine j_goto (tgt := 34) dX5_isWell_30 (by decide) ?_
    refine j_istore_n (L' := [(0, _), (1, _)]) dX5_isWell_34 rfl (by decide) rfl ?_
    refine j_iconst dX5_isWell_35 ?_
    refine j_istore_n (L' := [(0, _), (1, _), (2, _)]) dX5_isWell_36 rfl (by decide) rfl ?_
    refine jloop (P := fun z9 : Int × Int => J mX5_isWell (jR 5 0 0) [] Z 37 [(0, .ref k), (1, iv z9.1), (2, iv z9.2)] [] h3 0 0) (fun z9 => 0 ≤ z9.2 ∧ z9.2 ≤ (G 0) 1 ∧ z9.1 = bi ((G 0) 3 = csum (fun c => mK (G 0) 2 c) ((G 0) 0).toNat + (G 0) 4 ∧ csum (fun z => bi (fho (mK (G 0)) (mK (G 0) 4 z) = fho (mK (G 0)) (mK (G 0) 5 z))) z9.2.toNat = 0)) (fun z9 => ((G 0) 1 - z9.2).toNat) ?_ (1, 0) ?_
    · rintro ⟨a, q⟩ hinv ih
      dsimp only at hinv ih ⊢
      obtain ⟨i1, i2, i3⟩ := hinv
      have i4 : 0 ≤ a ∧ a ≤ 1 := by rw [i3]; exact bi_rg _
      have z6 : G 0 (101 + 2 * q + 1) = G 0 (102 + 2 * q) := congrArg (G 0) (by omega)
      refine j_iload_n dX5_isWell_37 rfl rfl ?_
      refine j_aload_n dX5_isWell_38 rfl rfl ?_
      refine j_getfield (v := .ref (k + 1)) dX5_isWell_39 jf_X5_9 hG4.1 rfl ?_
      refine j_iconst dX5_isWell_42 ?_
      refine j_iaload (f := G 0) dX5_isWell_43 (hG4.a 0 1 0 141 rfl) (by omega) (by decide) ?_
      refine j_icmp_ge (tgt := 100) dX5_isWell_44 (by decide) (by omega) (fun c12 => ?_) (fun c12 => ?_)
      · refine j_iload_n dX5_isWell_100 rfl rfl ?_
        subst hZ
        exact j_ireturn dX5_isWell_101 rfl (by rw [i3]; exact bi_nar _) (jWi.i (by unfold m_isWell; rw [i3, show q = (G 0) 1 by omega]) hG4 hE6) (Nat.le_refl _) (Nat.le_refl _)
      · have z3 := hO.qq q i1 (by show q < G 0 1; omega)
        have z4 := mK_4 (f := G 0) (p := q) (by omega)
        have z5 := mK_5 (f := G 0) (p := q) (by omega)
        have z7 : 0 ≤ G 0 (101 + 2 * q) ∧ G 0 (101 + 2 * q) < G 0 0 := ⟨by rw [← z4]; exact z3.1.1, by rw [← z4]; exact z3.1.2⟩
        have z8 : 0 ≤ G 0 (101 + 2 * q + 1) ∧ G 0 (101 + 2 * q + 1) < G 0 0 := ⟨by rw [z6, ← z5]; exact z3.2.1, by rw [z6, ← z5]; exact z3.2.2⟩
        have y1 : m_hrow (gn G 6 0) (G 0 (101 + 2 * q)) = fho (mK (G 0)) (mK (G 0) 4 q) := by rw [z4]; exact m_hrow_in (G := (gn G 6 0)) z7
        have y2 : m_hrow (gn G 6 0) (G 0 (101 + 2 * q + 1)) = fho (mK (G 0)) (mK (G 0) 5 q) := by rw [z5, ← z6]; exact m_hrow_in (G := (gn G 6 0)) z8
        have x1 := m_hrow_rg (G := (gn G 6 0)) hO z7
        have x2 := m_hrow_rg (G := (gn G 6 0)) hO z8
        refine j_iload_n dX5_isWell_47 rfl rfl ?_
        refine j_if_eq (tgt := 92) dX5_isWell_48 (by decide) (by omega) (fun c13 => ?_) (fun c13 => ?_)
        · have qa0 := c13
          refine j_iconst dX5_isWell_92 ?_
          refine j_istore_n (L' := [(0, _), (1, _), (2, _)]) dX5_isWell_93 rfl (by decide) rfl ?_
          refine j_iinc (L' := [(0, _), (1, _), (2, _)]) dX5_isWell_94 rfl (by decide) rfl ?_
          refine j_goto (tgt := 37) dX5_isWell_97 (by decide) ?_
          have e9 := csum_s (fun z => bi (fho (mK (G 0)) (mK (G 0) 4 z) = fho (mK (G 0)) (mK (G 0) 5 z))) i1
          try dsimp only at e9
          have e8 : 0 ≤ csum (fun z => bi (fho (mK (G 0)) (mK (G 0) 4 z) = fho (mK (G 0)) (mK (G 0) 5 z))) q.toNat := (csum_bi (P := fun z => fho (mK (G 0)) (mK (G 0) 4 z) = fho (mK (G 0)) (mK (G 0) 5 z)) q.toNat).1
          first
            | (have e7 := bi_z (c := (G 0) 3 = csum (fun c => mK (G 0) 2 c) ((G 0) 0).toNat + (G 0) 4 ∧ csum (fun z => bi (fho (mK (G 0)) (mK (G 0) 4 z) = fho (mK (G 0)) (mK (G 0) 5 z))) q.toNat = 0) (by rw [← i3]; exact qa0); have e6 := bi_rg (fho (mK (G 0)) (mK (G 0) 4 q) = fho (mK (G 0)) (mK (G 0) 5 q)); have ih9 := ih (0, q + 1); dsimp only at ih9; exact ih9 ⟨by omega, by omega, (bi_f fun e => e7 ⟨e.1, by omega⟩).symm⟩ (by omega))
            | (rw [bi_t (by rw [← y1, ← y2]; exact qe)] at e9; have ih9 := ih (0, q + 1); dsimp only at ih9; exact ih9 ⟨by omega, by omega, (bi_f fun e => by omega).symm⟩ (by omega))
        · have qa1 := c13
          refine j_aload_n dX5_isWell_51 rfl rfl ?_
          refine j_getfield (v := .ref (k + 6)) dX5_isWell_52 jf_X5_25 hG4.1 rfl ?_
          refine j_aload_n dX5_isWell_55 rfl rfl ?_
          refine j_getfield (v := .ref (k + 1)) dX5_isWell_56 jf_X5_9 hG4.1 rfl ?_
          refine j_bipush dX5_isWell_59 (by decide +kernel) ?_
          refine j_iconst dX5_isWell_61 ?_
          refine j_iload_n dX5_isWell_62 rfl rfl ?_
          refine j_imul dX5_isWell_63 ?_
          refine j_iadd dX5_isWell_64 ?_
          refine j_iaload (f := G 0) dX5_isWell_65 (hG4.a 0 1 0 141 rfl) (by omega) (by decide) ?_
          refine j_iaload (f := m_hrow (gn G 6 0)) dX5_isWell_66 (hG4.a 12 6 0 24 rfl) (by omega) (by decide) ?_
          refine j_aload_n dX5_isWell_67 rfl rfl ?_
          refine j_getfield (v := .ref (k + 6)) dX5_isWell_68 jf_X5_25 hG4.1 rfl ?_
          refine j_aload_n dX5_isWell_71 rfl rfl ?_
          refine j_getfield (v := .ref (k + 1)) dX5_isWell_72 jf_X5_9 hG4.1 rfl ?_
          refine j_bipush dX5_isWell_75 (by decide +kernel) ?_
          refine j_iconst dX5_isWell_77 ?_
          refine j_iload_n dX5_isWell_78 rfl rfl ?_
          refine j_imul dX5_isWell_79 ?_
          refine j_iadd dX5_isWell_80 ?_
          refine j_iconst dX5_isWell_81 ?_
          refine j_iadd dX5_isWell_82 ?_
          refine j_iaload (f := G 0) dX5_isWell_83 (hG4.a 0 1 0 141 rfl) (by omega) (by decide) ?_
          refine j_iaload (f := m_hrow (gn G 6 0)) dX5_isWell_84 (hG4.a 12 6 0 24 rfl) (by omega) (by decide) ?_
          refine j_icmp_eq (tgt := 92) dX5_isWell_85 (by decide) (by omega) (fun c14 => ?_) (fun c14 => ?_)
          · have qe := c14
            refine j_iconst dX5_isWell_92 ?_
            refine j_istore_n (L' := [(0, _), (1, _), (2, _)]) dX5_isWell_93 rfl (by decide) rfl ?_
            refine j_iinc (L' := [(0, _), (1, _), (2, _)]) dX5_isWell_94 rfl (by decide) rfl ?_
            refine j_goto (tgt := 37) dX5_isWell_97 (by decide) ?_
            have e9 := csum_s (fun z => bi (fho (mK (G 0)) (mK (G 0) 4 z) = fho (mK (G 0)) (mK (G 0) 5 z))) i1
            try dsimp only at e9
            have e8 : 0 ≤ csum (fun z => bi (fho (mK (G 0)) (mK (G 0) 4 z) = fho (mK (G 0)) (mK (G 0) 5 z))) q.toNat := (csum_bi (P := fun z => fho (mK (G 0)) (mK (G 0) 4 z) = fho (mK (G 0)) (mK (G 0) 5 z)) q.toNat).1
            first
              | (have e7 := bi_z (c := (G 0) 3 = csum (fun c => mK (G 0) 2 c) ((G 0) 0).toNat + (G 0) 4 ∧ csum (fun z => bi (fho (mK (G 0)) (mK (G 0) 4 z) = fho (mK (G 0)) (mK (G 0) 5 z))) q.toNat = 0) (by rw [← i3]; exact qa0); have e6 := bi_rg (fho (mK (G 0)) (mK (G 0) 4 q) = fho (mK (G 0)) (mK (G 0) 5 q)); have ih9 := ih (0, q + 1); dsimp only at ih9; exact ih9 ⟨by omega, by omega, (bi_f fun e => e7 ⟨e.1, by omega⟩).symm⟩ (by omega))
              | (rw [bi_t (by rw [← y1, ← y2]; exact qe)] at e9; have ih9 := ih (0, q + 1); dsimp only at ih9; exact ih9 ⟨by omega, by omega, (bi_f fun e => by omega).symm⟩ (by omega))
          · have qn := c14
            refine j_iconst dX5_isWell_88 ?_
            refine j_goto (tgt := 93) dX5_isWell_89 (by decide) ?_
            refine j_istore_n (L' := [(0, _), (1, _), (2, _)]) dX5_isWell_93 rfl (by decide) rfl ?_
            refine j_iinc (L' := [(0, _), (1, _), (2, _)]) dX5_isWell_94 rfl (by decide) rfl ?_
            refine j_goto (tgt := 37) dX5_isWell_97 (by decide) ?_
            have e9 := csum_s (fun z => bi (fho (mK (G 0)) (mK (G 0) 4 z) = fho (mK (G 0)) (mK (G 0) 5 z))) i1
            try dsimp only at e9
            have e8 : 0 ≤ csum (fun z => bi (fho (mK (G 0)) (mK (G 0) 4 z) = fho (mK (G 0)) (mK (G 0) 5 z))) q.toNat := (csum_bi (P := fun z => fho (mK (G 0)) (mK (G 0) 4 z) = fho (mK (G 0)) (mK (G 0) 5 z)) q.toNat).1
            rw [bi_f (by rw [← y1, ← y2]; exact qn)] at e9
            have e7 := bi_nz (c := (G 0) 3 = csum (fun c => mK (G 0) 2 c) ((G 0) 0).toNat + (G 0) 4 ∧ csum (fun z => bi (fho (mK (G 0)) (mK (G 0) 4 z) = fho (mK (G 0)) (mK (G 0) 5 z))) q.toNat = 0) (by rw [← i3]; exact qa1)
            have ih9 := ih (1, q + 1); dsimp only at ih9; exact ih9 ⟨by omega, by omega, (bi_t ⟨e7.1, by omega⟩).symm⟩ (by omega)
    · dsimp only
      exact ⟨by omega, by omega, (bi_t ⟨by assumption, rfl⟩).symm⟩
