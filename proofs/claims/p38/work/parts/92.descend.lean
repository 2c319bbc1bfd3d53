/-! THE LAW'S DESCEND -/
set_option maxHeartbeats 8000000 in
theorem m_descend {B : Int} {K : fS} {P : Int → fS} {n : Int} {h : jH} (hC : lC B K P n h) {p many : Int} (hp : 0 ≤ p ∧ p < K 6 0) (hm : many = ((des K 24 p).length : Int)) : jM mL_descend 9 4000 24000 [300] [.ref 0, iv p, iv many] h (jRet (iv 1) h) jno := by
  have hn := hC.n
  have hO := hC.O
  have hA := hC.A
  have hl := des_len hO hA 24 (p := p) (by omega)
  refine j_method (by decide +kernel) rfl (fun _ _ _ => trivial) (Nat.le_of_ble_eq_true rfl) ?_
  generalize hZ : jZ [300] 4000 24000 _ _ = Z
  show J mL_descend (jR 9 4000 24000) [300] Z 0 [(0, .ref 0), (1, iv p), (2, iv many)] [] h 0 0
  refine j_iload_n dL_descend_0 rfl rfl ?_
  refine j_istore_n (L' := [(0, _), (1, _), (2, _), (3, _)]) dL_descend_1 rfl (Nat.le_of_ble_eq_true rfl) rfl ?_
  refine j_iconst dL_descend_2 ?_
  refine j_istore (L' := [(0, _), (1, _), (2, _), (3, _), (4, _)]) dL_descend_3 (Nat.le_of_ble_eq_true rfl) rfl ?_
  refine j_iconst dL_descend_5 ?_
  refine j_istore (L' := [(0, _), (1, _), (2, _), (3, _), (4, _), (5, _)]) dL_descend_6 (Nat.le_of_ble_eq_true rfl) rfl ?_
  refine jloop (P := fun z9 : Int × Int × Int × Nat × Nat => J mL_descend (jR 9 4000 24000) [300] Z 8 [(0, .ref 0), (1, iv p), (2, iv many), (3, iv z9.2.1), (4, iv z9.2.2.1), (5, iv z9.1)] [] h z9.2.2.2.1 z9.2.2.2.2) (fun z9 => (0 ≤ z9.1 ∧ z9.1 ≤ many) ∧ (p :: des K 24 p)[z9.1.toNat]? = some z9.2.1 ∧ ((z9.1 = 0 ∧ z9.2.2.1 = -1) ∨ (0 < z9.1 ∧ z9.2.2.1 = z9.2.1)) ∧ (z9.2.2.2.1 : Int) + 160 * (24 - z9.1) ≤ 3840 ∧ z9.2.2.2.2 ≤ 6 * z9.2.2.2.1) (fun z9 => (24 - z9.1).toNat) ?_ (0, p, -1, 0, 0) ?_
  · rintro ⟨i, u, la, nc8, ns8⟩ hinv8 ih8
    dsimp only at hinv8 ih8 ⊢
    obtain ⟨i1, i2, i3, b1, b2⟩ := hinv8
    refine j_iload dL_descend_8 rfl ?_
    refine j_iload_n dL_descend_10 rfl rfl ?_
    refine j_icmp_ge (tgt := 178) dL_descend_11 (by decide) (by omega) (fun c11 => ?_) (fun c11 => ?_)
    · have hie : i = many := by omega
      refine j_aload_n dL_descend_178 rfl rfl ?_
      refine j_iload_n dL_descend_179 rfl rfl ?_
      refine j_iload_n dL_descend_180 rfl rfl ?_
      refine j_callSW (l_descendantN hC (p := p) (q := many) hp (by omega) (by omega)) dL_descend_181 jc_L_196 jmS_L_descendant (fun q => by cases q) rfl rfl (by decide) (jfr_of rfl rfl) (Nat.le_of_ble_eq_true rfl) ⟨Nat.le_of_ble_eq_true rfl, Nat.le_of_ble_eq_true rfl⟩ (show nc8 + 2 ≤ 4000 ∧ ns8 + 12 ≤ 24000 by omega) (fun r h1 hp9 => ?_)
      obtain ⟨rfl, rfl⟩ := hp9
      refine j_bipush dL_descend_184 (by decide +kernel) ?_
      refine j_icmp_ne (tgt := 218) dL_descend_186 (by decide) (by omega) (fun c186 => (False.elim (by omega))) (fun c186 => ?_)
      refine j_aload_n dL_descend_189 rfl rfl ?_
      refine j_iload_n dL_descend_190 rfl rfl ?_
      refine j_iconst dL_descend_191 ?_
      refine j_callSW (l_descendantN hC (p := p) (q := -1) hp (by omega) (by omega)) dL_descend_192 jc_L_196 jmS_L_descendant (fun q => by cases q) rfl rfl (by decide) (jfr_of rfl rfl) (Nat.le_of_ble_eq_true rfl) ⟨Nat.le_of_ble_eq_true rfl, Nat.le_of_ble_eq_true rfl⟩ (show nc8 + 2 + 2 ≤ 4000 ∧ ns8 + 12 + 12 ≤ 24000 by omega) (fun r h2 hp9 => ?_)
      obtain ⟨rfl, rfl⟩ := hp9
      refine j_bipush dL_descend_195 (by decide +kernel) ?_
      refine j_icmp_ne (tgt := 218) dL_descend_197 (by decide) (by omega) (fun c197 => (False.elim (by omega))) (fun c197 => ?_)
      refine j_iload_n dL_descend_200 rfl rfl ?_
      refine j_if_eq (tgt := 214) dL_descend_201 (by decide) (by omega) (fun c201 => ?_) (fun c201 => ?_)
      · refine j_iconst dL_descend_214 ?_
        refine j_goto (tgt := 219) dL_descend_215 (by decide) ?_
        subst hZ
        exact j_ireturn dL_descend_219 rfl rfl ⟨rfl, rfl⟩ (show nc8 + 2 + 2 ≤ 4000 by omega) (show ns8 + 12 + 12 ≤ 24000 by omega)
      · have hlu : la = u := by omega
        have hur := des_hd hp i2
        have hz8 := des_last hO hA hp i2 (by omega)
        rw [← hlu] at hz8 hur
        refine j_aload_n dL_descend_204 rfl rfl ?_
        refine j_iload dL_descend_205 rfl ?_
        refine j_iconst dL_descend_207 ?_
        refine j_callSW (l_of2 hC (p := la) (by omega)) dL_descend_208 jc_L_151 jmS_L_of (fun q => by cases q) rfl rfl (by decide) (jfr_of rfl rfl) (Nat.le_of_ble_eq_true rfl) ⟨Nat.le_of_ble_eq_true rfl, Nat.le_of_ble_eq_true rfl⟩ (show nc8 + 2 + 2 + 2 ≤ 4000 ∧ ns8 + 12 + 12 + 12 ≤ 24000 by omega) (fun r h3 hp9 => ?_)
        obtain ⟨rfl, rfl⟩ := hp9
        refine j_if_ne (tgt := 218) dL_descend_211 (by decide) (by omega) (fun c211 => (False.elim (by omega))) (fun c211 => ?_)
        refine j_iconst dL_descend_214 ?_
        refine j_goto (tgt := 219) dL_descend_215 (by decide) ?_
        subst hZ
        exact j_ireturn dL_descend_219 rfl rfl ⟨rfl, rfl⟩ (show nc8 + 2 + 2 + 2 ≤ 4000 by omega) (show ns8 + 12 + 12 + 12 ≤ 24000 by omega)
    · obtain ⟨v, hv⟩ : ∃ v, (des K 24 p)[i.toNat]? = some v := ⟨_, List.getElem?_eq_getElem (by omega)⟩
      obtain ⟨hu1, hv1, hpv, j, hd⟩ := des_step hO hA hp i2 hv
      have hj := hd.l hO hA
      have hpv2 := hO.p v
      refine j_aload_n dL_descend_14 rfl rfl ?_
      refine j_iload_n dL_descend_15 rfl rfl ?_
      refine j_iload dL_descend_16 rfl ?_
      refine j_callSW ((l_descendantY hC (p := p) (q := i) hp (by omega)).is (y := v) (by rw [hv]; rfl)) dL_descend_18 jc_L_196 jmS_L_descendant (fun q => by cases q) rfl rfl (by decide) (jfr_of rfl rfl) (Nat.le_of_ble_eq_true rfl) ⟨Nat.le_of_ble_eq_true rfl, Nat.le_of_ble_eq_true rfl⟩ (show nc8 + 2 ≤ 4000 ∧ ns8 + 12 ≤ 24000 by omega) (fun r h4 hp9 => ?_)
      obtain ⟨rfl, rfl⟩ := hp9
      refine j_istore (L' := [(0, _), (1, _), (2, _), (3, _), (4, _), (5, _), (6, _)]) dL_descend_21 (Nat.le_of_ble_eq_true rfl) rfl ?_
      refine j_iload dL_descend_23 rfl ?_
      refine j_if_ge (tgt := 32) dL_descend_25 (by decide) (by omega) (fun c25 => ?_) (fun c25 => (False.elim (by omega)))
      refine j_aload_n dL_descend_32 rfl rfl ?_
      refine j_iload dL_descend_33 rfl ?_
      refine j_iconst dL_descend_35 ?_
      refine j_callSW (l_of0 hC (p := v) (by omega)) dL_descend_36 jc_L_151 jmS_L_of (fun q => by cases q) rfl rfl (by decide) (jfr_of rfl rfl) (Nat.le_of_ble_eq_true rfl) ⟨Nat.le_of_ble_eq_true rfl, Nat.le_of_ble_eq_true rfl⟩ (show nc8 + 2 + 2 ≤ 4000 ∧ ns8 + 12 + 12 ≤ 24000 by omega) (fun r h5 hp9 => ?_)
      obtain ⟨rfl, rfl⟩ := hp9
      refine j_istore (L' := [(0, _), (1, _), (2, _), (3, _), (4, _), (5, _), (6, _), (7, _)]) dL_descend_39 (Nat.le_of_ble_eq_true rfl) rfl ?_
      refine j_iload dL_descend_41 rfl ?_
      refine j_if_ge (tgt := 48) dL_descend_43 (by decide) (by omega) (fun c43 => ?_) (fun c43 => (False.elim (by omega)))
      refine j_iload_n dL_descend_48 rfl rfl ?_
      refine j_istore (L' := [(0, _), (1, _), (2, _), (3, _), (4, _), (5, _), (6, _), (7, _), (8, _)]) dL_descend_49 (Nat.le_of_ble_eq_true rfl) rfl ?_
      refine jloop (P := fun z9 : Int × Nat × Nat × Nat => J mL_descend (jR 9 4000 24000) [300] Z 51 [(0, .ref 0), (1, iv p), (2, iv many), (3, iv u), (4, iv la), (5, iv i), (6, iv v), (7, iv (K 0 v)), (8, iv z9.1)] [] h z9.2.2.1 z9.2.2.2) (fun z9 => z9.2.1 ≤ j ∧ z9.1 = upk (K 0) z9.2.1 u ∧ (0 ≤ z9.1 ∧ z9.1 < K 6 0) ∧ (z9.2.2.1 : Int) + 4 * ((j : Int) - z9.2.1) ≤ nc8 + 4 + 96 ∧ z9.2.2.2 ≤ 6 * z9.2.2.1) (fun z9 => j - z9.2.1) ?_ (u, 0, nc8 + 2 + 2, ns8 + 12 + 12) ?_
      · rintro ⟨w, k, nc51, ns51⟩ hinv51 ih51
        dsimp only at hinv51 ih51 ⊢
        obtain ⟨k1, k2, k3, b3, b4⟩ := hinv51
        refine j_iload dL_descend_51 rfl ?_
        refine j_if_lt (tgt := 87) dL_descend_53 (by decide) (by omega) (fun c53 => (False.elim (by omega))) (fun c53 => ?_)
        have hpw := hO.p w
        refine j_iload dL_descend_56 rfl ?_
        refine j_iload dL_descend_58 rfl ?_
        refine j_icmp_eq (tgt := 87) dL_descend_60 (by decide) (by omega) (fun c60 => ?_) (fun c60 => ?_)
        · have hq9 := hd.a hO hA k1 k2 k3.1 c60
          refine j_iload dL_descend_87 rfl ?_
          refine j_iload dL_descend_89 rfl ?_
          refine j_icmp_ne (tgt := 98) dL_descend_91 (by decide) (by omega) (fun c91 => (absurd c60 c91)) (fun c91 => ?_)
          refine j_iconst dL_descend_94 ?_
          refine j_goto (tgt := 100) dL_descend_95 (by decide) ?_
          refine j_istore (L' := [(0, _), (1, _), (2, _), (3, _), (4, _), (5, _), (6, _), (7, _), (8, _), (9, _)]) dL_descend_100 (Nat.le_of_ble_eq_true rfl) rfl ?_
          refine j_iload dL_descend_102 rfl ?_
          refine j_iconst dL_descend_104 ?_
          refine j_iadd dL_descend_105 ?_
          refine j_istore (L' := [(0, _), (1, _), (2, _), (3, _), (4, _), (5, _), (6, _), (7, _), (8, _), (9, _), (10, _)]) dL_descend_106 (Nat.le_of_ble_eq_true rfl) rfl ?_
          refine jloop (P := fun z9 : Int × Nat × Nat => J mL_descend (jR 9 4000 24000) [300] Z 108 [(0, .ref 0), (1, iv p), (2, iv many), (3, iv u), (4, iv la), (5, iv i), (6, iv v), (7, iv (K 0 v)), (8, iv w), (9, iv (-1)), (10, iv z9.1)] [] h z9.2.1 z9.2.2) (fun z9 => ((-1) < z9.1 ∧ z9.1 ≤ v) ∧ (z9.2.1 : Int) + 2 * (24 - z9.1) ≤ nc8 + 4 + 96 + 2 + 48 ∧ z9.2.2 ≤ 6 * z9.2.1) (fun z9 => (24 - z9.1).toNat) ?_ ((-1) + 1, nc51, ns51) ?_
          · rintro ⟨q, nc108, ns108⟩ hinv108 ih108
            dsimp only at hinv108 ih108 ⊢
            obtain ⟨q1, b5, b6⟩ := hinv108
            refine j_iload dL_descend_108 rfl ?_
            refine j_iload dL_descend_110 rfl ?_
            refine j_icmp_ge (tgt := 135) dL_descend_112 (by decide) (by omega) (fun c112 => ?_) (fun c112 => ?_)
            · refine j_iload dL_descend_135 rfl ?_
              refine j_if_lt (tgt := 163) dL_descend_137 (by decide) (by omega) (fun c137 => (False.elim (by omega))) (fun c137 => ?_)
              refine j_iload dL_descend_140 rfl ?_
              refine j_iload dL_descend_142 rfl ?_
              refine j_icmp_le (tgt := 163) dL_descend_144 (by decide) (by omega) (fun c144 => (False.elim (by omega))) (fun c144 => ?_)
              refine j_iload dL_descend_147 rfl ?_
              refine j_iload dL_descend_149 rfl ?_
              refine j_icmp_eq (tgt := 165) dL_descend_151 (by decide) (by omega) (fun c151 => ?_) (fun c151 => (absurd c60 c151))
              refine j_iload dL_descend_165 rfl ?_
              refine j_istore_n (L' := [(0, _), (1, _), (2, _), (3, _), (4, _), (5, _), (6, _), (7, _), (8, _), (9, _), (10, _)]) dL_descend_167 rfl (Nat.le_of_ble_eq_true rfl) rfl ?_
              refine j_iload dL_descend_168 rfl ?_
              refine j_istore (L' := [(0, _), (1, _), (2, _), (3, _), (4, _), (5, _), (6, _), (7, _), (8, _), (9, _), (10, _)]) dL_descend_170 (Nat.le_of_ble_eq_true rfl) rfl ?_
              refine j_iinc (L' := [(0, _), (1, _), (2, _), (3, _), (4, _), (5, _), (6, _), (7, _), (8, _), (9, _), (10, _)]) dL_descend_172 rfl (Nat.le_of_ble_eq_true rfl) rfl ?_
              refine j_goto (tgt := 8) dL_descend_175 (by decide) ?_
              refine J.keep [0, 1, 2, 3, 4, 5] (L' := [(0, _), (1, _), (2, _), (3, _), (4, _), (5, _)]) rfl ?_
              refine ih8 (i + 1, v, v, nc108, ns108) ?_ ?_
              · dsimp only
                exact ⟨by omega, by rw [show (i + 1).toNat = i.toNat + 1 by omega]; simpa using hv, .inr ⟨by omega, rfl⟩, by omega, by omega⟩
              · dsimp only
                omega
            · have hpq := hO.p q
              refine j_aload_n dL_descend_115 rfl rfl ?_
              refine j_iload dL_descend_116 rfl ?_
              refine j_iconst dL_descend_118 ?_
              refine j_callSW (l_of0 hC (p := q) (by omega)) dL_descend_119 jc_L_151 jmS_L_of (fun q => by cases q) rfl rfl (by decide) (jfr_of rfl rfl) (Nat.le_of_ble_eq_true rfl) ⟨Nat.le_of_ble_eq_true rfl, Nat.le_of_ble_eq_true rfl⟩ (show nc108 + 2 ≤ 4000 ∧ ns108 + 12 ≤ 24000 by omega) (fun r h6 hp9 => ?_)
              obtain ⟨rfl, rfl⟩ := hp9
              refine j_iload dL_descend_122 rfl ?_
              refine j_icmp_ne (tgt := 129) dL_descend_124 (by decide) (by omega) (fun c124 => ?_) (fun c124 => (absurd (hq9 q (by omega) (by omega)) (fun z => z c124) |> False.elim))
              refine j_iinc (L' := [(0, _), (1, _), (2, _), (3, _), (4, _), (5, _), (6, _), (7, _), (8, _), (9, _), (10, _)]) dL_descend_129 rfl (Nat.le_of_ble_eq_true rfl) rfl ?_
              refine j_goto (tgt := 108) dL_descend_132 (by decide) ?_
              refine ih108 (q + 1, nc108 + 2, ns108 + 12) ?_ ?_
              · dsimp only
                exact ⟨by omega, by omega, by omega⟩
              · dsimp only
                omega
          · dsimp only
            exact ⟨by omega, by omega, by omega⟩
        · refine j_aload_n dL_descend_63 rfl rfl ?_
          refine j_iload dL_descend_64 rfl ?_
          refine j_iconst dL_descend_66 ?_
          refine j_callSW (l_of0 hC (p := w) (by omega)) dL_descend_67 jc_L_151 jmS_L_of (fun q => by cases q) rfl rfl (by decide) (jfr_of rfl rfl) (Nat.le_of_ble_eq_true rfl) ⟨Nat.le_of_ble_eq_true rfl, Nat.le_of_ble_eq_true rfl⟩ (show nc51 + 2 ≤ 4000 ∧ ns51 + 12 ≤ 24000 by omega) (fun r h7 hp9 => ?_)
          obtain ⟨rfl, rfl⟩ := hp9
          refine j_iload dL_descend_70 rfl ?_
          refine j_icmp_eq (tgt := 87) dL_descend_72 (by decide) (by omega) (fun c72 => ?_) (fun c72 => ?_)
          · obtain ⟨hw9, hq9, hz9⟩ := hd.b hO hA k1 k2 hpv c60 c72
            refine j_iload dL_descend_87 rfl ?_
            refine j_iload dL_descend_89 rfl ?_
            refine j_icmp_ne (tgt := 98) dL_descend_91 (by decide) (by omega) (fun c91 => ?_) (fun c91 => (absurd c91 c60))
            refine j_iload dL_descend_98 rfl ?_
            refine j_istore (L' := [(0, _), (1, _), (2, _), (3, _), (4, _), (5, _), (6, _), (7, _), (8, _), (9, _)]) dL_descend_100 (Nat.le_of_ble_eq_true rfl) rfl ?_
            refine j_iload dL_descend_102 rfl ?_
            refine j_iconst dL_descend_104 ?_
            refine j_iadd dL_descend_105 ?_
            refine j_istore (L' := [(0, _), (1, _), (2, _), (3, _), (4, _), (5, _), (6, _), (7, _), (8, _), (9, _), (10, _)]) dL_descend_106 (Nat.le_of_ble_eq_true rfl) rfl ?_
            refine jloop (P := fun z9 : Int × Nat × Nat => J mL_descend (jR 9 4000 24000) [300] Z 108 [(0, .ref 0), (1, iv p), (2, iv many), (3, iv u), (4, iv la), (5, iv i), (6, iv v), (7, iv (K 0 v)), (8, iv w), (9, iv w), (10, iv z9.1)] [] h z9.2.1 z9.2.2) (fun z9 => (w < z9.1 ∧ z9.1 ≤ v) ∧ (z9.2.1 : Int) + 2 * (24 - z9.1) ≤ nc8 + 4 + 96 + 2 + 48 ∧ z9.2.2 ≤ 6 * z9.2.1) (fun z9 => (24 - z9.1).toNat) ?_ (w + 1, nc51 + 2, ns51 + 12) ?_
            · rintro ⟨q, nc108, ns108⟩ hinv108 ih108
              dsimp only at hinv108 ih108 ⊢
              obtain ⟨q1, b5, b6⟩ := hinv108
              refine j_iload dL_descend_108 rfl ?_
              refine j_iload dL_descend_110 rfl ?_
              refine j_icmp_ge (tgt := 135) dL_descend_112 (by decide) (by omega) (fun c112 => ?_) (fun c112 => ?_)
              · refine j_iload dL_descend_135 rfl ?_
                refine j_if_lt (tgt := 163) dL_descend_137 (by decide) (by omega) (fun c137 => (False.elim (by omega))) (fun c137 => ?_)
                refine j_iload dL_descend_140 rfl ?_
                refine j_iload dL_descend_142 rfl ?_
                refine j_icmp_le (tgt := 163) dL_descend_144 (by decide) (by omega) (fun c144 => (False.elim (by omega))) (fun c144 => ?_)
                refine j_iload dL_descend_147 rfl ?_
                refine j_iload dL_descend_149 rfl ?_
                refine j_icmp_eq (tgt := 165) dL_descend_151 (by decide) (by omega) (fun c151 => (absurd c151 c60)) (fun c151 => ?_)
                refine j_aload_n dL_descend_154 rfl rfl ?_
                refine j_iload_n dL_descend_155 rfl rfl ?_
                refine j_iconst dL_descend_156 ?_
                refine j_callSW (l_of2 hC (p := u) (by omega)) dL_descend_157 jc_L_151 jmS_L_of (fun q => by cases q) rfl rfl (by decide) (jfr_of rfl rfl) (Nat.le_of_ble_eq_true rfl) ⟨Nat.le_of_ble_eq_true rfl, Nat.le_of_ble_eq_true rfl⟩ (show nc108 + 2 ≤ 4000 ∧ ns108 + 12 ≤ 24000 by omega) (fun r h8 hp9 => ?_)
                obtain ⟨rfl, rfl⟩ := hp9
                refine j_if_le (tgt := 165) dL_descend_160 (by decide) (by omega) (fun c160 => ?_) (fun c160 => (False.elim (by omega)))
                refine j_iload dL_descend_165 rfl ?_
                refine j_istore_n (L' := [(0, _), (1, _), (2, _), (3, _), (4, _), (5, _), (6, _), (7, _), (8, _), (9, _), (10, _)]) dL_descend_167 rfl (Nat.le_of_ble_eq_true rfl) rfl ?_
                refine j_iload dL_descend_168 rfl ?_
                refine j_istore (L' := [(0, _), (1, _), (2, _), (3, _), (4, _), (5, _), (6, _), (7, _), (8, _), (9, _), (10, _)]) dL_descend_170 (Nat.le_of_ble_eq_true rfl) rfl ?_
                refine j_iinc (L' := [(0, _), (1, _), (2, _), (3, _), (4, _), (5, _), (6, _), (7, _), (8, _), (9, _), (10, _)]) dL_descend_172 rfl (Nat.le_of_ble_eq_true rfl) rfl ?_
                refine j_goto (tgt := 8) dL_descend_175 (by decide) ?_
                refine J.keep [0, 1, 2, 3, 4, 5] (L' := [(0, _), (1, _), (2, _), (3, _), (4, _), (5, _)]) rfl ?_
                refine ih8 (i + 1, v, v, nc108 + 2, ns108 + 12) ?_ ?_
                · dsimp only
                  exact ⟨by omega, by rw [show (i + 1).toNat = i.toNat + 1 by omega]; simpa using hv, .inr ⟨by omega, rfl⟩, by omega, by omega⟩
                · dsimp only
                  omega
              · have hpq := hO.p q
                refine j_aload_n dL_descend_115 rfl rfl ?_
                refine j_iload dL_descend_116 rfl ?_
                refine j_iconst dL_descend_118 ?_
                refine j_callSW (l_of0 hC (p := q) (by omega)) dL_descend_119 jc_L_151 jmS_L_of (fun q => by cases q) rfl rfl (by decide) (jfr_of rfl rfl) (Nat.le_of_ble_eq_true rfl) ⟨Nat.le_of_ble_eq_true rfl, Nat.le_of_ble_eq_true rfl⟩ (show nc108 + 2 ≤ 4000 ∧ ns108 + 12 ≤ 24000 by omega) (fun r h9 hp9 => ?_)
                obtain ⟨rfl, rfl⟩ := hp9
                refine j_iload dL_descend_122 rfl ?_
                refine j_icmp_ne (tgt := 129) dL_descend_124 (by decide) (by omega) (fun c124 => ?_) (fun c124 => (absurd (hq9 q (by omega) (by omega)) (fun z => z c124) |> False.elim))
                refine j_iinc (L' := [(0, _), (1, _), (2, _), (3, _), (4, _), (5, _), (6, _), (7, _), (8, _), (9, _), (10, _)]) dL_descend_129 rfl (Nat.le_of_ble_eq_true rfl) rfl ?_
                refine j_goto (tgt := 108) dL_descend_132 (by decide) ?_
                refine ih108 (q + 1, nc108 + 2, ns108 + 12) ?_ ?_
                · dsimp only
                  exact ⟨by omega, by omega, by omega⟩
                · dsimp only
                  omega
            · dsimp only
              exact ⟨by omega, by omega, by omega⟩
          · refine j_aload_n dL_descend_75 rfl rfl ?_
            refine j_iload dL_descend_76 rfl ?_
            refine j_iconst dL_descend_78 ?_
            refine j_callSW (l_of0 hC (p := w) (by omega)) dL_descend_79 jc_L_151 jmS_L_of (fun q => by cases q) rfl rfl (by decide) (jfr_of rfl rfl) (Nat.le_of_ble_eq_true rfl) ⟨Nat.le_of_ble_eq_true rfl, Nat.le_of_ble_eq_true rfl⟩ (show nc51 + 2 + 2 ≤ 4000 ∧ ns51 + 12 + 12 ≤ 24000 by omega) (fun r h10 hp9 => ?_)
            obtain ⟨rfl, rfl⟩ := hp9
            refine j_istore (L' := [(0, _), (1, _), (2, _), (3, _), (4, _), (5, _), (6, _), (7, _), (8, _)]) dL_descend_82 (Nat.le_of_ble_eq_true rfl) rfl ?_
            refine j_goto (tgt := 51) dL_descend_84 (by decide) ?_
            obtain ⟨hs1, hs2, hs3⟩ := hd.s hO k1 k2 c60 c72
            refine ih51 (K 0 w, k + 1, nc51 + 2 + 2, ns51 + 12 + 12) ?_ ?_
            · dsimp only
              exact ⟨by omega, hs3, by omega, by omega, by omega⟩
            · dsimp only
              omega
      · dsimp only
        exact ⟨by omega, rfl, hu1, by omega, by omega⟩
  · dsimp only
    exact ⟨by omega, rfl, .inl ⟨rfl, rfl⟩, by decide, by decide⟩
