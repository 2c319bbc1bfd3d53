/-! THE LAW'S HEIRS -/
theorem l_heirI {B : Int} {K : fS} {P : Int → fS} {n : Int} {h : jH} (hC : lC B K P n h) {p : Int} (hp : 0 ≤ p ∧ p < K 6 0) : jM mL_heir 8 2 12 [300] [.ref 0, iv p] h (jRet (iv (if K 3 p = 0 then -14 else fhe K p)) h) jno := by
  by_cases e : K 3 p = 0
  · exact (l_heirN hC hp e).is (if_pos e).symm
  · exact (l_heirY hC hp e).is (if_neg e).symm
set_option maxHeartbeats 8000000 in
theorem m_heirs {B : Int} {K : fS} {P : Int → fS} {n : Int} {h : jH} (hC : lC B K P n h) : jM mL_heirs 9 6000 36000 [300] [.ref 0] h (jRet (iv 1) h) jno := by
  have hn := hC.n
  have hO := hC.O
  have hA := hC.A
  obtain ⟨fs, hO0⟩ := hC.o
  refine j_method (by decide +kernel) rfl (fun _ _ _ => trivial) (Nat.le_of_ble_eq_true rfl) ?_
  generalize hZ : jZ [300] 6000 36000 _ _ = Z
  show J mL_heirs (jR 9 6000 36000) [300] Z 0 [(0, .ref 0)] [] h 0 0
  refine j_iconst dL_heirs_0 ?_
  refine j_istore_n (L' := [(0, _), (1, _)]) dL_heirs_1 rfl (Nat.le_of_ble_eq_true rfl) rfl ?_
  refine jloop (P := fun z9 : Int × Nat × Nat => J mL_heirs (jR 9 6000 36000) [300] Z 2 [(0, .ref 0), (1, iv z9.1)] [] h z9.2.1 z9.2.2) (fun z9 => (0 ≤ z9.1 ∧ z9.1 ≤ K 6 0) ∧ (z9.2.1 : Int) + 230 * (24 - z9.1) ≤ 5520 ∧ z9.2.2 ≤ 6 * z9.2.1) (fun z9 => (24 - z9.1).toNat) ?_ (0, 0, 0) ?_
  · rintro ⟨p, nc2, ns2⟩ hinv2 ih2
    dsimp only at hinv2 ih2 ⊢
    obtain ⟨i1, b1, b2⟩ := hinv2
    refine j_iload_n dL_heirs_2 rfl rfl ?_
    refine j_aload_n dL_heirs_3 rfl rfl ?_
    refine j_iconst dL_heirs_4 ?_
    refine j_callV ((l_account hC (w := 0) (by decide)).is acc_0) dL_heirs_5 jc_L_128 jmV_X4_account rfl rfl hO0 rfl rfl (by simp) jfr_nil (Nat.le_of_ble_eq_true rfl) ⟨Nat.le_of_ble_eq_true rfl, Nat.le_of_ble_eq_true rfl⟩ (show nc2 + 1 ≤ 6000 ∧ ns2 + 6 ≤ 36000 by omega) (fun r h1 hp9 => ?_) (fun E h9 q => q.elim)
    obtain ⟨rfl, rfl⟩ := hp9
    refine j_icmp_ge (tgt := 149) dL_heirs_8 (by decide) (by omega) (fun c8 => ?_) (fun c8 => ?_)
    · refine j_iconst dL_heirs_149 ?_
      refine j_istore_n (L' := [(0, _), (1, _)]) dL_heirs_150 rfl (Nat.le_of_ble_eq_true rfl) rfl ?_
      refine j_iconst dL_heirs_151 ?_
      refine j_istore_n (L' := [(0, _), (1, _), (2, _)]) dL_heirs_152 rfl (Nat.le_of_ble_eq_true rfl) rfl ?_
      refine jloop (P := fun z9 : Int × Int × Nat × Nat => J mL_heirs (jR 9 6000 36000) [300] Z 153 [(0, .ref 0), (1, iv z9.2.1), (2, iv z9.1)] [] h z9.2.2.1 z9.2.2.2) (fun z9 => (0 ≤ z9.1 ∧ z9.1 ≤ K 6 0) ∧ ((z9.1 = 0 ∧ z9.2.1 = -1) ∨ (0 < z9.1 ∧ (0 ≤ z9.2.1 ∧ z9.2.1 < K 6 0) ∧ krk K z9.2.1 = z9.1 - 1)) ∧ (z9.2.2.1 : Int) + 6 * (24 - z9.1) ≤ 5521 + 144 ∧ z9.2.2.2 ≤ 6 * z9.2.2.1) (fun z9 => (24 - z9.1).toNat) ?_ (0, -1, nc2 + 1, ns2 + 6) ?_
      · rintro ⟨w, u, nc153, ns153⟩ hinv153 ih153
        dsimp only at hinv153 ih153 ⊢
        obtain ⟨m1, m2, b7, b8⟩ := hinv153
        refine j_iload_n dL_heirs_153 rfl rfl ?_
        refine j_aload_n dL_heirs_154 rfl rfl ?_
        refine j_iconst dL_heirs_155 ?_
        refine j_callV ((l_account hC (w := 0) (by decide)).is acc_0) dL_heirs_156 jc_L_128 jmV_X4_account rfl rfl hO0 rfl rfl (by simp) jfr_nil (Nat.le_of_ble_eq_true rfl) ⟨Nat.le_of_ble_eq_true rfl, Nat.le_of_ble_eq_true rfl⟩ (show nc153 + 1 ≤ 6000 ∧ ns153 + 6 ≤ 36000 by omega) (fun r h2 hp9 => ?_) (fun E h9 q => q.elim)
        obtain ⟨rfl, rfl⟩ := hp9
        refine j_icmp_ge (tgt := 224) dL_heirs_159 (by decide) (by omega) (fun c159 => ?_) (fun c159 => ?_)
        · refine j_aload_n dL_heirs_224 rfl rfl ?_
          refine j_aload_n dL_heirs_225 rfl rfl ?_
          refine j_iconst dL_heirs_226 ?_
          refine j_callV ((l_account hC (w := 0) (by decide)).is acc_0) dL_heirs_227 jc_L_128 jmV_X4_account rfl rfl hO0 rfl rfl (by simp) jfr_nil (Nat.le_of_ble_eq_true rfl) ⟨Nat.le_of_ble_eq_true rfl, Nat.le_of_ble_eq_true rfl⟩ (show nc153 + 1 + 1 ≤ 6000 ∧ ns153 + 6 + 6 ≤ 36000 by omega) (fun r h3 hp9 => ?_) (fun E h9 q => q.elim)
          obtain ⟨rfl, rfl⟩ := hp9
          refine j_callSW (l_rankedO hC (q := K 6 0) rfl) dL_heirs_230 jc_L_209 jmS_L_ranked (fun q => by cases q) rfl rfl (by decide) (jfr_of rfl rfl) (Nat.le_of_ble_eq_true rfl) ⟨Nat.le_of_ble_eq_true rfl, Nat.le_of_ble_eq_true rfl⟩ (show nc153 + 1 + 1 + 1 ≤ 6000 ∧ ns153 + 6 + 6 + 6 ≤ 36000 by omega) (fun r h4 hp9 => ?_)
          obtain ⟨rfl, rfl⟩ := hp9
          refine j_bipush dL_heirs_233 (by decide +kernel) ?_
          refine j_icmp_ne (tgt := 256) dL_heirs_235 (by decide) (by omega) (fun c235 => (False.elim (by omega))) (fun c235 => ?_)
          refine j_aload_n dL_heirs_238 rfl rfl ?_
          refine j_aload_n dL_heirs_239 rfl rfl ?_
          refine j_iconst dL_heirs_240 ?_
          refine j_callV ((l_account hC (w := 0) (by decide)).is acc_0) dL_heirs_241 jc_L_128 jmV_X4_account rfl rfl hO0 rfl rfl (by simp) jfr_nil (Nat.le_of_ble_eq_true rfl) ⟨Nat.le_of_ble_eq_true rfl, Nat.le_of_ble_eq_true rfl⟩ (show nc153 + 1 + 1 + 1 + 1 ≤ 6000 ∧ ns153 + 6 + 6 + 6 + 6 ≤ 36000 by omega) (fun r h5 hp9 => ?_) (fun E h9 q => q.elim)
          obtain ⟨rfl, rfl⟩ := hp9
          refine j_callSW (l_heirO hC (p := K 6 0) rfl) dL_heirs_244 jc_L_207 jmS_L_heir (fun q => by cases q) rfl rfl (by decide) (jfr_of rfl rfl) (Nat.le_of_ble_eq_true rfl) ⟨Nat.le_of_ble_eq_true rfl, Nat.le_of_ble_eq_true rfl⟩ (show nc153 + 1 + 1 + 1 + 1 + 2 ≤ 6000 ∧ ns153 + 6 + 6 + 6 + 6 + 12 ≤ 36000 by omega) (fun r h6 hp9 => ?_)
          obtain ⟨rfl, rfl⟩ := hp9
          refine j_bipush dL_heirs_247 (by decide +kernel) ?_
          refine j_icmp_ne (tgt := 256) dL_heirs_249 (by decide) (by omega) (fun c249 => (False.elim (by omega))) (fun c249 => ?_)
          refine j_iconst dL_heirs_252 ?_
          refine j_goto (tgt := 257) dL_heirs_253 (by decide) ?_
          subst hZ
          exact j_ireturn dL_heirs_257 rfl rfl ⟨rfl, rfl⟩ (show nc153 + 1 + 1 + 1 + 1 + 2 ≤ 6000 by omega) (show ns153 + 6 + 6 + 6 + 6 + 12 ≤ 36000 by omega)
        · refine j_aload_n dL_heirs_162 rfl rfl ?_
          refine j_iload_n dL_heirs_163 rfl rfl ?_
          refine j_callSW (l_ranked hC (q := w) (by omega)) dL_heirs_164 jc_L_209 jmS_L_ranked (fun q => by cases q) rfl rfl (by decide) (jfr_of rfl rfl) (Nat.le_of_ble_eq_true rfl) ⟨Nat.le_of_ble_eq_true rfl, Nat.le_of_ble_eq_true rfl⟩ (show nc153 + 1 + 1 ≤ 6000 ∧ ns153 + 6 + 6 ≤ 36000 by omega) (fun r h7 hp9 => ?_)
          obtain ⟨rfl, x, rfl, hx1, hx2⟩ := hp9
          refine j_istore_n (L' := [(0, _), (1, _), (2, _), (3, _)]) dL_heirs_167 rfl (Nat.le_of_ble_eq_true rfl) rfl ?_
          refine j_iload_n dL_heirs_168 rfl rfl ?_
          refine j_if_ge (tgt := 176) dL_heirs_169 (by decide) (by omega) (fun c169 => ?_) (fun c169 => (False.elim (by omega)))
          refine j_iload_n dL_heirs_176 rfl rfl ?_
          refine j_if_ge (tgt := 184) dL_heirs_177 (by decide) (by omega) (fun c177 => ?_) (fun c177 => ?_)
          · have hrk : K 2 u - K 2 x > 0 ∨ (K 2 u - K 2 x = 0 ∧ u < x) := rk_step hO (p := u) (q := x) (by omega) hx1 (by omega)
            have hcu := hO.c u
            have hcx := hO.c x
            have hcb := hO.b
            refine j_aload_n dL_heirs_184 rfl rfl ?_
            refine j_iload_n dL_heirs_185 rfl rfl ?_
            refine j_iconst dL_heirs_186 ?_
            refine j_callSW (l_of5 hC (p := u) (by omega)) dL_heirs_187 jc_L_151 jmS_L_of (fun q => by cases q) rfl rfl (by decide) (jfr_of rfl rfl) (Nat.le_of_ble_eq_true rfl) ⟨Nat.le_of_ble_eq_true rfl, Nat.le_of_ble_eq_true rfl⟩ (show nc153 + 1 + 1 + 2 ≤ 6000 ∧ ns153 + 6 + 6 + 12 ≤ 36000 by omega) (fun r h8 hp9 => ?_)
            obtain ⟨rfl, rfl⟩ := hp9
            refine j_aload_n dL_heirs_190 rfl rfl ?_
            refine j_iload_n dL_heirs_191 rfl rfl ?_
            refine j_iconst dL_heirs_192 ?_
            refine j_callSW (l_of5 hC (p := x) (by omega)) dL_heirs_193 jc_L_151 jmS_L_of (fun q => by cases q) rfl rfl (by decide) (jfr_of rfl rfl) (Nat.le_of_ble_eq_true rfl) ⟨Nat.le_of_ble_eq_true rfl, Nat.le_of_ble_eq_true rfl⟩ (show nc153 + 1 + 1 + 2 + 2 ≤ 6000 ∧ ns153 + 6 + 6 + 12 + 12 ≤ 36000 by omega) (fun r h9 hp9 => ?_)
            obtain ⟨rfl, rfl⟩ := hp9
            refine j_isub dL_heirs_196 ?_
            refine j_istore (L' := [(0, _), (1, _), (2, _), (3, _), (4, _)]) dL_heirs_197 (Nat.le_of_ble_eq_true rfl) rfl ?_
            refine j_iload dL_heirs_199 rfl ?_
            refine j_if_lt (tgt := 214) dL_heirs_201 (by decide) (by omega) (fun c201 => (False.elim (by omega))) (fun c201 => ?_)
            refine j_iload dL_heirs_204 rfl ?_
            refine j_if_ne (tgt := 216) dL_heirs_206 (by decide) (by omega) (fun c206 => ?_) (fun c206 => ?_)
            · refine j_iload_n dL_heirs_216 rfl rfl ?_
              refine j_istore_n (L' := [(0, _), (1, _), (2, _), (3, _), (4, _)]) dL_heirs_217 rfl (Nat.le_of_ble_eq_true rfl) rfl ?_
              refine j_iinc (L' := [(0, _), (1, _), (2, _), (3, _), (4, _)]) dL_heirs_218 rfl (Nat.le_of_ble_eq_true rfl) rfl ?_
              refine j_goto (tgt := 153) dL_heirs_221 (by decide) ?_
              refine J.keep [0, 1, 2] (L' := [(0, _), (1, _), (2, _)]) rfl ?_
              refine ih153 (w + 1, x, nc153 + 1 + 1 + 2 + 2, ns153 + 6 + 6 + 12 + 12) ?_ ?_
              · dsimp only
                exact ⟨by omega, .inr ⟨by omega, hx1, by omega⟩, by omega, by omega⟩
              · dsimp only
                omega
            · refine j_iload_n dL_heirs_209 rfl rfl ?_
              refine j_iload_n dL_heirs_210 rfl rfl ?_
              refine j_icmp_ge (tgt := 216) dL_heirs_211 (by decide) (by omega) (fun c211 => ?_) (fun c211 => (False.elim (by omega)))
              refine j_iload_n dL_heirs_216 rfl rfl ?_
              refine j_istore_n (L' := [(0, _), (1, _), (2, _), (3, _), (4, _)]) dL_heirs_217 rfl (Nat.le_of_ble_eq_true rfl) rfl ?_
              refine j_iinc (L' := [(0, _), (1, _), (2, _), (3, _), (4, _)]) dL_heirs_218 rfl (Nat.le_of_ble_eq_true rfl) rfl ?_
              refine j_goto (tgt := 153) dL_heirs_221 (by decide) ?_
              refine J.keep [0, 1, 2] (L' := [(0, _), (1, _), (2, _)]) rfl ?_
              refine ih153 (w + 1, x, nc153 + 1 + 1 + 2 + 2, ns153 + 6 + 6 + 12 + 12) ?_ ?_
              · dsimp only
                exact ⟨by omega, .inr ⟨by omega, hx1, by omega⟩, by omega, by omega⟩
              · dsimp only
                omega
          · refine j_iconst dL_heirs_180 ?_
            refine j_goto (tgt := 197) dL_heirs_181 (by decide) ?_
            refine j_istore (L' := [(0, _), (1, _), (2, _), (3, _), (4, _)]) dL_heirs_197 (Nat.le_of_ble_eq_true rfl) rfl ?_
            refine j_iload dL_heirs_199 rfl ?_
            refine j_if_lt (tgt := 214) dL_heirs_201 (by decide) (by omega) (fun c201 => (False.elim (by omega))) (fun c201 => ?_)
            refine j_iload dL_heirs_204 rfl ?_
            refine j_if_ne (tgt := 216) dL_heirs_206 (by decide) (by omega) (fun c206 => ?_) (fun c206 => (False.elim (by omega)))
            refine j_iload_n dL_heirs_216 rfl rfl ?_
            refine j_istore_n (L' := [(0, _), (1, _), (2, _), (3, _), (4, _)]) dL_heirs_217 rfl (Nat.le_of_ble_eq_true rfl) rfl ?_
            refine j_iinc (L' := [(0, _), (1, _), (2, _), (3, _), (4, _)]) dL_heirs_218 rfl (Nat.le_of_ble_eq_true rfl) rfl ?_
            refine j_goto (tgt := 153) dL_heirs_221 (by decide) ?_
            refine J.keep [0, 1, 2] (L' := [(0, _), (1, _), (2, _)]) rfl ?_
            refine ih153 (w + 1, x, nc153 + 1 + 1, ns153 + 6 + 6) ?_ ?_
            · dsimp only
              exact ⟨by omega, .inr ⟨by omega, hx1, by omega⟩, by omega, by omega⟩
            · dsimp only
              omega
      · dsimp only
        exact ⟨by omega, .inl ⟨rfl, rfl⟩, by omega, by omega⟩
    · have hp : 0 ≤ p ∧ p < K 6 0 := by omega
      have hl := des_len hO hA 24 (p := p) (by omega)
      have hpp := hO.p p
      have hps := hO.s p
      have hf := fhe_rg hO hA hp
      have hl3 := hO.l p
      refine j_iconst dL_heirs_11 ?_
      refine j_istore_n (L' := [(0, _), (1, _), (2, _)]) dL_heirs_12 rfl (Nat.le_of_ble_eq_true rfl) rfl ?_
      refine j_aload_n dL_heirs_13 rfl rfl ?_
      refine j_iload_n dL_heirs_14 rfl rfl ?_
      refine j_iconst dL_heirs_15 ?_
      refine j_callSW (l_of3 hC (p := p) (by omega)) dL_heirs_16 jc_L_151 jmS_L_of (fun q => by cases q) rfl rfl (by decide) (jfr_of rfl rfl) (Nat.le_of_ble_eq_true rfl) ⟨Nat.le_of_ble_eq_true rfl, Nat.le_of_ble_eq_true rfl⟩ (show nc2 + 1 + 2 ≤ 6000 ∧ ns2 + 6 + 12 ≤ 36000 by omega) (fun r h10 hp9 => ?_)
      obtain ⟨rfl, rfl⟩ := hp9
      refine j_iconst dL_heirs_19 ?_
      refine j_isub dL_heirs_20 ?_
      refine j_istore_n (L' := [(0, _), (1, _), (2, _), (3, _)]) dL_heirs_21 rfl (Nat.le_of_ble_eq_true rfl) rfl ?_
      refine jloop (P := fun z9 : Int × Int × Nat × Nat => J mL_heirs (jR 9 6000 36000) [300] Z 22 [(0, .ref 0), (1, iv p), (2, iv z9.2.1), (3, iv z9.1)] [] h z9.2.2.1 z9.2.2.2) (fun z9 => (-1 ≤ z9.1 ∧ z9.1 < ((des K 24 p).length : Int)) ∧ z9.2.1 = flv K ((des K 24 p).drop (z9.1 + 1).toNat) ∧ (-1 ≤ z9.2.1 ∧ z9.2.1 < K 6 0) ∧ (z9.2.2.1 : Int) + 4 * (z9.1 + 1) ≤ nc2 + 3 + 96 ∧ z9.2.2.2 ≤ 6 * z9.2.2.1) (fun z9 => (z9.1 + 1).toNat) ?_ ((((des K 24 p).length : Int)) - 1, -1, nc2 + 1 + 2, ns2 + 6 + 12) ?_
      · rintro ⟨z, r, nc22, ns22⟩ hinv22 ih22
        dsimp only at hinv22 ih22 ⊢
        obtain ⟨j1, j2, j3, b3, b4⟩ := hinv22
        refine j_iload_n dL_heirs_22 rfl rfl ?_
        refine j_if_lt (tgt := 59) dL_heirs_23 (by decide) (by omega) (fun c23 => ?_) (fun c23 => ?_)
        · have ez : (z + 1).toNat = 0 := by omega
          rw [ez, List.drop_zero] at j2
          have hfe := flv_fhe hO (p := p)
          rw [← j2] at hfe
          refine j_iload_n dL_heirs_59 rfl rfl ?_
          refine j_if_ge (tgt := 72) dL_heirs_60 (by decide) (by omega) (fun c60 => ?_) (fun c60 => ?_)
          · refine j_iload_n dL_heirs_72 rfl rfl ?_
            refine j_istore_n (L' := [(0, _), (1, _), (2, _), (3, _)]) dL_heirs_73 rfl (Nat.le_of_ble_eq_true rfl) rfl ?_
            refine j_aload_n dL_heirs_74 rfl rfl ?_
            refine j_iload_n dL_heirs_75 rfl rfl ?_
            refine j_iconst dL_heirs_76 ?_
            refine j_callSW (l_of0 hC (p := p) (by omega)) dL_heirs_77 jc_L_151 jmS_L_of (fun q => by cases q) rfl rfl (by decide) (jfr_of rfl rfl) (Nat.le_of_ble_eq_true rfl) ⟨Nat.le_of_ble_eq_true rfl, Nat.le_of_ble_eq_true rfl⟩ (show nc22 + 2 ≤ 6000 ∧ ns22 + 12 ≤ 36000 by omega) (fun r h11 hp9 => ?_)
            obtain ⟨rfl, rfl⟩ := hp9
            refine j_istore_n (L' := [(0, _), (1, _), (2, _), (3, _)]) dL_heirs_80 rfl (Nat.le_of_ble_eq_true rfl) rfl ?_
            refine jloop (P := fun z9 : Int × Int × Nat × Nat × Nat => J mL_heirs (jR 9 6000 36000) [300] Z 81 [(0, .ref 0), (1, iv p), (2, iv z9.2.1), (3, iv z9.1)] [] h z9.2.2.2.1 z9.2.2.2.2) (fun z9 => (-1 ≤ z9.1 ∧ z9.1 < K 6 0) ∧ upk (K 0) z9.2.2.1 z9.1 = -1 ∧ (-1 ≤ z9.2.1 ∧ z9.2.1 < K 6 0) ∧ (z9.2.1 = -1 → fhe K p = fel K z9.2.2.1 z9.1) ∧ (z9.2.1 ≠ -1 → fhe K p = z9.2.1) ∧ (z9.2.2.2.1 : Int) + 4 * z9.2.2.1 ≤ nc2 + 203 ∧ z9.2.2.2.2 ≤ 6 * z9.2.2.2.1) (fun z9 => z9.2.2.1) ?_ (K 0 p, r, 24, nc22 + 2, ns22 + 12) ?_
            · rintro ⟨q, r2, m, nc81, ns81⟩ hinv81 ih81
              dsimp only at hinv81 ih81 ⊢
              obtain ⟨k1, k2, k3, k4, k5, b5, b6⟩ := hinv81
              refine j_iload_n dL_heirs_81 rfl rfl ?_
              refine j_if_lt (tgt := 116) dL_heirs_82 (by decide) (by omega) (fun c82 => ?_) (fun c82 => ?_)
              · have hfin : fhe K p = r2 := by
                  by_cases e : r2 = -1
                  · rw [k4 e, show q = -1 by omega, fel_e (.inl rfl), e]
                  · exact k5 e
                refine j_aload_n dL_heirs_116 rfl rfl ?_
                refine j_iload_n dL_heirs_117 rfl rfl ?_
                refine j_callSW (l_heirI hC (p := p) (by omega)) dL_heirs_118 jc_L_207 jmS_L_heir (fun q => by cases q) rfl rfl (by decide) (jfr_of rfl rfl) (Nat.le_of_ble_eq_true rfl) ⟨Nat.le_of_ble_eq_true rfl, Nat.le_of_ble_eq_true rfl⟩ (show nc81 + 2 ≤ 6000 ∧ ns81 + 12 ≤ 36000 by omega) (fun r h12 hp9 => ?_)
                obtain ⟨rfl, rfl⟩ := hp9
                refine j_aload_n dL_heirs_121 rfl rfl ?_
                refine j_iload_n dL_heirs_122 rfl rfl ?_
                refine j_bipush dL_heirs_123 (by decide +kernel) ?_
                refine j_callSW (l_of6 hC (p := p) (by omega)) dL_heirs_125 jc_L_151 jmS_L_of (fun q => by cases q) rfl rfl (by decide) (jfr_of rfl rfl) (Nat.le_of_ble_eq_true rfl) ⟨Nat.le_of_ble_eq_true rfl, Nat.le_of_ble_eq_true rfl⟩ (show nc81 + 2 + 2 ≤ 6000 ∧ ns81 + 12 + 12 ≤ 36000 by omega) (fun r h13 hp9 => ?_)
                obtain ⟨rfl, rfl⟩ := hp9
                refine j_iconst dL_heirs_128 ?_
                refine j_icmp_ne (tgt := 136) dL_heirs_129 (by decide) (by omega) (fun c129 => ?_) (fun c129 => ?_)
                · refine j_bipush dL_heirs_136 (by decide +kernel) ?_
                  have hi9 : -14 ≤ (if K 3 p = 0 then (-14 : Int) else fhe K p) ∧ (if K 3 p = 0 then (-14 : Int) else fhe K p) < K 6 0 := by split <;> omega
                  refine j_icmp_eq (tgt := 143) dL_heirs_138 (by decide) (by omega) (fun c138 => ?_) (fun c138 => (absurd (by rw [if_pos (by omega)]) c138))
                  refine j_iinc (L' := [(0, _), (1, _), (2, _), (3, _)]) dL_heirs_143 rfl (Nat.le_of_ble_eq_true rfl) rfl ?_
                  refine j_goto (tgt := 2) dL_heirs_146 (by decide) ?_
                  refine J.keep [0, 1] (L' := [(0, _), (1, _)]) rfl ?_
                  refine ih2 (p + 1, nc81 + 2 + 2, ns81 + 12 + 12) ?_ ?_
                  · dsimp only
                    exact ⟨by omega, by omega, by omega⟩
                  · dsimp only
                    omega
                · refine j_iload_n dL_heirs_132 rfl rfl ?_
                  refine j_goto (tgt := 138) dL_heirs_133 (by decide) ?_
                  have hi9 : -14 ≤ (if K 3 p = 0 then (-14 : Int) else fhe K p) ∧ (if K 3 p = 0 then (-14 : Int) else fhe K p) < K 6 0 := by split <;> omega
                  refine j_icmp_eq (tgt := 143) dL_heirs_138 (by decide) (by omega) (fun c138 => ?_) (fun c138 => (absurd (by rw [if_neg (by omega)]; exact hfin) c138))
                  refine j_iinc (L' := [(0, _), (1, _), (2, _), (3, _)]) dL_heirs_143 rfl (Nat.le_of_ble_eq_true rfl) rfl ?_
                  refine j_goto (tgt := 2) dL_heirs_146 (by decide) ?_
                  refine J.keep [0, 1] (L' := [(0, _), (1, _)]) rfl ?_
                  refine ih2 (p + 1, nc81 + 2 + 2, ns81 + 12 + 12) ?_ ?_
                  · dsimp only
                    exact ⟨by omega, by omega, by omega⟩
                  · dsimp only
                    omega
              · refine j_iload_n dL_heirs_85 rfl rfl ?_
                refine j_if_ge (tgt := 116) dL_heirs_86 (by decide) (by omega) (fun c86 => ?_) (fun c86 => ?_)
                · have hfin : fhe K p = r2 := by
                    by_cases e : r2 = -1
                    · rw [k4 e, show q = -1 by omega, fel_e (.inl rfl), e]
                    · exact k5 e
                  refine j_aload_n dL_heirs_116 rfl rfl ?_
                  refine j_iload_n dL_heirs_117 rfl rfl ?_
                  refine j_callSW (l_heirI hC (p := p) (by omega)) dL_heirs_118 jc_L_207 jmS_L_heir (fun q => by cases q) rfl rfl (by decide) (jfr_of rfl rfl) (Nat.le_of_ble_eq_true rfl) ⟨Nat.le_of_ble_eq_true rfl, Nat.le_of_ble_eq_true rfl⟩ (show nc81 + 2 ≤ 6000 ∧ ns81 + 12 ≤ 36000 by omega) (fun r h14 hp9 => ?_)
                  obtain ⟨rfl, rfl⟩ := hp9
                  refine j_aload_n dL_heirs_121 rfl rfl ?_
                  refine j_iload_n dL_heirs_122 rfl rfl ?_
                  refine j_bipush dL_heirs_123 (by decide +kernel) ?_
                  refine j_callSW (l_of6 hC (p := p) (by omega)) dL_heirs_125 jc_L_151 jmS_L_of (fun q => by cases q) rfl rfl (by decide) (jfr_of rfl rfl) (Nat.le_of_ble_eq_true rfl) ⟨Nat.le_of_ble_eq_true rfl, Nat.le_of_ble_eq_true rfl⟩ (show nc81 + 2 + 2 ≤ 6000 ∧ ns81 + 12 + 12 ≤ 36000 by omega) (fun r h15 hp9 => ?_)
                  obtain ⟨rfl, rfl⟩ := hp9
                  refine j_iconst dL_heirs_128 ?_
                  refine j_icmp_ne (tgt := 136) dL_heirs_129 (by decide) (by omega) (fun c129 => ?_) (fun c129 => ?_)
                  · refine j_bipush dL_heirs_136 (by decide +kernel) ?_
                    have hi9 : -14 ≤ (if K 3 p = 0 then (-14 : Int) else fhe K p) ∧ (if K 3 p = 0 then (-14 : Int) else fhe K p) < K 6 0 := by split <;> omega
                    refine j_icmp_eq (tgt := 143) dL_heirs_138 (by decide) (by omega) (fun c138 => ?_) (fun c138 => (absurd (by rw [if_pos (by omega)]) c138))
                    refine j_iinc (L' := [(0, _), (1, _), (2, _), (3, _)]) dL_heirs_143 rfl (Nat.le_of_ble_eq_true rfl) rfl ?_
                    refine j_goto (tgt := 2) dL_heirs_146 (by decide) ?_
                    refine J.keep [0, 1] (L' := [(0, _), (1, _)]) rfl ?_
                    refine ih2 (p + 1, nc81 + 2 + 2, ns81 + 12 + 12) ?_ ?_
                    · dsimp only
                      exact ⟨by omega, by omega, by omega⟩
                    · dsimp only
                      omega
                  · refine j_iload_n dL_heirs_132 rfl rfl ?_
                    refine j_goto (tgt := 138) dL_heirs_133 (by decide) ?_
                    have hi9 : -14 ≤ (if K 3 p = 0 then (-14 : Int) else fhe K p) ∧ (if K 3 p = 0 then (-14 : Int) else fhe K p) < K 6 0 := by split <;> omega
                    refine j_icmp_eq (tgt := 143) dL_heirs_138 (by decide) (by omega) (fun c138 => ?_) (fun c138 => (absurd (by rw [if_neg (by omega)]; exact hfin) c138))
                    refine j_iinc (L' := [(0, _), (1, _), (2, _), (3, _)]) dL_heirs_143 rfl (Nat.le_of_ble_eq_true rfl) rfl ?_
                    refine j_goto (tgt := 2) dL_heirs_146 (by decide) ?_
                    refine J.keep [0, 1] (L' := [(0, _), (1, _)]) rfl ?_
                    refine ih2 (p + 1, nc81 + 2 + 2, ns81 + 12 + 12) ?_ ?_
                    · dsimp only
                      exact ⟨by omega, by omega, by omega⟩
                    · dsimp only
                      omega
                · have hq3 := hO.l q
                  have hqp := hO.p q
                  have e2 : r2 = -1 := by omega
                  obtain ⟨m, rfl, k2⟩ := upk_dec k2 (by omega)
                  refine j_aload_n dL_heirs_89 rfl rfl ?_
                  refine j_iload_n dL_heirs_90 rfl rfl ?_
                  refine j_bipush dL_heirs_91 (by decide +kernel) ?_
                  refine j_callSW (l_of6 hC (p := q) (by omega)) dL_heirs_93 jc_L_151 jmS_L_of (fun q => by cases q) rfl rfl (by decide) (jfr_of rfl rfl) (Nat.le_of_ble_eq_true rfl) ⟨Nat.le_of_ble_eq_true rfl, Nat.le_of_ble_eq_true rfl⟩ (show nc81 + 2 ≤ 6000 ∧ ns81 + 12 ≤ 36000 by omega) (fun r h16 hp9 => ?_)
                  obtain ⟨rfl, rfl⟩ := hp9
                  refine j_iconst dL_heirs_96 ?_
                  refine j_icmp_ne (tgt := 104) dL_heirs_97 (by decide) (by omega) (fun c97 => ?_) (fun c97 => ?_)
                  · refine j_iconst dL_heirs_104 ?_
                    refine j_istore_n (L' := [(0, _), (1, _), (2, _), (3, _)]) dL_heirs_105 rfl (Nat.le_of_ble_eq_true rfl) rfl ?_
                    refine j_aload_n dL_heirs_106 rfl rfl ?_
                    refine j_iload_n dL_heirs_107 rfl rfl ?_
                    refine j_iconst dL_heirs_108 ?_
                    refine j_callSW (l_of0 hC (p := q) (by omega)) dL_heirs_109 jc_L_151 jmS_L_of (fun q => by cases q) rfl rfl (by decide) (jfr_of rfl rfl) (Nat.le_of_ble_eq_true rfl) ⟨Nat.le_of_ble_eq_true rfl, Nat.le_of_ble_eq_true rfl⟩ (show nc81 + 2 + 2 ≤ 6000 ∧ ns81 + 12 + 12 ≤ 36000 by omega) (fun r h17 hp9 => ?_)
                    obtain ⟨rfl, rfl⟩ := hp9
                    refine j_istore_n (L' := [(0, _), (1, _), (2, _), (3, _)]) dL_heirs_112 rfl (Nat.le_of_ble_eq_true rfl) rfl ?_
                    refine j_goto (tgt := 81) dL_heirs_113 (by decide) ?_
                    refine ih81 (K 0 q, -1, m, nc81 + 2 + 2, ns81 + 12 + 12) ?_ ?_
                    · dsimp only
                      exact ⟨by omega, k2, by omega, fun _ => (k4 e2).trans (fel_st (fun z => z.elim (by omega) (by omega))), fun e => absurd rfl e, by omega, by omega⟩
                    · dsimp only
                      omega
                  · refine j_iload_n dL_heirs_100 rfl rfl ?_
                    refine j_goto (tgt := 105) dL_heirs_101 (by decide) ?_
                    refine j_istore_n (L' := [(0, _), (1, _), (2, _), (3, _)]) dL_heirs_105 rfl (Nat.le_of_ble_eq_true rfl) rfl ?_
                    refine j_aload_n dL_heirs_106 rfl rfl ?_
                    refine j_iload_n dL_heirs_107 rfl rfl ?_
                    refine j_iconst dL_heirs_108 ?_
                    refine j_callSW (l_of0 hC (p := q) (by omega)) dL_heirs_109 jc_L_151 jmS_L_of (fun q => by cases q) rfl rfl (by decide) (jfr_of rfl rfl) (Nat.le_of_ble_eq_true rfl) ⟨Nat.le_of_ble_eq_true rfl, Nat.le_of_ble_eq_true rfl⟩ (show nc81 + 2 + 2 ≤ 6000 ∧ ns81 + 12 + 12 ≤ 36000 by omega) (fun r h18 hp9 => ?_)
                    obtain ⟨rfl, rfl⟩ := hp9
                    refine j_istore_n (L' := [(0, _), (1, _), (2, _), (3, _)]) dL_heirs_112 rfl (Nat.le_of_ble_eq_true rfl) rfl ?_
                    refine j_goto (tgt := 81) dL_heirs_113 (by decide) ?_
                    refine ih81 (K 0 q, q, m, nc81 + 2 + 2, ns81 + 12 + 12) ?_ ?_
                    · dsimp only
                      exact ⟨by omega, k2, by omega, fun e => absurd e (by omega), fun _ => (k4 e2).trans (fel_e (.inr (by omega)) _), by omega, by omega⟩
                    · dsimp only
                      omega
            · dsimp only
              exact ⟨by omega, hA _, by omega, fun e => by rw [hfe]; exact absurd e (by omega), fun e => by rw [hfe]; rw [if_neg (by omega)], by omega, by omega⟩
          · refine j_aload_n dL_heirs_63 rfl rfl ?_
            refine j_iload_n dL_heirs_64 rfl rfl ?_
            refine j_iconst dL_heirs_65 ?_
            refine j_callSW (l_of4 hC (p := p) (by omega)) dL_heirs_66 jc_L_151 jmS_L_of (fun q => by cases q) rfl rfl (by decide) (jfr_of rfl rfl) (Nat.le_of_ble_eq_true rfl) ⟨Nat.le_of_ble_eq_true rfl, Nat.le_of_ble_eq_true rfl⟩ (show nc22 + 2 ≤ 6000 ∧ ns22 + 12 ≤ 36000 by omega) (fun r h19 hp9 => ?_)
            obtain ⟨rfl, rfl⟩ := hp9
            refine j_goto (tgt := 73) dL_heirs_69 (by decide) ?_
            refine j_istore_n (L' := [(0, _), (1, _), (2, _), (3, _)]) dL_heirs_73 rfl (Nat.le_of_ble_eq_true rfl) rfl ?_
            refine j_aload_n dL_heirs_74 rfl rfl ?_
            refine j_iload_n dL_heirs_75 rfl rfl ?_
            refine j_iconst dL_heirs_76 ?_
            refine j_callSW (l_of0 hC (p := p) (by omega)) dL_heirs_77 jc_L_151 jmS_L_of (fun q => by cases q) rfl rfl (by decide) (jfr_of rfl rfl) (Nat.le_of_ble_eq_true rfl) ⟨Nat.le_of_ble_eq_true rfl, Nat.le_of_ble_eq_true rfl⟩ (show nc22 + 2 + 2 ≤ 6000 ∧ ns22 + 12 + 12 ≤ 36000 by omega) (fun r h20 hp9 => ?_)
            obtain ⟨rfl, rfl⟩ := hp9
            refine j_istore_n (L' := [(0, _), (1, _), (2, _), (3, _)]) dL_heirs_80 rfl (Nat.le_of_ble_eq_true rfl) rfl ?_
            refine jloop (P := fun z9 : Int × Int × Nat × Nat × Nat => J mL_heirs (jR 9 6000 36000) [300] Z 81 [(0, .ref 0), (1, iv p), (2, iv z9.2.1), (3, iv z9.1)] [] h z9.2.2.2.1 z9.2.2.2.2) (fun z9 => (-1 ≤ z9.1 ∧ z9.1 < K 6 0) ∧ upk (K 0) z9.2.2.1 z9.1 = -1 ∧ (-1 ≤ z9.2.1 ∧ z9.2.1 < K 6 0) ∧ (z9.2.1 = -1 → fhe K p = fel K z9.2.2.1 z9.1) ∧ (z9.2.1 ≠ -1 → fhe K p = z9.2.1) ∧ (z9.2.2.2.1 : Int) + 4 * z9.2.2.1 ≤ nc2 + 203 ∧ z9.2.2.2.2 ≤ 6 * z9.2.2.2.1) (fun z9 => z9.2.2.1) ?_ (K 0 p, K 1 p, 24, nc22 + 2 + 2, ns22 + 12 + 12) ?_
            · rintro ⟨q, r2, m, nc81, ns81⟩ hinv81 ih81
              dsimp only at hinv81 ih81 ⊢
              obtain ⟨k1, k2, k3, k4, k5, b5, b6⟩ := hinv81
              refine j_iload_n dL_heirs_81 rfl rfl ?_
              refine j_if_lt (tgt := 116) dL_heirs_82 (by decide) (by omega) (fun c82 => ?_) (fun c82 => ?_)
              · have hfin : fhe K p = r2 := by
                  by_cases e : r2 = -1
                  · rw [k4 e, show q = -1 by omega, fel_e (.inl rfl), e]
                  · exact k5 e
                refine j_aload_n dL_heirs_116 rfl rfl ?_
                refine j_iload_n dL_heirs_117 rfl rfl ?_
                refine j_callSW (l_heirI hC (p := p) (by omega)) dL_heirs_118 jc_L_207 jmS_L_heir (fun q => by cases q) rfl rfl (by decide) (jfr_of rfl rfl) (Nat.le_of_ble_eq_true rfl) ⟨Nat.le_of_ble_eq_true rfl, Nat.le_of_ble_eq_true rfl⟩ (show nc81 + 2 ≤ 6000 ∧ ns81 + 12 ≤ 36000 by omega) (fun r h21 hp9 => ?_)
                obtain ⟨rfl, rfl⟩ := hp9
                refine j_aload_n dL_heirs_121 rfl rfl ?_
                refine j_iload_n dL_heirs_122 rfl rfl ?_
                refine j_bipush dL_heirs_123 (by decide +kernel) ?_
                refine j_callSW (l_of6 hC (p := p) (by omega)) dL_heirs_125 jc_L_151 jmS_L_of (fun q => by cases q) rfl rfl (by decide) (jfr_of rfl rfl) (Nat.le_of_ble_eq_true rfl) ⟨Nat.le_of_ble_eq_true rfl, Nat.le_of_ble_eq_true rfl⟩ (show nc81 + 2 + 2 ≤ 6000 ∧ ns81 + 12 + 12 ≤ 36000 by omega) (fun r h22 hp9 => ?_)
                obtain ⟨rfl, rfl⟩ := hp9
                refine j_iconst dL_heirs_128 ?_
                refine j_icmp_ne (tgt := 136) dL_heirs_129 (by decide) (by omega) (fun c129 => ?_) (fun c129 => ?_)
                · refine j_bipush dL_heirs_136 (by decide +kernel) ?_
                  have hi9 : -14 ≤ (if K 3 p = 0 then (-14 : Int) else fhe K p) ∧ (if K 3 p = 0 then (-14 : Int) else fhe K p) < K 6 0 := by split <;> omega
                  refine j_icmp_eq (tgt := 143) dL_heirs_138 (by decide) (by omega) (fun c138 => ?_) (fun c138 => (absurd (by rw [if_pos (by omega)]) c138))
                  refine j_iinc (L' := [(0, _), (1, _), (2, _), (3, _)]) dL_heirs_143 rfl (Nat.le_of_ble_eq_true rfl) rfl ?_
                  refine j_goto (tgt := 2) dL_heirs_146 (by decide) ?_
                  refine J.keep [0, 1] (L' := [(0, _), (1, _)]) rfl ?_
                  refine ih2 (p + 1, nc81 + 2 + 2, ns81 + 12 + 12) ?_ ?_
                  · dsimp only
                    exact ⟨by omega, by omega, by omega⟩
                  · dsimp only
                    omega
                · refine j_iload_n dL_heirs_132 rfl rfl ?_
                  refine j_goto (tgt := 138) dL_heirs_133 (by decide) ?_
                  have hi9 : -14 ≤ (if K 3 p = 0 then (-14 : Int) else fhe K p) ∧ (if K 3 p = 0 then (-14 : Int) else fhe K p) < K 6 0 := by split <;> omega
                  refine j_icmp_eq (tgt := 143) dL_heirs_138 (by decide) (by omega) (fun c138 => ?_) (fun c138 => (absurd (by rw [if_neg (by omega)]; exact hfin) c138))
                  refine j_iinc (L' := [(0, _), (1, _), (2, _), (3, _)]) dL_heirs_143 rfl (Nat.le_of_ble_eq_true rfl) rfl ?_
                  refine j_goto (tgt := 2) dL_heirs_146 (by decide) ?_
                  refine J.keep [0, 1] (L' := [(0, _), (1, _)]) rfl ?_
                  refine ih2 (p + 1, nc81 + 2 + 2, ns81 + 12 + 12) ?_ ?_
                  · dsimp only
                    exact ⟨by omega, by omega, by omega⟩
                  · dsimp only
                    omega
              · refine j_iload_n dL_heirs_85 rfl rfl ?_
                refine j_if_ge (tgt := 116) dL_heirs_86 (by decide) (by omega) (fun c86 => ?_) (fun c86 => ?_)
                · have hfin : fhe K p = r2 := by
                    by_cases e : r2 = -1
                    · rw [k4 e, show q = -1 by omega, fel_e (.inl rfl), e]
                    · exact k5 e
                  refine j_aload_n dL_heirs_116 rfl rfl ?_
                  refine j_iload_n dL_heirs_117 rfl rfl ?_
                  refine j_callSW (l_heirI hC (p := p) (by omega)) dL_heirs_118 jc_L_207 jmS_L_heir (fun q => by cases q) rfl rfl (by decide) (jfr_of rfl rfl) (Nat.le_of_ble_eq_true rfl) ⟨Nat.le_of_ble_eq_true rfl, Nat.le_of_ble_eq_true rfl⟩ (show nc81 + 2 ≤ 6000 ∧ ns81 + 12 ≤ 36000 by omega) (fun r h23 hp9 => ?_)
                  obtain ⟨rfl, rfl⟩ := hp9
                  refine j_aload_n dL_heirs_121 rfl rfl ?_
                  refine j_iload_n dL_heirs_122 rfl rfl ?_
                  refine j_bipush dL_heirs_123 (by decide +kernel) ?_
                  refine j_callSW (l_of6 hC (p := p) (by omega)) dL_heirs_125 jc_L_151 jmS_L_of (fun q => by cases q) rfl rfl (by decide) (jfr_of rfl rfl) (Nat.le_of_ble_eq_true rfl) ⟨Nat.le_of_ble_eq_true rfl, Nat.le_of_ble_eq_true rfl⟩ (show nc81 + 2 + 2 ≤ 6000 ∧ ns81 + 12 + 12 ≤ 36000 by omega) (fun r h24 hp9 => ?_)
                  obtain ⟨rfl, rfl⟩ := hp9
                  refine j_iconst dL_heirs_128 ?_
                  refine j_icmp_ne (tgt := 136) dL_heirs_129 (by decide) (by omega) (fun c129 => ?_) (fun c129 => ?_)
                  · refine j_bipush dL_heirs_136 (by decide +kernel) ?_
                    have hi9 : -14 ≤ (if K 3 p = 0 then (-14 : Int) else fhe K p) ∧ (if K 3 p = 0 then (-14 : Int) else fhe K p) < K 6 0 := by split <;> omega
                    refine j_icmp_eq (tgt := 143) dL_heirs_138 (by decide) (by omega) (fun c138 => ?_) (fun c138 => (absurd (by rw [if_pos (by omega)]) c138))
                    refine j_iinc (L' := [(0, _), (1, _), (2, _), (3, _)]) dL_heirs_143 rfl (Nat.le_of_ble_eq_true rfl) rfl ?_
                    refine j_goto (tgt := 2) dL_heirs_146 (by decide) ?_
                    refine J.keep [0, 1] (L' := [(0, _), (1, _)]) rfl ?_
                    refine ih2 (p + 1, nc81 + 2 + 2, ns81 + 12 + 12) ?_ ?_
                    · dsimp only
                      exact ⟨by omega, by omega, by omega⟩
                    · dsimp only
                      omega
                  · refine j_iload_n dL_heirs_132 rfl rfl ?_
                    refine j_goto (tgt := 138) dL_heirs_133 (by decide) ?_
                    have hi9 : -14 ≤ (if K 3 p = 0 then (-14 : Int) else fhe K p) ∧ (if K 3 p = 0 then (-14 : Int) else fhe K p) < K 6 0 := by split <;> omega
                    refine j_icmp_eq (tgt := 143) dL_heirs_138 (by decide) (by omega) (fun c138 => ?_) (fun c138 => (absurd (by rw [if_neg (by omega)]; exact hfin) c138))
                    refine j_iinc (L' := [(0, _), (1, _), (2, _), (3, _)]) dL_heirs_143 rfl (Nat.le_of_ble_eq_true rfl) rfl ?_
                    refine j_goto (tgt := 2) dL_heirs_146 (by decide) ?_
                    refine J.keep [0, 1] (L' := [(0, _), (1, _)]) rfl ?_
                    refine ih2 (p + 1, nc81 + 2 + 2, ns81 + 12 + 12) ?_ ?_
                    · dsimp only
                      exact ⟨by omega, by omega, by omega⟩
                    · dsimp only
                      omega
                · have hq3 := hO.l q
                  have hqp := hO.p q
                  have e2 : r2 = -1 := by omega
                  obtain ⟨m, rfl, k2⟩ := upk_dec k2 (by omega)
                  refine j_aload_n dL_heirs_89 rfl rfl ?_
                  refine j_iload_n dL_heirs_90 rfl rfl ?_
                  refine j_bipush dL_heirs_91 (by decide +kernel) ?_
                  refine j_callSW (l_of6 hC (p := q) (by omega)) dL_heirs_93 jc_L_151 jmS_L_of (fun q => by cases q) rfl rfl (by decide) (jfr_of rfl rfl) (Nat.le_of_ble_eq_true rfl) ⟨Nat.le_of_ble_eq_true rfl, Nat.le_of_ble_eq_true rfl⟩ (show nc81 + 2 ≤ 6000 ∧ ns81 + 12 ≤ 36000 by omega) (fun r h25 hp9 => ?_)
                  obtain ⟨rfl, rfl⟩ := hp9
                  refine j_iconst dL_heirs_96 ?_
                  refine j_icmp_ne (tgt := 104) dL_heirs_97 (by decide) (by omega) (fun c97 => ?_) (fun c97 => ?_)
                  · refine j_iconst dL_heirs_104 ?_
                    refine j_istore_n (L' := [(0, _), (1, _), (2, _), (3, _)]) dL_heirs_105 rfl (Nat.le_of_ble_eq_true rfl) rfl ?_
                    refine j_aload_n dL_heirs_106 rfl rfl ?_
                    refine j_iload_n dL_heirs_107 rfl rfl ?_
                    refine j_iconst dL_heirs_108 ?_
                    refine j_callSW (l_of0 hC (p := q) (by omega)) dL_heirs_109 jc_L_151 jmS_L_of (fun q => by cases q) rfl rfl (by decide) (jfr_of rfl rfl) (Nat.le_of_ble_eq_true rfl) ⟨Nat.le_of_ble_eq_true rfl, Nat.le_of_ble_eq_true rfl⟩ (show nc81 + 2 + 2 ≤ 6000 ∧ ns81 + 12 + 12 ≤ 36000 by omega) (fun r h26 hp9 => ?_)
                    obtain ⟨rfl, rfl⟩ := hp9
                    refine j_istore_n (L' := [(0, _), (1, _), (2, _), (3, _)]) dL_heirs_112 rfl (Nat.le_of_ble_eq_true rfl) rfl ?_
                    refine j_goto (tgt := 81) dL_heirs_113 (by decide) ?_
                    refine ih81 (K 0 q, -1, m, nc81 + 2 + 2, ns81 + 12 + 12) ?_ ?_
                    · dsimp only
                      exact ⟨by omega, k2, by omega, fun _ => (k4 e2).trans (fel_st (fun z => z.elim (by omega) (by omega))), fun e => absurd rfl e, by omega, by omega⟩
                    · dsimp only
                      omega
                  · refine j_iload_n dL_heirs_100 rfl rfl ?_
                    refine j_goto (tgt := 105) dL_heirs_101 (by decide) ?_
                    refine j_istore_n (L' := [(0, _), (1, _), (2, _), (3, _)]) dL_heirs_105 rfl (Nat.le_of_ble_eq_true rfl) rfl ?_
                    refine j_aload_n dL_heirs_106 rfl rfl ?_
                    refine j_iload_n dL_heirs_107 rfl rfl ?_
                    refine j_iconst dL_heirs_108 ?_
                    refine j_callSW (l_of0 hC (p := q) (by omega)) dL_heirs_109 jc_L_151 jmS_L_of (fun q => by cases q) rfl rfl (by decide) (jfr_of rfl rfl) (Nat.le_of_ble_eq_true rfl) ⟨Nat.le_of_ble_eq_true rfl, Nat.le_of_ble_eq_true rfl⟩ (show nc81 + 2 + 2 ≤ 6000 ∧ ns81 + 12 + 12 ≤ 36000 by omega) (fun r h27 hp9 => ?_)
                    obtain ⟨rfl, rfl⟩ := hp9
                    refine j_istore_n (L' := [(0, _), (1, _), (2, _), (3, _)]) dL_heirs_112 rfl (Nat.le_of_ble_eq_true rfl) rfl ?_
                    refine j_goto (tgt := 81) dL_heirs_113 (by decide) ?_
                    refine ih81 (K 0 q, q, m, nc81 + 2 + 2, ns81 + 12 + 12) ?_ ?_
                    · dsimp only
                      exact ⟨by omega, k2, by omega, fun e => absurd e (by omega), fun _ => (k4 e2).trans (fel_e (.inr (by omega)) _), by omega, by omega⟩
                    · dsimp only
                      omega
            · dsimp only
              exact ⟨by omega, hA _, by omega, fun e => by rw [hfe]; rw [if_pos (by omega), if_pos (by omega)]; rfl, fun e => by rw [hfe]; rw [if_pos (by omega), if_neg (by omega)], by omega, by omega⟩
        · have hz1 := drop_c (l := des K 24 p) (i := z.toNat) (by omega)
          rw [show z.toNat + 1 = (z + 1).toNat by omega] at hz1
          have hz2 := des_gD (F := K) (p := p) (i := z.toNat) (by omega)
          have hz3 := hO.l (((des K 24 p)[z.toNat]?).getD 0)
          refine j_aload_n dL_heirs_26 rfl rfl ?_
          refine j_iload_n dL_heirs_27 rfl rfl ?_
          refine j_iload_n dL_heirs_28 rfl rfl ?_
          refine j_callSW (l_descendantY hC (p := p) (q := z) (by omega) (by omega)) dL_heirs_29 jc_L_196 jmS_L_descendant (fun q => by cases q) rfl rfl (by decide) (jfr_of rfl rfl) (Nat.le_of_ble_eq_true rfl) ⟨Nat.le_of_ble_eq_true rfl, Nat.le_of_ble_eq_true rfl⟩ (show nc22 + 2 ≤ 6000 ∧ ns22 + 12 ≤ 36000 by omega) (fun r h28 hp9 => ?_)
          obtain ⟨rfl, rfl⟩ := hp9
          refine j_istore (L' := [(0, _), (1, _), (2, _), (3, _), (4, _)]) dL_heirs_32 (Nat.le_of_ble_eq_true rfl) rfl ?_
          refine j_aload_n dL_heirs_34 rfl rfl ?_
          refine j_iload dL_heirs_35 rfl ?_
          refine j_bipush dL_heirs_37 (by decide +kernel) ?_
          refine j_callSW (l_of6 hC (p := ((des K 24 p)[z.toNat]?).getD 0) (by omega)) dL_heirs_39 jc_L_151 jmS_L_of (fun q => by cases q) rfl rfl (by decide) (jfr_of rfl rfl) (Nat.le_of_ble_eq_true rfl) ⟨Nat.le_of_ble_eq_true rfl, Nat.le_of_ble_eq_true rfl⟩ (show nc22 + 2 + 2 ≤ 6000 ∧ ns22 + 12 + 12 ≤ 36000 by omega) (fun r h29 hp9 => ?_)
          obtain ⟨rfl, rfl⟩ := hp9
          refine j_iconst dL_heirs_42 ?_
          refine j_icmp_ne (tgt := 51) dL_heirs_43 (by decide) (by omega) (fun c43 => ?_) (fun c43 => ?_)
          · refine j_iload_n dL_heirs_51 rfl rfl ?_
            refine j_istore_n (L' := [(0, _), (1, _), (2, _), (3, _), (4, _)]) dL_heirs_52 rfl (Nat.le_of_ble_eq_true rfl) rfl ?_
            refine j_iinc (L' := [(0, _), (1, _), (2, _), (3, _), (4, _)]) dL_heirs_53 rfl (Nat.le_of_ble_eq_true rfl) rfl ?_
            refine j_goto (tgt := 22) dL_heirs_56 (by decide) ?_
            refine J.keep [0, 1, 2, 3] (L' := [(0, _), (1, _), (2, _), (3, _)]) rfl ?_
            refine ih22 (z + (-1), r, nc22 + 2 + 2, ns22 + 12 + 12) ?_ ?_
            · dsimp only
              exact ⟨by omega, by rw [show (z + (-1) + 1).toNat = z.toNat by omega, hz1, flv_c, if_neg (by omega)]; exact j2, by omega, by omega, by omega⟩
            · dsimp only
              omega
          · refine j_iload dL_heirs_46 rfl ?_
            refine j_goto (tgt := 52) dL_heirs_48 (by decide) ?_
            refine j_istore_n (L' := [(0, _), (1, _), (2, _), (3, _), (4, _)]) dL_heirs_52 rfl (Nat.le_of_ble_eq_true rfl) rfl ?_
            refine j_iinc (L' := [(0, _), (1, _), (2, _), (3, _), (4, _)]) dL_heirs_53 rfl (Nat.le_of_ble_eq_true rfl) rfl ?_
            refine j_goto (tgt := 22) dL_heirs_56 (by decide) ?_
            refine J.keep [0, 1, 2, 3] (L' := [(0, _), (1, _), (2, _), (3, _)]) rfl ?_
            refine ih22 (z + (-1), ((des K 24 p)[z.toNat]?).getD 0, nc22 + 2 + 2, ns22 + 12 + 12) ?_ ?_
            · dsimp only
              exact ⟨by omega, by rw [show (z + (-1) + 1).toNat = z.toNat by omega, hz1, flv_c, if_pos (by omega)], by omega, by omega, by omega⟩
            · dsimp only
              omega
      · dsimp only
        exact ⟨by omega, by rw [show (((des K 24 p).length : Int) - 1 + 1).toNat = (des K 24 p).length by omega, List.drop_length]; rfl, by omega, by omega, by omega⟩
  · dsimp only
    exact ⟨by omega, by decide, by decide⟩
