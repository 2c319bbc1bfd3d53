theorem wd9a_56 : (Jvm.Cond.initialized "java/lang/Math") ∈ jWL := jw_mem 56 (by decide +kernel) (by decide +kernel)
theorem wd9a_306 : (Jvm.Cond.static ({ cls := "java/lang/Math", name := "max", desc := "(II)I" } : Jvm.MethodName)) ∈ jWL := jw_mem 306 (by decide +kernel) (by decide +kernel)
theorem wd9a_307 : (Jvm.Cond.code ({ cls := "java/lang/Math", name := "max", desc := "(II)I" } : Jvm.MethodName) prog_21_method_65_code (2 : Nat) (Option.some Jvm.ClassFile.FieldType.int)) ∈ jWL := jw_mem 307 (by decide +kernel) (by decide +kernel)
theorem wd9a_856 : (Jvm.Cond.methodLink "FamilyOaksLaw" (202 : Nat) ({ cls := "java/lang/Math", name := "max", desc := "(II)I" } : Jvm.MethodName)) ∈ jWL := jw_mem 856 (by decide +kernel) (by decide +kernel)
/-! THE LAW'S ACCOUNTS -/
theorem cmax_rg {f : Int → Int} {b : Int} (h : ∀ i, 0 ≤ f i ∧ f i ≤ b) : ∀ k : Nat, 0 ≤ cmax f k ∧ cmax f k ≤ b
  | 0 => by have := h 0; show (0 : Int) ≤ 0 ∧ (0 : Int) ≤ b; omega
  | k + 1 => by
    have h1 := cmax_rg h k
    have h2 := h (k : Int)
    show 0 ≤ max (cmax f k) (f (k : Int)) ∧ max (cmax f k) (f (k : Int)) ≤ b
    omega
set_option maxHeartbeats 16000000 in
theorem m_accounts {B : Int} {K : fS} {P : Int → fS} {n : Int} {h : jH} (hC : lC B K P n h) (hN : ∀ j, 120 ≤ j ∧ j < 400 → h j = none) (hn0 : 0 < K 6 0) : jM mL_accounts 10 4500 27200 [300, 301, 302] [.ref 0] h (fun r h' => r = some (iv 1) ∧ lC B K P n h' ∧ jEx 11 3 h h') jno := by
  have hn := hC.n
  have hO := hC.O
  have hV : kV K := hC.1.2
  have hQ := hO.q
  obtain ⟨fs, hO0⟩ := hC.o
  refine j_method (by decide +kernel) rfl (fun _ _ _ => trivial) (Nat.le_of_ble_eq_true rfl) ?_
  generalize hZ : jZ [300, 301, 302] 4500 27200 _ _ = Z
  show J mL_accounts (jR 10 4500 27200) [300, 301, 302] Z 0 [(0, .ref 0)] [] h 0 0
  refine J.cl fun hcl => ?_
  refine j_aload_n dL_accounts_0 rfl rfl ?_
  refine j_iconst dL_accounts_1 ?_
  refine j_callV ((l_account hC (w := 0) (by decide)).is acc_0) dL_accounts_2 jc_L_128 jmV_X4_account rfl rfl hO0 rfl rfl (by simp) jfr_nil (Nat.le_of_ble_eq_true rfl) ⟨Nat.le_of_ble_eq_true rfl, Nat.le_of_ble_eq_true rfl⟩ (show 0 + 1 ≤ 4500 ∧ 0 + 6 ≤ 27200 by omega) (fun r h1 hp9 => ?_) (fun E h9 q => q.elim)
  obtain ⟨rfl, rfl⟩ := hp9
  refine j_istore_n (L' := [(0, _), (1, _)]) dL_accounts_5 rfl (Nat.le_of_ble_eq_true rfl) rfl ?_
  refine j_aload_n dL_accounts_6 rfl rfl ?_
  refine j_callS (m_houses hC hN) dL_accounts_7 jc_L_178 jmS_L_houses rfl rfl rfl (by decide) (jfr_of rfl rfl) (Nat.le_of_ble_eq_true rfl) ⟨Nat.le_of_ble_eq_true rfl, Nat.le_of_ble_eq_true rfl⟩ (show 0 + 1 + 4000 ≤ 4500 ∧ 0 + 6 + 24100 ≤ 27200 by omega) (fun r h2 hp9 => ?_) (fun E h9 q => q.elim)
  obtain ⟨rfl, H, rfl, hH⟩ := hp9
  refine j_astore_n (L' := [(0, _), (1, _), (2, _)]) dL_accounts_10 rfl (Nat.le_of_ble_eq_true rfl) rfl ?_
  refine j_iconst dL_accounts_11 ?_
  refine j_istore_n (L' := [(0, _), (1, _), (2, _), (3, _)]) dL_accounts_12 rfl (Nat.le_of_ble_eq_true rfl) rfl ?_
  refine j_iconst dL_accounts_13 ?_
  refine j_istore (L' := [(0, _), (1, _), (2, _), (3, _), (4, _)]) dL_accounts_14 (Nat.le_of_ble_eq_true rfl) rfl ?_
  refine j_iconst dL_accounts_16 ?_
  refine j_istore (L' := [(0, _), (1, _), (2, _), (3, _), (4, _), (5, _)]) dL_accounts_17 (Nat.le_of_ble_eq_true rfl) rfl ?_
  refine j_iconst dL_accounts_19 ?_
  refine j_istore (L' := [(0, _), (1, _), (2, _), (3, _), (4, _), (5, _), (6, _)]) dL_accounts_20 (Nat.le_of_ble_eq_true rfl) rfl ?_
  refine j_iconst dL_accounts_22 ?_
  refine j_istore (L' := [(0, _), (1, _), (2, _), (3, _), (4, _), (5, _), (6, _), (7, _)]) dL_accounts_23 (Nat.le_of_ble_eq_true rfl) rfl ?_
  refine j_iconst dL_accounts_25 ?_
  refine j_istore (L' := [(0, _), (1, _), (2, _), (3, _), (4, _), (5, _), (6, _), (7, _), (8, _)]) dL_accounts_26 (Nat.le_of_ble_eq_true rfl) rfl ?_
  refine j_iconst dL_accounts_28 ?_
  refine j_istore (L' := [(0, _), (1, _), (2, _), (3, _), (4, _), (5, _), (6, _), (7, _), (8, _), (9, _)]) dL_accounts_29 (Nat.le_of_ble_eq_true rfl) rfl ?_
  refine j_iconst dL_accounts_31 ?_
  refine j_istore (L' := [(0, _), (1, _), (2, _), (3, _), (4, _), (5, _), (6, _), (7, _), (8, _), (9, _), (10, _)]) dL_accounts_32 (Nat.le_of_ble_eq_true rfl) rfl ?_
  refine jloop (P := fun z9 : Int × Int × Int × Int × Int × Int × Int × Int × Nat × Nat => J mL_accounts (jR 10 4500 27200) [300, 301, 302] Z 34 [(0, .ref 0), (1, iv (K 6 0)), (2, .ref 301), (3, iv z9.2.1), (4, iv z9.2.2.1), (5, iv z9.2.2.2.1), (6, iv z9.2.2.2.2.1), (7, iv z9.2.2.2.2.2.1), (8, iv z9.2.2.2.2.2.2.1), (9, iv z9.2.2.2.2.2.2.2.1), (10, iv z9.1)] [] (jup h 301 (jA 0 ((K 6 0).toNat) H)) z9.2.2.2.2.2.2.2.2.1 z9.2.2.2.2.2.2.2.2.2) (fun z9 => (0 ≤ z9.1 ∧ z9.1 ≤ K 6 0) ∧ z9.2.1 = csum (fun c => bi (K 3 c ≠ 0)) z9.1.toNat ∧ z9.2.2.1 = csum (fun c => bi (K 0 c = -1)) z9.1.toNat ∧ z9.2.2.2.1 = csum (fun c => bi (K 1 c > c)) z9.1.toNat ∧ z9.2.2.2.2.1 = cmax (fun c => fdep K c) z9.1.toNat ∧ z9.2.2.2.2.2.1 = csum (fun c => K 2 c) z9.1.toNat ∧ z9.2.2.2.2.2.2.1 = csum (fun c => bi (fho K c = c)) z9.1.toNat ∧ z9.2.2.2.2.2.2.2.1 = csum (fun c => fdep K c) z9.1.toNat ∧ (z9.2.2.2.2.2.2.2.2.1 : Int) + 14 * (24 - z9.1) ≤ 4338 ∧ z9.2.2.2.2.2.2.2.2.2 ≤ 6 * z9.2.2.2.2.2.2.2.2.1 + 100) (fun z9 => (24 - z9.1).toNat) ?_ (0, 0, 0, 0, 0, 0, 0, 0, 0 + 1 + 4000, 0 + 6 + 24100) ?_
  · rintro ⟨p, s3, s4, s5, s6, s7, s8, s9, nc34, ns34⟩ hinv34 ih34
    dsimp only at hinv34 ih34 ⊢
    obtain ⟨i1, i3, i4, i5, i6, i7, i8, i9, b1, b2⟩ := hinv34
    refine j_iload dL_accounts_34 rfl ?_
    refine j_iload_n dL_accounts_36 rfl rfl ?_
    refine j_icmp_ge (tgt := 156) dL_accounts_37 (by decide) (by omega) (fun c37 => ?_) (fun c37 => ?_)
    · have e9 : p = K 6 0 := by omega
      rw [e9] at i3 i4 i5 i6 i7 i8 i9
      refine j_iconst dL_accounts_156 ?_
      refine j_istore (L' := [(0, _), (1, _), (2, _), (3, _), (4, _), (5, _), (6, _), (7, _), (8, _), (9, _), (10, _)]) dL_accounts_157 (Nat.le_of_ble_eq_true rfl) rfl ?_
      refine j_iconst dL_accounts_159 ?_
      refine j_istore (L' := [(0, _), (1, _), (2, _), (3, _), (4, _), (5, _), (6, _), (7, _), (8, _), (9, _), (10, _), (11, _)]) dL_accounts_160 (Nat.le_of_ble_eq_true rfl) rfl ?_
      refine jloop (P := fun z9 : Int × Nat × Nat => J mL_accounts (jR 10 4500 27200) [300, 301, 302] Z 162 [(0, .ref 0), (1, iv (K 6 0)), (2, .ref 301), (3, iv s3), (4, iv s4), (5, iv s5), (6, iv s6), (7, iv s7), (8, iv s8), (9, iv s9), (10, iv 1), (11, iv z9.1)] [] (jup h 301 (jA 0 ((K 6 0).toNat) H)) z9.2.1 z9.2.2) (fun z9 => (0 ≤ z9.1 ∧ z9.1 ≤ K 7 0) ∧ (z9.2.1 : Int) + 3 * (20 - z9.1) ≤ 4400 ∧ z9.2.2 ≤ 6 * z9.2.1 + 100) (fun z9 => (20 - z9.1).toNat) ?_ (0, nc34, ns34) ?_
      · rintro ⟨z, nc162, ns162⟩ hinv162 ih162
        dsimp only at hinv162 ih162 ⊢
        obtain ⟨j1, b3, b4⟩ := hinv162
        refine j_iload dL_accounts_162 rfl ?_
        refine j_aload_n dL_accounts_164 rfl rfl ?_
        refine j_iconst dL_accounts_165 ?_
        refine j_callV ((l_account (hC.up (k := 301) (x := (jA 0 ((K 6 0).toNat) H)) (by decide)) (w := 4) (by decide)).is acc_4) dL_accounts_166 jc_L_128 jmV_X4_account rfl rfl (jup_n (by decide) hO0) rfl rfl (by simp) jfr_nil (Nat.le_of_ble_eq_true rfl) ⟨Nat.le_of_ble_eq_true rfl, Nat.le_of_ble_eq_true rfl⟩ (show nc162 + 1 ≤ 4500 ∧ ns162 + 6 ≤ 27200 by omega) (fun r h3 hp9 => ?_) (fun E h9 q => q.elim)
        obtain ⟨rfl, rfl⟩ := hp9
        refine j_icmp_ge (tgt := 211) dL_accounts_169 (by decide) (by omega) (fun c169 => ?_) (fun c169 => ?_)
        · refine J.drop (h' := h) (drop_a (hN 301 (by decide))) hcl ?_
          have r3 := csum_bi (P := fun c => K 3 c ≠ 0) (K 6 0).toNat
          have r4 := csum_bi (P := fun c => K 0 c = -1) (K 6 0).toNat
          have r5 := csum_bi (P := fun c => K 1 c > c) (K 6 0).toNat
          have r6 := cmax_rg (f := fun c => fdep K c) (fun c => fdep_rg K c) (K 6 0).toNat
          have r7 := csum_co hO
          have r8 := csum_bi (P := fun c => fho K c = c) (K 6 0).toNat
          have r9 := csum_le (f := fun c => fdep K c) (fun c => fdep_rg K c) rfl (by decide) (k := K 6 0) (by omega)
          rw [← i3] at r3
          rw [← i4] at r4
          rw [← i5] at r5
          rw [← i6] at r6
          rw [← i7] at r7
          rw [← i8] at r8
          rw [← i9] at r9
          have a1 : acc K 1 = s3 := i3.symm
          have a2 : acc K 2 = s4 := i4.symm
          have a3 : acc K 3 = s5 := i5.symm
          have a6 : acc K 6 = s6 := i6.symm
          have a7 : acc K 7 = s7 := i7.symm
          have a8 : acc K 8 = K 9 0 := rfl
          have a9 : acc K 9 = K 10 0 := rfl
          have hbal : csum (fun c => K 2 c) (K 6 0).toNat + K 10 0 = K 9 0 := hC.1.1.2.2.2
          rw [← i7] at hbal
          have hKg := hO.g
          have hKo := hO.o
          have hKb := hO.b
          refine j_aload_n dL_accounts_211 rfl rfl ?_
          refine j_iconst dL_accounts_212 ?_
          refine j_callV (l_account hC (w := 1) (by decide)) dL_accounts_213 jc_L_128 jmV_X4_account rfl rfl hO0 rfl rfl (by simp) jfr_nil (Nat.le_of_ble_eq_true rfl) ⟨Nat.le_of_ble_eq_true rfl, Nat.le_of_ble_eq_true rfl⟩ (show nc162 + 1 + 1 ≤ 4500 ∧ ns162 + 6 + 6 ≤ 27200 by omega) (fun r h4 hp9 => ?_) (fun E h9 q => q.elim)
          obtain ⟨rfl, rfl⟩ := hp9
          refine j_iload_n dL_accounts_216 rfl rfl ?_
          refine j_icmp_ne (tgt := 302) dL_accounts_217 (by decide) (by omega) (fun c217 => (False.elim (by omega))) (fun c217 => ?_)
          refine j_aload_n dL_accounts_220 rfl rfl ?_
          refine j_iconst dL_accounts_221 ?_
          refine j_callV (l_account hC (w := 2) (by decide)) dL_accounts_222 jc_L_128 jmV_X4_account rfl rfl hO0 rfl rfl (by simp) jfr_nil (Nat.le_of_ble_eq_true rfl) ⟨Nat.le_of_ble_eq_true rfl, Nat.le_of_ble_eq_true rfl⟩ (show nc162 + 1 + 1 + 1 ≤ 4500 ∧ ns162 + 6 + 6 + 6 ≤ 27200 by omega) (fun r h5 hp9 => ?_) (fun E h9 q => q.elim)
          obtain ⟨rfl, rfl⟩ := hp9
          refine j_iload dL_accounts_225 rfl ?_
          refine j_icmp_ne (tgt := 302) dL_accounts_227 (by decide) (by omega) (fun c227 => (False.elim (by omega))) (fun c227 => ?_)
          refine j_aload_n dL_accounts_230 rfl rfl ?_
          refine j_iconst dL_accounts_231 ?_
          refine j_callV (l_account hC (w := 3) (by decide)) dL_accounts_232 jc_L_128 jmV_X4_account rfl rfl hO0 rfl rfl (by simp) jfr_nil (Nat.le_of_ble_eq_true rfl) ⟨Nat.le_of_ble_eq_true rfl, Nat.le_of_ble_eq_true rfl⟩ (show nc162 + 1 + 1 + 1 + 1 ≤ 4500 ∧ ns162 + 6 + 6 + 6 + 6 ≤ 27200 by omega) (fun r h6 hp9 => ?_) (fun E h9 q => q.elim)
          obtain ⟨rfl, rfl⟩ := hp9
          refine j_iload dL_accounts_235 rfl ?_
          refine j_icmp_ne (tgt := 302) dL_accounts_237 (by decide) (by omega) (fun c237 => (False.elim (by omega))) (fun c237 => ?_)
          refine j_aload_n dL_accounts_240 rfl rfl ?_
          refine j_bipush dL_accounts_241 (by decide +kernel) ?_
          refine j_callV (l_account hC (w := 6) (by decide)) dL_accounts_243 jc_L_128 jmV_X4_account rfl rfl hO0 rfl rfl (by simp) jfr_nil (Nat.le_of_ble_eq_true rfl) ⟨Nat.le_of_ble_eq_true rfl, Nat.le_of_ble_eq_true rfl⟩ (show nc162 + 1 + 1 + 1 + 1 + 1 ≤ 4500 ∧ ns162 + 6 + 6 + 6 + 6 + 6 ≤ 27200 by omega) (fun r h7 hp9 => ?_) (fun E h9 q => q.elim)
          obtain ⟨rfl, rfl⟩ := hp9
          refine j_iload dL_accounts_246 rfl ?_
          refine j_icmp_ne (tgt := 302) dL_accounts_248 (by decide) (by omega) (fun c248 => (False.elim (by omega))) (fun c248 => ?_)
          refine j_aload_n dL_accounts_251 rfl rfl ?_
          refine j_bipush dL_accounts_252 (by decide +kernel) ?_
          refine j_callV (l_account hC (w := 7) (by decide)) dL_accounts_254 jc_L_128 jmV_X4_account rfl rfl hO0 rfl rfl (by simp) jfr_nil (Nat.le_of_ble_eq_true rfl) ⟨Nat.le_of_ble_eq_true rfl, Nat.le_of_ble_eq_true rfl⟩ (show nc162 + 1 + 1 + 1 + 1 + 1 + 1 ≤ 4500 ∧ ns162 + 6 + 6 + 6 + 6 + 6 + 6 ≤ 27200 by omega) (fun r h8 hp9 => ?_) (fun E h9 q => q.elim)
          obtain ⟨rfl, rfl⟩ := hp9
          refine j_iload dL_accounts_257 rfl ?_
          refine j_icmp_ne (tgt := 302) dL_accounts_259 (by decide) (by omega) (fun c259 => (False.elim (by omega))) (fun c259 => ?_)
          refine j_aload_n dL_accounts_262 rfl rfl ?_
          refine j_bipush dL_accounts_263 (by decide +kernel) ?_
          refine j_callV (l_account hC (w := 8) (by decide)) dL_accounts_265 jc_L_128 jmV_X4_account rfl rfl hO0 rfl rfl (by simp) jfr_nil (Nat.le_of_ble_eq_true rfl) ⟨Nat.le_of_ble_eq_true rfl, Nat.le_of_ble_eq_true rfl⟩ (show nc162 + 1 + 1 + 1 + 1 + 1 + 1 + 1 ≤ 4500 ∧ ns162 + 6 + 6 + 6 + 6 + 6 + 6 + 6 ≤ 27200 by omega) (fun r h9 hp9 => ?_) (fun E h9 q => q.elim)
          obtain ⟨rfl, rfl⟩ := hp9
          refine j_iload dL_accounts_268 rfl ?_
          refine j_aload_n dL_accounts_270 rfl rfl ?_
          refine j_bipush dL_accounts_271 (by decide +kernel) ?_
          refine j_callV (l_account hC (w := 9) (by decide)) dL_accounts_273 jc_L_128 jmV_X4_account rfl rfl hO0 rfl rfl (by simp) jfr_nil (Nat.le_of_ble_eq_true rfl) ⟨Nat.le_of_ble_eq_true rfl, Nat.le_of_ble_eq_true rfl⟩ (show nc162 + 1 + 1 + 1 + 1 + 1 + 1 + 1 + 1 ≤ 4500 ∧ ns162 + 6 + 6 + 6 + 6 + 6 + 6 + 6 + 6 ≤ 27200 by omega) (fun r h10 hp9 => ?_) (fun E h9 q => q.elim)
          obtain ⟨rfl, rfl⟩ := hp9
          refine j_iadd dL_accounts_276 ?_
          refine j_icmp_ne (tgt := 302) dL_accounts_277 (by decide) (by omega) (fun c277 => (False.elim (by omega))) (fun c277 => ?_)
          refine j_aload_n dL_accounts_280 rfl rfl ?_
          refine j_callV (l_houses hC) dL_accounts_281 jc_L_240 jmV_X4_houses rfl rfl hO0 rfl rfl (by simp) jfr_nil (Nat.le_of_ble_eq_true rfl) ⟨Nat.le_of_ble_eq_true rfl, Nat.le_of_ble_eq_true rfl⟩ (show nc162 + 1 + 1 + 1 + 1 + 1 + 1 + 1 + 1 + 0 ≤ 4500 ∧ ns162 + 6 + 6 + 6 + 6 + 6 + 6 + 6 + 6 + 0 ≤ 27200 by omega) (fun r h11 hp9 => ?_) (fun E h9 q => q.elim)
          obtain ⟨rfl, rfl⟩ := hp9
          refine j_iload dL_accounts_284 rfl ?_
          refine j_icmp_ne (tgt := 302) dL_accounts_286 (by decide) (by omega) (fun c286 => (False.elim (by omega))) (fun c286 => ?_)
          refine j_aload_n dL_accounts_289 rfl rfl ?_
          refine j_callV (l_housesAgain hC) dL_accounts_290 jc_L_242 jmV_X4_housesAgain rfl rfl hO0 rfl rfl (by simp) jfr_nil (Nat.le_of_ble_eq_true rfl) ⟨Nat.le_of_ble_eq_true rfl, Nat.le_of_ble_eq_true rfl⟩ (show nc162 + 1 + 1 + 1 + 1 + 1 + 1 + 1 + 1 + 0 + 0 ≤ 4500 ∧ ns162 + 6 + 6 + 6 + 6 + 6 + 6 + 6 + 6 + 0 + 0 ≤ 27200 by omega) (fun r h12 hp9 => ?_) (fun E h9 q => q.elim)
          obtain ⟨rfl, hC1, hx1⟩ := hp9
          obtain ⟨fs1, hO1⟩ := hC1.o
          refine j_iload dL_accounts_293 rfl ?_
          refine j_icmp_ne (tgt := 302) dL_accounts_295 (by decide) (by omega) (fun c295 => (False.elim (by omega))) (fun c295 => ?_)
          refine j_iconst dL_accounts_298 ?_
          refine j_goto (tgt := 303) dL_accounts_299 (by decide) ?_
          refine j_istore (L' := [(0, _), (1, _), (2, _), (3, _), (4, _), (5, _), (6, _), (7, _), (8, _), (9, _), (10, _), (11, _)]) dL_accounts_303 (Nat.le_of_ble_eq_true rfl) rfl ?_
          refine j_iload dL_accounts_305 rfl ?_
          refine j_if_eq (tgt := 368) dL_accounts_307 (by decide) (by omega) (fun c307 => (False.elim (by omega))) (fun c307 => ?_)
          refine j_iload dL_accounts_310 rfl ?_
          refine j_if_eq (tgt := 368) dL_accounts_312 (by decide) (by omega) (fun c312 => (False.elim (by omega))) (fun c312 => ?_)
          refine j_aload_n dL_accounts_315 rfl rfl ?_
          refine j_aload_n dL_accounts_316 rfl rfl ?_
          refine j_iconst dL_accounts_317 ?_
          refine j_callV ((l_account hC1 (w := 4) (by decide)).is acc_4) dL_accounts_318 jc_L_128 jmV_X4_account rfl rfl hO1 rfl rfl (by simp) jfr_nil (Nat.le_of_ble_eq_true rfl) ⟨Nat.le_of_ble_eq_true rfl, Nat.le_of_ble_eq_true rfl⟩ (show nc162 + 1 + 1 + 1 + 1 + 1 + 1 + 1 + 1 + 0 + 0 + 1 ≤ 4500 ∧ ns162 + 6 + 6 + 6 + 6 + 6 + 6 + 6 + 6 + 0 + 0 + 6 ≤ 27200 by omega) (fun r h13 hp9 => ?_) (fun E h9 q => q.elim)
          obtain ⟨rfl, rfl⟩ := hp9
          refine j_iconst dL_accounts_321 ?_
          refine j_callSW (l_quarrelAtN hC1 rfl) dL_accounts_322 jc_L_185 jmS_L_quarrelAt (fun q => by cases q) rfl rfl (by decide) (jfr_of rfl rfl) (Nat.le_of_ble_eq_true rfl) ⟨Nat.le_of_ble_eq_true rfl, Nat.le_of_ble_eq_true rfl⟩ (show nc162 + 1 + 1 + 1 + 1 + 1 + 1 + 1 + 1 + 0 + 0 + 1 + 1 ≤ 4500 ∧ ns162 + 6 + 6 + 6 + 6 + 6 + 6 + 6 + 6 + 0 + 0 + 6 + 6 ≤ 27200 by omega) (fun r h14 hp9 => ?_)
          obtain ⟨rfl, rfl⟩ := hp9
          refine j_bipush dL_accounts_325 (by decide +kernel) ?_
          refine j_icmp_ne (tgt := 368) dL_accounts_327 (by decide) (by omega) (fun c327 => (False.elim (by omega))) (fun c327 => ?_)
          refine j_aload_n dL_accounts_330 rfl rfl ?_
          refine j_callV (l_isWell hC1) dL_accounts_331 jc_L_245 jmV_X4_isWell rfl rfl hO1 rfl rfl (by simp) jfr_nil (Nat.le_of_ble_eq_true rfl) ⟨Nat.le_of_ble_eq_true rfl, Nat.le_of_ble_eq_true rfl⟩ (show nc162 + 1 + 1 + 1 + 1 + 1 + 1 + 1 + 1 + 0 + 0 + 1 + 1 + 0 ≤ 4500 ∧ ns162 + 6 + 6 + 6 + 6 + 6 + 6 + 6 + 6 + 0 + 0 + 6 + 6 + 0 ≤ 27200 by omega) (fun r h15 hp9 => ?_) (fun E h9 q => q.elim)
          obtain ⟨rfl, hC2, hx2⟩ := hp9
          obtain ⟨fs2, hO2⟩ := hC2.o
          refine j_if_eq (tgt := 368) dL_accounts_334 (by decide) (by omega) (fun c334 => (False.elim (by omega))) (fun c334 => ?_)
          refine j_aload_n dL_accounts_337 rfl rfl ?_
          refine j_callV (l_meanDepth hC2 hn0) dL_accounts_338 jc_L_249 jmV_X4_meanDepth rfl rfl hO2 rfl rfl (by simp) jfr_nil (Nat.le_of_ble_eq_true rfl) ⟨Nat.le_of_ble_eq_true rfl, Nat.le_of_ble_eq_true rfl⟩ (show nc162 + 1 + 1 + 1 + 1 + 1 + 1 + 1 + 1 + 0 + 0 + 1 + 1 + 0 + 1 ≤ 4500 ∧ ns162 + 6 + 6 + 6 + 6 + 6 + 6 + 6 + 6 + 0 + 0 + 6 + 6 + 0 + 6 ≤ 27200 by omega) (fun r h16 hp9 => ?_) (fun E h9 q => q.elim)
          obtain ⟨rfl, rfl⟩ := hp9
          refine j_iload dL_accounts_341 rfl ?_
          refine j_i2d dL_accounts_343 ?_
          refine j_iload_n dL_accounts_344 rfl rfl ?_
          refine j_i2d dL_accounts_345 ?_
          refine j_ddiv dL_accounts_346 (fp_d (by omega) (by omega)) ?_
          refine j_dcmp dL_accounts_347 ?_
          rw [← i9, fp_cd (by omega) (by omega)]
          refine j_if_ne (tgt := 368) dL_accounts_348 (by decide) (by omega) (fun c348 => (False.elim (by omega))) (fun c348 => ?_)
          refine j_aload_n dL_accounts_351 rfl rfl ?_
          refine j_callV (l_livingShare hC2 hn0) dL_accounts_352 jc_L_253 jmV_X4_livingShare rfl rfl hO2 rfl rfl (by simp) jfr_nil (Nat.le_of_ble_eq_true rfl) ⟨Nat.le_of_ble_eq_true rfl, Nat.le_of_ble_eq_true rfl⟩ (show nc162 + 1 + 1 + 1 + 1 + 1 + 1 + 1 + 1 + 0 + 0 + 1 + 1 + 0 + 1 + 1 ≤ 4500 ∧ ns162 + 6 + 6 + 6 + 6 + 6 + 6 + 6 + 6 + 0 + 0 + 6 + 6 + 0 + 6 + 6 ≤ 27200 by omega) (fun r h17 hp9 => ?_) (fun E h9 q => q.elim)
          obtain ⟨rfl, rfl⟩ := hp9
          refine j_iload_n dL_accounts_355 rfl rfl ?_
          refine j_i2f dL_accounts_356 ?_
          refine j_iload_n dL_accounts_357 rfl rfl ?_
          refine j_i2f dL_accounts_358 ?_
          refine j_fdiv dL_accounts_359 (fp_f (by omega) (by omega)).1 ?_
          refine j_fcmp dL_accounts_360 ?_
          rw [← i3, fp_cf (by omega) (by omega)]
          refine j_if_ne (tgt := 368) dL_accounts_361 (by decide) (by omega) (fun c361 => (False.elim (by omega))) (fun c361 => ?_)
          refine j_iconst dL_accounts_364 ?_
          refine j_goto (tgt := 369) dL_accounts_365 (by decide) ?_
          subst hZ
          exact j_ireturn dL_accounts_369 rfl rfl ⟨rfl, hC2, fun j hj => (hx2 j hj).trans (hx1 j hj)⟩ (show nc162 + 1 + 1 + 1 + 1 + 1 + 1 + 1 + 1 + 0 + 0 + 1 + 1 + 0 + 1 + 1 ≤ 4500 by omega) (show ns162 + 6 + 6 + 6 + 6 + 6 + 6 + 6 + 6 + 0 + 0 + 6 + 6 + 0 + 6 + 6 ≤ 27200 by omega)
        · have hz9 := hO.qq z (by omega) (by omega)
          have hzv := hV.2.2.1 z (by omega) (by omega)
          have hz4 := hH (K 4 z) hz9.1.1 hz9.1.2
          have hz5 := hH (K 5 z) hz9.2.1 hz9.2.2
          have hf4 := fho_rg hO hz9.1
          have hf5 := fho_rg hO hz9.2
          refine j_iload dL_accounts_172 rfl ?_
          refine j_if_eq (tgt := 202) dL_accounts_174 (by decide) (by omega) (fun c174 => (False.elim (by omega))) (fun c174 => ?_)
          refine j_aload_n dL_accounts_177 rfl rfl ?_
          refine j_aload_n dL_accounts_178 rfl rfl ?_
          refine j_iload dL_accounts_179 rfl ?_
          refine j_iconst dL_accounts_181 ?_
          refine j_callSW (l_quarrelAt0 (hC.up (k := 301) (x := (jA 0 ((K 6 0).toNat) H)) (by decide)) (p := z) (by omega)) dL_accounts_182 jc_L_185 jmS_L_quarrelAt (fun q => by cases q) rfl rfl (by decide) (jfr_of rfl rfl) (Nat.le_of_ble_eq_true rfl) ⟨Nat.le_of_ble_eq_true rfl, Nat.le_of_ble_eq_true rfl⟩ (show nc162 + 1 + 1 ≤ 4500 ∧ ns162 + 6 + 6 ≤ 27200 by omega) (fun r h18 hp9 => ?_)
          obtain ⟨rfl, rfl⟩ := hp9
          refine j_iaload (f := H) dL_accounts_185 jup_s (by omega) (by omega) ?_
          refine j_aload_n dL_accounts_186 rfl rfl ?_
          refine j_aload_n dL_accounts_187 rfl rfl ?_
          refine j_iload dL_accounts_188 rfl ?_
          refine j_iconst dL_accounts_190 ?_
          refine j_callSW (l_quarrelAt1 (hC.up (k := 301) (x := (jA 0 ((K 6 0).toNat) H)) (by decide)) (p := z) (by omega)) dL_accounts_191 jc_L_185 jmS_L_quarrelAt (fun q => by cases q) rfl rfl (by decide) (jfr_of rfl rfl) (Nat.le_of_ble_eq_true rfl) ⟨Nat.le_of_ble_eq_true rfl, Nat.le_of_ble_eq_true rfl⟩ (show nc162 + 1 + 1 + 1 ≤ 4500 ∧ ns162 + 6 + 6 + 6 ≤ 27200 by omega) (fun r h19 hp9 => ?_)
          obtain ⟨rfl, rfl⟩ := hp9
          refine j_iaload (f := H) dL_accounts_194 jup_s (by omega) (by omega) ?_
          refine j_icmp_eq (tgt := 202) dL_accounts_195 (by decide) (by omega) (fun c195 => (False.elim (by omega))) (fun c195 => ?_)
          refine j_iconst dL_accounts_198 ?_
          refine j_goto (tgt := 203) dL_accounts_199 (by decide) ?_
          refine j_istore (L' := [(0, _), (1, _), (2, _), (3, _), (4, _), (5, _), (6, _), (7, _), (8, _), (9, _), (10, _), (11, _)]) dL_accounts_203 (Nat.le_of_ble_eq_true rfl) rfl ?_
          refine j_iinc (L' := [(0, _), (1, _), (2, _), (3, _), (4, _), (5, _), (6, _), (7, _), (8, _), (9, _), (10, _), (11, _)]) dL_accounts_205 rfl (Nat.le_of_ble_eq_true rfl) rfl ?_
          refine j_goto (tgt := 162) dL_accounts_208 (by decide) ?_
          refine ih162 (z + 1, nc162 + 1 + 1 + 1, ns162 + 6 + 6 + 6) ?_ ?_
          · dsimp only
            exact ⟨by omega, by omega, by omega⟩
          · dsimp only
            omega
      · dsimp only
        exact ⟨by omega, by omega, by omega⟩
    · have hp : 0 ≤ p ∧ p < K 6 0 := by omega
      have hpl := hO.l p
      have hpp := hO.p p
      have hps := hO.s p
      have hpc := hO.c p
      have hpd := fdep_rg K p
      have hHp := hH p hp.1 hp.2
      have hfh := fho_rg hO hp
      have h6r : 0 ≤ s6 ∧ s6 ≤ 24 := by rw [i6]; exact cmax_rg (fun c => fdep_rg K c) _
      refine j_iload_n dL_accounts_40 rfl rfl ?_
      refine j_aload_n dL_accounts_41 rfl rfl ?_
      refine j_iload dL_accounts_42 rfl ?_
      refine j_bipush dL_accounts_44 (by decide +kernel) ?_
      refine j_callSW (l_of6 (hC.up (k := 301) (x := (jA 0 ((K 6 0).toNat) H)) (by decide)) (p := p) (by omega)) dL_accounts_46 jc_L_151 jmS_L_of (fun q => by cases q) rfl rfl (by decide) (jfr_of rfl rfl) (Nat.le_of_ble_eq_true rfl) ⟨Nat.le_of_ble_eq_true rfl, Nat.le_of_ble_eq_true rfl⟩ (show nc34 + 2 ≤ 4500 ∧ ns34 + 12 ≤ 27200 by omega) (fun r h20 hp9 => ?_)
      obtain ⟨rfl, rfl⟩ := hp9
      refine j_iadd dL_accounts_49 ?_
      refine j_istore_n (L' := [(0, _), (1, _), (2, _), (3, _), (4, _), (5, _), (6, _), (7, _), (8, _), (9, _), (10, _)]) dL_accounts_50 rfl (Nat.le_of_ble_eq_true rfl) rfl ?_
      refine j_iload dL_accounts_51 rfl ?_
      refine j_aload_n dL_accounts_53 rfl rfl ?_
      refine j_iload dL_accounts_54 rfl ?_
      refine j_iconst dL_accounts_56 ?_
      refine j_callSW (l_of0 (hC.up (k := 301) (x := (jA 0 ((K 6 0).toNat) H)) (by decide)) (p := p) (by omega)) dL_accounts_57 jc_L_151 jmS_L_of (fun q => by cases q) rfl rfl (by decide) (jfr_of rfl rfl) (Nat.le_of_ble_eq_true rfl) ⟨Nat.le_of_ble_eq_true rfl, Nat.le_of_ble_eq_true rfl⟩ (show nc34 + 2 + 2 ≤ 4500 ∧ ns34 + 12 + 12 ≤ 27200 by omega) (fun r h21 hp9 => ?_)
      obtain ⟨rfl, rfl⟩ := hp9
      refine j_if_ge (tgt := 67) dL_accounts_60 (by decide) (by omega) (fun c60 => ?_) (fun c60 => ?_)
      · refine j_iconst dL_accounts_67 ?_
        refine j_iadd dL_accounts_68 ?_
        refine j_istore (L' := [(0, _), (1, _), (2, _), (3, _), (4, _), (5, _), (6, _), (7, _), (8, _), (9, _), (10, _)]) dL_accounts_69 (Nat.le_of_ble_eq_true rfl) rfl ?_
        refine j_iload dL_accounts_71 rfl ?_
        refine j_aload_n dL_accounts_73 rfl rfl ?_
        refine j_iload dL_accounts_74 rfl ?_
        refine j_iconst dL_accounts_76 ?_
        refine j_callSW (l_of4 (hC.up (k := 301) (x := (jA 0 ((K 6 0).toNat) H)) (by decide)) (p := p) (by omega)) dL_accounts_77 jc_L_151 jmS_L_of (fun q => by cases q) rfl rfl (by decide) (jfr_of rfl rfl) (Nat.le_of_ble_eq_true rfl) ⟨Nat.le_of_ble_eq_true rfl, Nat.le_of_ble_eq_true rfl⟩ (show nc34 + 2 + 2 + 2 ≤ 4500 ∧ ns34 + 12 + 12 + 12 ≤ 27200 by omega) (fun r h22 hp9 => ?_)
        obtain ⟨rfl, rfl⟩ := hp9
        refine j_iload dL_accounts_80 rfl ?_
        refine j_icmp_le (tgt := 89) dL_accounts_82 (by decide) (by omega) (fun c82 => ?_) (fun c82 => ?_)
        · refine j_iconst dL_accounts_89 ?_
          refine j_iadd dL_accounts_90 ?_
          refine j_istore (L' := [(0, _), (1, _), (2, _), (3, _), (4, _), (5, _), (6, _), (7, _), (8, _), (9, _), (10, _)]) dL_accounts_91 (Nat.le_of_ble_eq_true rfl) rfl ?_
          refine j_iload dL_accounts_93 rfl ?_
          refine j_aload_n dL_accounts_95 rfl rfl ?_
          refine j_iload dL_accounts_96 rfl ?_
          refine j_iconst dL_accounts_98 ?_
          refine j_callSW (l_of1 (hC.up (k := 301) (x := (jA 0 ((K 6 0).toNat) H)) (by decide)) (p := p) (by omega)) dL_accounts_99 jc_L_151 jmS_L_of (fun q => by cases q) rfl rfl (by decide) (jfr_of rfl rfl) (Nat.le_of_ble_eq_true rfl) ⟨Nat.le_of_ble_eq_true rfl, Nat.le_of_ble_eq_true rfl⟩ (show nc34 + 2 + 2 + 2 + 2 ≤ 4500 ∧ ns34 + 12 + 12 + 12 + 12 ≤ 27200 by omega) (fun r h23 hp9 => ?_)
          obtain ⟨rfl, rfl⟩ := hp9
          refine j_mmax wd9a_856 wd9a_306 wd9a_56 wd9a_307 (by omega) dL_accounts_102 (by decide) (show nc34 + 2 + 2 + 2 + 2 ≤ 4500 ∧ ns34 + 12 + 12 + 12 + 12 ≤ 27200 by omega) (Nat.le_of_ble_eq_true rfl) ?_
          refine j_istore (L' := [(0, _), (1, _), (2, _), (3, _), (4, _), (5, _), (6, _), (7, _), (8, _), (9, _), (10, _)]) dL_accounts_105 (Nat.le_of_ble_eq_true rfl) rfl ?_
          refine j_iload dL_accounts_107 rfl ?_
          refine j_aload_n dL_accounts_109 rfl rfl ?_
          refine j_iload dL_accounts_110 rfl ?_
          refine j_iconst dL_accounts_112 ?_
          refine j_callSW (l_of5 (hC.up (k := 301) (x := (jA 0 ((K 6 0).toNat) H)) (by decide)) (p := p) (by omega)) dL_accounts_113 jc_L_151 jmS_L_of (fun q => by cases q) rfl rfl (by decide) (jfr_of rfl rfl) (Nat.le_of_ble_eq_true rfl) ⟨Nat.le_of_ble_eq_true rfl, Nat.le_of_ble_eq_true rfl⟩ (show nc34 + 2 + 2 + 2 + 2 + 2 ≤ 4500 ∧ ns34 + 12 + 12 + 12 + 12 + 12 ≤ 27200 by omega) (fun r h24 hp9 => ?_)
          obtain ⟨rfl, rfl⟩ := hp9
          refine j_iadd dL_accounts_116 ?_
          refine j_istore (L' := [(0, _), (1, _), (2, _), (3, _), (4, _), (5, _), (6, _), (7, _), (8, _), (9, _), (10, _)]) dL_accounts_117 (Nat.le_of_ble_eq_true rfl) rfl ?_
          refine j_iload dL_accounts_119 rfl ?_
          refine j_aload_n dL_accounts_121 rfl rfl ?_
          refine j_iload dL_accounts_122 rfl ?_
          refine j_iaload (f := H) dL_accounts_124 jup_s (by omega) (by omega) ?_
          refine j_iload dL_accounts_125 rfl ?_
          refine j_icmp_ne (tgt := 134) dL_accounts_127 (by decide) (by omega) (fun c127 => ?_) (fun c127 => ?_)
          · refine j_iconst dL_accounts_134 ?_
            refine j_iadd dL_accounts_135 ?_
            refine j_istore (L' := [(0, _), (1, _), (2, _), (3, _), (4, _), (5, _), (6, _), (7, _), (8, _), (9, _), (10, _)]) dL_accounts_136 (Nat.le_of_ble_eq_true rfl) rfl ?_
            refine j_iload dL_accounts_138 rfl ?_
            refine j_aload_n dL_accounts_140 rfl rfl ?_
            refine j_iload dL_accounts_141 rfl ?_
            refine j_iconst dL_accounts_143 ?_
            refine j_callSW (l_of1 (hC.up (k := 301) (x := (jA 0 ((K 6 0).toNat) H)) (by decide)) (p := p) (by omega)) dL_accounts_144 jc_L_151 jmS_L_of (fun q => by cases q) rfl rfl (by decide) (jfr_of rfl rfl) (Nat.le_of_ble_eq_true rfl) ⟨Nat.le_of_ble_eq_true rfl, Nat.le_of_ble_eq_true rfl⟩ (show nc34 + 2 + 2 + 2 + 2 + 2 + 2 ≤ 4500 ∧ ns34 + 12 + 12 + 12 + 12 + 12 + 12 ≤ 27200 by omega) (fun r h25 hp9 => ?_)
            obtain ⟨rfl, rfl⟩ := hp9
            refine j_iadd dL_accounts_147 ?_
            refine j_istore (L' := [(0, _), (1, _), (2, _), (3, _), (4, _), (5, _), (6, _), (7, _), (8, _), (9, _), (10, _)]) dL_accounts_148 (Nat.le_of_ble_eq_true rfl) rfl ?_
            refine j_iinc (L' := [(0, _), (1, _), (2, _), (3, _), (4, _), (5, _), (6, _), (7, _), (8, _), (9, _), (10, _)]) dL_accounts_150 rfl (Nat.le_of_ble_eq_true rfl) rfl ?_
            refine j_goto (tgt := 34) dL_accounts_153 (by decide) ?_
            refine ih34 (p + 1, s3 + (K 3 p), s4 + 0, s5 + 0, max s6 (fdep K p), s7 + (K 2 p), s8 + 0, s9 + (fdep K p), nc34 + 2 + 2 + 2 + 2 + 2 + 2, ns34 + 12 + 12 + 12 + 12 + 12 + 12) ?_ ?_
            · dsimp only
              exact ⟨by omega, csum_st i1.1 i3 (bi_l hO p), csum_st i1.1 i4 (bi_f (by omega)), csum_st i1.1 i5 (bi_f (by omega)), cmax_st i1.1 i6 rfl, csum_st i1.1 i7 rfl, csum_st i1.1 i8 (bi_f (by omega)), csum_st i1.1 i9 rfl, by omega, by omega⟩
            · dsimp only
              omega
          · refine j_iconst dL_accounts_130 ?_
            refine j_goto (tgt := 135) dL_accounts_131 (by decide) ?_
            refine j_iadd dL_accounts_135 ?_
            refine j_istore (L' := [(0, _), (1, _), (2, _), (3, _), (4, _), (5, _), (6, _), (7, _), (8, _), (9, _), (10, _)]) dL_accounts_136 (Nat.le_of_ble_eq_true rfl) rfl ?_
            refine j_iload dL_accounts_138 rfl ?_
            refine j_aload_n dL_accounts_140 rfl rfl ?_
            refine j_iload dL_accounts_141 rfl ?_
            refine j_iconst dL_accounts_143 ?_
            refine j_callSW (l_of1 (hC.up (k := 301) (x := (jA 0 ((K 6 0).toNat) H)) (by decide)) (p := p) (by omega)) dL_accounts_144 jc_L_151 jmS_L_of (fun q => by cases q) rfl rfl (by decide) (jfr_of rfl rfl) (Nat.le_of_ble_eq_true rfl) ⟨Nat.le_of_ble_eq_true rfl, Nat.le_of_ble_eq_true rfl⟩ (show nc34 + 2 + 2 + 2 + 2 + 2 + 2 ≤ 4500 ∧ ns34 + 12 + 12 + 12 + 12 + 12 + 12 ≤ 27200 by omega) (fun r h26 hp9 => ?_)
            obtain ⟨rfl, rfl⟩ := hp9
            refine j_iadd dL_accounts_147 ?_
            refine j_istore (L' := [(0, _), (1, _), (2, _), (3, _), (4, _), (5, _), (6, _), (7, _), (8, _), (9, _), (10, _)]) dL_accounts_148 (Nat.le_of_ble_eq_true rfl) rfl ?_
            refine j_iinc (L' := [(0, _), (1, _), (2, _), (3, _), (4, _), (5, _), (6, _), (7, _), (8, _), (9, _), (10, _)]) dL_accounts_150 rfl (Nat.le_of_ble_eq_true rfl) rfl ?_
            refine j_goto (tgt := 34) dL_accounts_153 (by decide) ?_
            refine ih34 (p + 1, s3 + (K 3 p), s4 + 0, s5 + 0, max s6 (fdep K p), s7 + (K 2 p), s8 + 1, s9 + (fdep K p), nc34 + 2 + 2 + 2 + 2 + 2 + 2, ns34 + 12 + 12 + 12 + 12 + 12 + 12) ?_ ?_
            · dsimp only
              exact ⟨by omega, csum_st i1.1 i3 (bi_l hO p), csum_st i1.1 i4 (bi_f (by omega)), csum_st i1.1 i5 (bi_f (by omega)), cmax_st i1.1 i6 rfl, csum_st i1.1 i7 rfl, csum_st i1.1 i8 (bi_t (by omega)), csum_st i1.1 i9 rfl, by omega, by omega⟩
            · dsimp only
              omega
        · refine j_iconst dL_accounts_85 ?_
          refine j_goto (tgt := 90) dL_accounts_86 (by decide) ?_
          refine j_iadd dL_accounts_90 ?_
          refine j_istore (L' := [(0, _), (1, _), (2, _), (3, _), (4, _), (5, _), (6, _), (7, _), (8, _), (9, _), (10, _)]) dL_accounts_91 (Nat.le_of_ble_eq_true rfl) rfl ?_
          refine j_iload dL_accounts_93 rfl ?_
          refine j_aload_n dL_accounts_95 rfl rfl ?_
          refine j_iload dL_accounts_96 rfl ?_
          refine j_iconst dL_accounts_98 ?_
          refine j_callSW (l_of1 (hC.up (k := 301) (x := (jA 0 ((K 6 0).toNat) H)) (by decide)) (p := p) (by omega)) dL_accounts_99 jc_L_151 jmS_L_of (fun q => by cases q) rfl rfl (by decide) (jfr_of rfl rfl) (Nat.le_of_ble_eq_true rfl) ⟨Nat.le_of_ble_eq_true rfl, Nat.le_of_ble_eq_true rfl⟩ (show nc34 + 2 + 2 + 2 + 2 ≤ 4500 ∧ ns34 + 12 + 12 + 12 + 12 ≤ 27200 by omega) (fun r h27 hp9 => ?_)
          obtain ⟨rfl, rfl⟩ := hp9
          refine j_mmax wd9a_856 wd9a_306 wd9a_56 wd9a_307 (by omega) dL_accounts_102 (by decide) (show nc34 + 2 + 2 + 2 + 2 ≤ 4500 ∧ ns34 + 12 + 12 + 12 + 12 ≤ 27200 by omega) (Nat.le_of_ble_eq_true rfl) ?_
          refine j_istore (L' := [(0, _), (1, _), (2, _), (3, _), (4, _), (5, _), (6, _), (7, _), (8, _), (9, _), (10, _)]) dL_accounts_105 (Nat.le_of_ble_eq_true rfl) rfl ?_
          refine j_iload dL_accounts_107 rfl ?_
          refine j_aload_n dL_accounts_109 rfl rfl ?_
          refine j_iload dL_accounts_110 rfl ?_
          refine j_iconst dL_accounts_112 ?_
          refine j_callSW (l_of5 (hC.up (k := 301) (x := (jA 0 ((K 6 0).toNat) H)) (by decide)) (p := p) (by omega)) dL_accounts_113 jc_L_151 jmS_L_of (fun q => by cases q) rfl rfl (by decide) (jfr_of rfl rfl) (Nat.le_of_ble_eq_true rfl) ⟨Nat.le_of_ble_eq_true rfl, Nat.le_of_ble_eq_true rfl⟩ (show nc34 + 2 + 2 + 2 + 2 + 2 ≤ 4500 ∧ ns34 + 12 + 12 + 12 + 12 + 12 ≤ 27200 by omega) (fun r h28 hp9 => ?_)
          obtain ⟨rfl, rfl⟩ := hp9
          refine j_iadd dL_accounts_116 ?_
          refine j_istore (L' := [(0, _), (1, _), (2, _), (3, _), (4, _), (5, _), (6, _), (7, _), (8, _), (9, _), (10, _)]) dL_accounts_117 (Nat.le_of_ble_eq_true rfl) rfl ?_
          refine j_iload dL_accounts_119 rfl ?_
          refine j_aload_n dL_accounts_121 rfl rfl ?_
          refine j_iload dL_accounts_122 rfl ?_
          refine j_iaload (f := H) dL_accounts_124 jup_s (by omega) (by omega) ?_
          refine j_iload dL_accounts_125 rfl ?_
          refine j_icmp_ne (tgt := 134) dL_accounts_127 (by decide) (by omega) (fun c127 => ?_) (fun c127 => ?_)
          · refine j_iconst dL_accounts_134 ?_
            refine j_iadd dL_accounts_135 ?_
            refine j_istore (L' := [(0, _), (1, _), (2, _), (3, _), (4, _), (5, _), (6, _), (7, _), (8, _), (9, _), (10, _)]) dL_accounts_136 (Nat.le_of_ble_eq_true rfl) rfl ?_
            refine j_iload dL_accounts_138 rfl ?_
            refine j_aload_n dL_accounts_140 rfl rfl ?_
            refine j_iload dL_accounts_141 rfl ?_
            refine j_iconst dL_accounts_143 ?_
            refine j_callSW (l_of1 (hC.up (k := 301) (x := (jA 0 ((K 6 0).toNat) H)) (by decide)) (p := p) (by omega)) dL_accounts_144 jc_L_151 jmS_L_of (fun q => by cases q) rfl rfl (by decide) (jfr_of rfl rfl) (Nat.le_of_ble_eq_true rfl) ⟨Nat.le_of_ble_eq_true rfl, Nat.le_of_ble_eq_true rfl⟩ (show nc34 + 2 + 2 + 2 + 2 + 2 + 2 ≤ 4500 ∧ ns34 + 12 + 12 + 12 + 12 + 12 + 12 ≤ 27200 by omega) (fun r h29 hp9 => ?_)
            obtain ⟨rfl, rfl⟩ := hp9
            refine j_iadd dL_accounts_147 ?_
            refine j_istore (L' := [(0, _), (1, _), (2, _), (3, _), (4, _), (5, _), (6, _), (7, _), (8, _), (9, _), (10, _)]) dL_accounts_148 (Nat.le_of_ble_eq_true rfl) rfl ?_
            refine j_iinc (L' := [(0, _), (1, _), (2, _), (3, _), (4, _), (5, _), (6, _), (7, _), (8, _), (9, _), (10, _)]) dL_accounts_150 rfl (Nat.le_of_ble_eq_true rfl) rfl ?_
            refine j_goto (tgt := 34) dL_accounts_153 (by decide) ?_
            refine ih34 (p + 1, s3 + (K 3 p), s4 + 0, s5 + 1, max s6 (fdep K p), s7 + (K 2 p), s8 + 0, s9 + (fdep K p), nc34 + 2 + 2 + 2 + 2 + 2 + 2, ns34 + 12 + 12 + 12 + 12 + 12 + 12) ?_ ?_
            · dsimp only
              exact ⟨by omega, csum_st i1.1 i3 (bi_l hO p), csum_st i1.1 i4 (bi_f (by omega)), csum_st i1.1 i5 (bi_t (by omega)), cmax_st i1.1 i6 rfl, csum_st i1.1 i7 rfl, csum_st i1.1 i8 (bi_f (by omega)), csum_st i1.1 i9 rfl, by omega, by omega⟩
            · dsimp only
              omega
          · refine j_iconst dL_accounts_130 ?_
            refine j_goto (tgt := 135) dL_accounts_131 (by decide) ?_
            refine j_iadd dL_accounts_135 ?_
            refine j_istore (L' := [(0, _), (1, _), (2, _), (3, _), (4, _), (5, _), (6, _), (7, _), (8, _), (9, _), (10, _)]) dL_accounts_136 (Nat.le_of_ble_eq_true rfl) rfl ?_
            refine j_iload dL_accounts_138 rfl ?_
            refine j_aload_n dL_accounts_140 rfl rfl ?_
            refine j_iload dL_accounts_141 rfl ?_
            refine j_iconst dL_accounts_143 ?_
            refine j_callSW (l_of1 (hC.up (k := 301) (x := (jA 0 ((K 6 0).toNat) H)) (by decide)) (p := p) (by omega)) dL_accounts_144 jc_L_151 jmS_L_of (fun q => by cases q) rfl rfl (by decide) (jfr_of rfl rfl) (Nat.le_of_ble_eq_true rfl) ⟨Nat.le_of_ble_eq_true rfl, Nat.le_of_ble_eq_true rfl⟩ (show nc34 + 2 + 2 + 2 + 2 + 2 + 2 ≤ 4500 ∧ ns34 + 12 + 12 + 12 + 12 + 12 + 12 ≤ 27200 by omega) (fun r h30 hp9 => ?_)
            obtain ⟨rfl, rfl⟩ := hp9
            refine j_iadd dL_accounts_147 ?_
            refine j_istore (L' := [(0, _), (1, _), (2, _), (3, _), (4, _), (5, _), (6, _), (7, _), (8, _), (9, _), (10, _)]) dL_accounts_148 (Nat.le_of_ble_eq_true rfl) rfl ?_
            refine j_iinc (L' := [(0, _), (1, _), (2, _), (3, _), (4, _), (5, _), (6, _), (7, _), (8, _), (9, _), (10, _)]) dL_accounts_150 rfl (Nat.le_of_ble_eq_true rfl) rfl ?_
            refine j_goto (tgt := 34) dL_accounts_153 (by decide) ?_
            refine ih34 (p + 1, s3 + (K 3 p), s4 + 0, s5 + 1, max s6 (fdep K p), s7 + (K 2 p), s8 + 1, s9 + (fdep K p), nc34 + 2 + 2 + 2 + 2 + 2 + 2, ns34 + 12 + 12 + 12 + 12 + 12 + 12) ?_ ?_
            · dsimp only
              exact ⟨by omega, csum_st i1.1 i3 (bi_l hO p), csum_st i1.1 i4 (bi_f (by omega)), csum_st i1.1 i5 (bi_t (by omega)), cmax_st i1.1 i6 rfl, csum_st i1.1 i7 rfl, csum_st i1.1 i8 (bi_t (by omega)), csum_st i1.1 i9 rfl, by omega, by omega⟩
            · dsimp only
              omega
      · refine j_iconst dL_accounts_63 ?_
        refine j_goto (tgt := 68) dL_accounts_64 (by decide) ?_
        refine j_iadd dL_accounts_68 ?_
        refine j_istore (L' := [(0, _), (1, _), (2, _), (3, _), (4, _), (5, _), (6, _), (7, _), (8, _), (9, _), (10, _)]) dL_accounts_69 (Nat.le_of_ble_eq_true rfl) rfl ?_
        refine j_iload dL_accounts_71 rfl ?_
        refine j_aload_n dL_accounts_73 rfl rfl ?_
        refine j_iload dL_accounts_74 rfl ?_
        refine j_iconst dL_accounts_76 ?_
        refine j_callSW (l_of4 (hC.up (k := 301) (x := (jA 0 ((K 6 0).toNat) H)) (by decide)) (p := p) (by omega)) dL_accounts_77 jc_L_151 jmS_L_of (fun q => by cases q) rfl rfl (by decide) (jfr_of rfl rfl) (Nat.le_of_ble_eq_true rfl) ⟨Nat.le_of_ble_eq_true rfl, Nat.le_of_ble_eq_true rfl⟩ (show nc34 + 2 + 2 + 2 ≤ 4500 ∧ ns34 + 12 + 12 + 12 ≤ 27200 by omega) (fun r h31 hp9 => ?_)
        obtain ⟨rfl, rfl⟩ := hp9
        refine j_iload dL_accounts_80 rfl ?_
        refine j_icmp_le (tgt := 89) dL_accounts_82 (by decide) (by omega) (fun c82 => ?_) (fun c82 => ?_)
        · refine j_iconst dL_accounts_89 ?_
          refine j_iadd dL_accounts_90 ?_
          refine j_istore (L' := [(0, _), (1, _), (2, _), (3, _), (4, _), (5, _), (6, _), (7, _), (8, _), (9, _), (10, _)]) dL_accounts_91 (Nat.le_of_ble_eq_true rfl) rfl ?_
          refine j_iload dL_accounts_93 rfl ?_
          refine j_aload_n dL_accounts_95 rfl rfl ?_
          refine j_iload dL_accounts_96 rfl ?_
          refine j_iconst dL_accounts_98 ?_
          refine j_callSW (l_of1 (hC.up (k := 301) (x := (jA 0 ((K 6 0).toNat) H)) (by decide)) (p := p) (by omega)) dL_accounts_99 jc_L_151 jmS_L_of (fun q => by cases q) rfl rfl (by decide) (jfr_of rfl rfl) (Nat.le_of_ble_eq_true rfl) ⟨Nat.le_of_ble_eq_true rfl, Nat.le_of_ble_eq_true rfl⟩ (show nc34 + 2 + 2 + 2 + 2 ≤ 4500 ∧ ns34 + 12 + 12 + 12 + 12 ≤ 27200 by omega) (fun r h32 hp9 => ?_)
          obtain ⟨rfl, rfl⟩ := hp9
          refine j_mmax wd9a_856 wd9a_306 wd9a_56 wd9a_307 (by omega) dL_accounts_102 (by decide) (show nc34 + 2 + 2 + 2 + 2 ≤ 4500 ∧ ns34 + 12 + 12 + 12 + 12 ≤ 27200 by omega) (Nat.le_of_ble_eq_true rfl) ?_
          refine j_istore (L' := [(0, _), (1, _), (2, _), (3, _), (4, _), (5, _), (6, _), (7, _), (8, _), (9, _), (10, _)]) dL_accounts_105 (Nat.le_of_ble_eq_true rfl) rfl ?_
          refine j_iload dL_accounts_107 rfl ?_
          refine j_aload_n dL_accounts_109 rfl rfl ?_
          refine j_iload dL_accounts_110 rfl ?_
          refine j_iconst dL_accounts_112 ?_
          refine j_callSW (l_of5 (hC.up (k := 301) (x := (jA 0 ((K 6 0).toNat) H)) (by decide)) (p := p) (by omega)) dL_accounts_113 jc_L_151 jmS_L_of (fun q => by cases q) rfl rfl (by decide) (jfr_of rfl rfl) (Nat.le_of_ble_eq_true rfl) ⟨Nat.le_of_ble_eq_true rfl, Nat.le_of_ble_eq_true rfl⟩ (show nc34 + 2 + 2 + 2 + 2 + 2 ≤ 4500 ∧ ns34 + 12 + 12 + 12 + 12 + 12 ≤ 27200 by omega) (fun r h33 hp9 => ?_)
          obtain ⟨rfl, rfl⟩ := hp9
          refine j_iadd dL_accounts_116 ?_
          refine j_istore (L' := [(0, _), (1, _), (2, _), (3, _), (4, _), (5, _), (6, _), (7, _), (8, _), (9, _), (10, _)]) dL_accounts_117 (Nat.le_of_ble_eq_true rfl) rfl ?_
          refine j_iload dL_accounts_119 rfl ?_
          refine j_aload_n dL_accounts_121 rfl rfl ?_
          refine j_iload dL_accounts_122 rfl ?_
          refine j_iaload (f := H) dL_accounts_124 jup_s (by omega) (by omega) ?_
          refine j_iload dL_accounts_125 rfl ?_
          refine j_icmp_ne (tgt := 134) dL_accounts_127 (by decide) (by omega) (fun c127 => ?_) (fun c127 => ?_)
          · refine j_iconst dL_accounts_134 ?_
            refine j_iadd dL_accounts_135 ?_
            refine j_istore (L' := [(0, _), (1, _), (2, _), (3, _), (4, _), (5, _), (6, _), (7, _), (8, _), (9, _), (10, _)]) dL_accounts_136 (Nat.le_of_ble_eq_true rfl) rfl ?_
            refine j_iload dL_accounts_138 rfl ?_
            refine j_aload_n dL_accounts_140 rfl rfl ?_
            refine j_iload dL_accounts_141 rfl ?_
            refine j_iconst dL_accounts_143 ?_
            refine j_callSW (l_of1 (hC.up (k := 301) (x := (jA 0 ((K 6 0).toNat) H)) (by decide)) (p := p) (by omega)) dL_accounts_144 jc_L_151 jmS_L_of (fun q => by cases q) rfl rfl (by decide) (jfr_of rfl rfl) (Nat.le_of_ble_eq_true rfl) ⟨Nat.le_of_ble_eq_true rfl, Nat.le_of_ble_eq_true rfl⟩ (show nc34 + 2 + 2 + 2 + 2 + 2 + 2 ≤ 4500 ∧ ns34 + 12 + 12 + 12 + 12 + 12 + 12 ≤ 27200 by omega) (fun r h34 hp9 => ?_)
            obtain ⟨rfl, rfl⟩ := hp9
            refine j_iadd dL_accounts_147 ?_
            refine j_istore (L' := [(0, _), (1, _), (2, _), (3, _), (4, _), (5, _), (6, _), (7, _), (8, _), (9, _), (10, _)]) dL_accounts_148 (Nat.le_of_ble_eq_true rfl) rfl ?_
            refine j_iinc (L' := [(0, _), (1, _), (2, _), (3, _), (4, _), (5, _), (6, _), (7, _), (8, _), (9, _), (10, _)]) dL_accounts_150 rfl (Nat.le_of_ble_eq_true rfl) rfl ?_
            refine j_goto (tgt := 34) dL_accounts_153 (by decide) ?_
            refine ih34 (p + 1, s3 + (K 3 p), s4 + 1, s5 + 0, max s6 (fdep K p), s7 + (K 2 p), s8 + 0, s9 + (fdep K p), nc34 + 2 + 2 + 2 + 2 + 2 + 2, ns34 + 12 + 12 + 12 + 12 + 12 + 12) ?_ ?_
            · dsimp only
              exact ⟨by omega, csum_st i1.1 i3 (bi_l hO p), csum_st i1.1 i4 (bi_t (by omega)), csum_st i1.1 i5 (bi_f (by omega)), cmax_st i1.1 i6 rfl, csum_st i1.1 i7 rfl, csum_st i1.1 i8 (bi_f (by omega)), csum_st i1.1 i9 rfl, by omega, by omega⟩
            · dsimp only
              omega
          · refine j_iconst dL_accounts_130 ?_
            refine j_goto (tgt := 135) dL_accounts_131 (by decide) ?_
            refine j_iadd dL_accounts_135 ?_
            refine j_istore (L' := [(0, _), (1, _), (2, _), (3, _), (4, _), (5, _), (6, _), (7, _), (8, _), (9, _), (10, _)]) dL_accounts_136 (Nat.le_of_ble_eq_true rfl) rfl ?_
            refine j_iload dL_accounts_138 rfl ?_
            refine j_aload_n dL_accounts_140 rfl rfl ?_
            refine j_iload dL_accounts_141 rfl ?_
            refine j_iconst dL_accounts_143 ?_
            refine j_callSW (l_of1 (hC.up (k := 301) (x := (jA 0 ((K 6 0).toNat) H)) (by decide)) (p := p) (by omega)) dL_accounts_144 jc_L_151 jmS_L_of (fun q => by cases q) rfl rfl (by decide) (jfr_of rfl rfl) (Nat.le_of_ble_eq_true rfl) ⟨Nat.le_of_ble_eq_true rfl, Nat.le_of_ble_eq_true rfl⟩ (show nc34 + 2 + 2 + 2 + 2 + 2 + 2 ≤ 4500 ∧ ns34 + 12 + 12 + 12 + 12 + 12 + 12 ≤ 27200 by omega) (fun r h35 hp9 => ?_)
            obtain ⟨rfl, rfl⟩ := hp9
            refine j_iadd dL_accounts_147 ?_
            refine j_istore (L' := [(0, _), (1, _), (2, _), (3, _), (4, _), (5, _), (6, _), (7, _), (8, _), (9, _), (10, _)]) dL_accounts_148 (Nat.le_of_ble_eq_true rfl) rfl ?_
            refine j_iinc (L' := [(0, _), (1, _), (2, _), (3, _), (4, _), (5, _), (6, _), (7, _), (8, _), (9, _), (10, _)]) dL_accounts_150 rfl (Nat.le_of_ble_eq_true rfl) rfl ?_
            refine j_goto (tgt := 34) dL_accounts_153 (by decide) ?_
            refine ih34 (p + 1, s3 + (K 3 p), s4 + 1, s5 + 0, max s6 (fdep K p), s7 + (K 2 p), s8 + 1, s9 + (fdep K p), nc34 + 2 + 2 + 2 + 2 + 2 + 2, ns34 + 12 + 12 + 12 + 12 + 12 + 12) ?_ ?_
            · dsimp only
              exact ⟨by omega, csum_st i1.1 i3 (bi_l hO p), csum_st i1.1 i4 (bi_t (by omega)), csum_st i1.1 i5 (bi_f (by omega)), cmax_st i1.1 i6 rfl, csum_st i1.1 i7 rfl, csum_st i1.1 i8 (bi_t (by omega)), csum_st i1.1 i9 rfl, by omega, by omega⟩
            · dsimp only
              omega
        · refine j_iconst dL_accounts_85 ?_
          refine j_goto (tgt := 90) dL_accounts_86 (by decide) ?_
          refine j_iadd dL_accounts_90 ?_
          refine j_istore (L' := [(0, _), (1, _), (2, _), (3, _), (4, _), (5, _), (6, _), (7, _), (8, _), (9, _), (10, _)]) dL_accounts_91 (Nat.le_of_ble_eq_true rfl) rfl ?_
          refine j_iload dL_accounts_93 rfl ?_
          refine j_aload_n dL_accounts_95 rfl rfl ?_
          refine j_iload dL_accounts_96 rfl ?_
          refine j_iconst dL_accounts_98 ?_
          refine j_callSW (l_of1 (hC.up (k := 301) (x := (jA 0 ((K 6 0).toNat) H)) (by decide)) (p := p) (by omega)) dL_accounts_99 jc_L_151 jmS_L_of (fun q => by cases q) rfl rfl (by decide) (jfr_of rfl rfl) (Nat.le_of_ble_eq_true rfl) ⟨Nat.le_of_ble_eq_true rfl, Nat.le_of_ble_eq_true rfl⟩ (show nc34 + 2 + 2 + 2 + 2 ≤ 4500 ∧ ns34 + 12 + 12 + 12 + 12 ≤ 27200 by omega) (fun r h36 hp9 => ?_)
          obtain ⟨rfl, rfl⟩ := hp9
          refine j_mmax wd9a_856 wd9a_306 wd9a_56 wd9a_307 (by omega) dL_accounts_102 (by decide) (show nc34 + 2 + 2 + 2 + 2 ≤ 4500 ∧ ns34 + 12 + 12 + 12 + 12 ≤ 27200 by omega) (Nat.le_of_ble_eq_true rfl) ?_
          refine j_istore (L' := [(0, _), (1, _), (2, _), (3, _), (4, _), (5, _), (6, _), (7, _), (8, _), (9, _), (10, _)]) dL_accounts_105 (Nat.le_of_ble_eq_true rfl) rfl ?_
          refine j_iload dL_accounts_107 rfl ?_
          refine j_aload_n dL_accounts_109 rfl rfl ?_
          refine j_iload dL_accounts_110 rfl ?_
          refine j_iconst dL_accounts_112 ?_
          refine j_callSW (l_of5 (hC.up (k := 301) (x := (jA 0 ((K 6 0).toNat) H)) (by decide)) (p := p) (by omega)) dL_accounts_113 jc_L_151 jmS_L_of (fun q => by cases q) rfl rfl (by decide) (jfr_of rfl rfl) (Nat.le_of_ble_eq_true rfl) ⟨Nat.le_of_ble_eq_true rfl, Nat.le_of_ble_eq_true rfl⟩ (show nc34 + 2 + 2 + 2 + 2 + 2 ≤ 4500 ∧ ns34 + 12 + 12 + 12 + 12 + 12 ≤ 27200 by omega) (fun r h37 hp9 => ?_)
          obtain ⟨rfl, rfl⟩ := hp9
          refine j_iadd dL_accounts_116 ?_
          refine j_istore (L' := [(0, _), (1, _), (2, _), (3, _), (4, _), (5, _), (6, _), (7, _), (8, _), (9, _), (10, _)]) dL_accounts_117 (Nat.le_of_ble_eq_true rfl) rfl ?_
          refine j_iload dL_accounts_119 rfl ?_
          refine j_aload_n dL_accounts_121 rfl rfl ?_
          refine j_iload dL_accounts_122 rfl ?_
          refine j_iaload (f := H) dL_accounts_124 jup_s (by omega) (by omega) ?_
          refine j_iload dL_accounts_125 rfl ?_
          refine j_icmp_ne (tgt := 134) dL_accounts_127 (by decide) (by omega) (fun c127 => ?_) (fun c127 => ?_)
          · refine j_iconst dL_accounts_134 ?_
            refine j_iadd dL_accounts_135 ?_
            refine j_istore (L' := [(0, _), (1, _), (2, _), (3, _), (4, _), (5, _), (6, _), (7, _), (8, _), (9, _), (10, _)]) dL_accounts_136 (Nat.le_of_ble_eq_true rfl) rfl ?_
            refine j_iload dL_accounts_138 rfl ?_
            refine j_aload_n dL_accounts_140 rfl rfl ?_
            refine j_iload dL_accounts_141 rfl ?_
            refine j_iconst dL_accounts_143 ?_
            refine j_callSW (l_of1 (hC.up (k := 301) (x := (jA 0 ((K 6 0).toNat) H)) (by decide)) (p := p) (by omega)) dL_accounts_144 jc_L_151 jmS_L_of (fun q => by cases q) rfl rfl (by decide) (jfr_of rfl rfl) (Nat.le_of_ble_eq_true rfl) ⟨Nat.le_of_ble_eq_true rfl, Nat.le_of_ble_eq_true rfl⟩ (show nc34 + 2 + 2 + 2 + 2 + 2 + 2 ≤ 4500 ∧ ns34 + 12 + 12 + 12 + 12 + 12 + 12 ≤ 27200 by omega) (fun r h38 hp9 => ?_)
            obtain ⟨rfl, rfl⟩ := hp9
            refine j_iadd dL_accounts_147 ?_
            refine j_istore (L' := [(0, _), (1, _), (2, _), (3, _), (4, _), (5, _), (6, _), (7, _), (8, _), (9, _), (10, _)]) dL_accounts_148 (Nat.le_of_ble_eq_true rfl) rfl ?_
            refine j_iinc (L' := [(0, _), (1, _), (2, _), (3, _), (4, _), (5, _), (6, _), (7, _), (8, _), (9, _), (10, _)]) dL_accounts_150 rfl (Nat.le_of_ble_eq_true rfl) rfl ?_
            refine j_goto (tgt := 34) dL_accounts_153 (by decide) ?_
            refine ih34 (p + 1, s3 + (K 3 p), s4 + 1, s5 + 1, max s6 (fdep K p), s7 + (K 2 p), s8 + 0, s9 + (fdep K p), nc34 + 2 + 2 + 2 + 2 + 2 + 2, ns34 + 12 + 12 + 12 + 12 + 12 + 12) ?_ ?_
            · dsimp only
              exact ⟨by omega, csum_st i1.1 i3 (bi_l hO p), csum_st i1.1 i4 (bi_t (by omega)), csum_st i1.1 i5 (bi_t (by omega)), cmax_st i1.1 i6 rfl, csum_st i1.1 i7 rfl, csum_st i1.1 i8 (bi_f (by omega)), csum_st i1.1 i9 rfl, by omega, by omega⟩
            · dsimp only
              omega
          · refine j_iconst dL_accounts_130 ?_
            refine j_goto (tgt := 135) dL_accounts_131 (by decide) ?_
            refine j_iadd dL_accounts_135 ?_
            refine j_istore (L' := [(0, _), (1, _), (2, _), (3, _), (4, _), (5, _), (6, _), (7, _), (8, _), (9, _), (10, _)]) dL_accounts_136 (Nat.le_of_ble_eq_true rfl) rfl ?_
            refine j_iload dL_accounts_138 rfl ?_
            refine j_aload_n dL_accounts_140 rfl rfl ?_
            refine j_iload dL_accounts_141 rfl ?_
            refine j_iconst dL_accounts_143 ?_
            refine j_callSW (l_of1 (hC.up (k := 301) (x := (jA 0 ((K 6 0).toNat) H)) (by decide)) (p := p) (by omega)) dL_accounts_144 jc_L_151 jmS_L_of (fun q => by cases q) rfl rfl (by decide) (jfr_of rfl rfl) (Nat.le_of_ble_eq_true rfl) ⟨Nat.le_of_ble_eq_true rfl, Nat.le_of_ble_eq_true rfl⟩ (show nc34 + 2 + 2 + 2 + 2 + 2 + 2 ≤ 4500 ∧ ns34 + 12 + 12 + 12 + 12 + 12 + 12 ≤ 27200 by omega) (fun r h39 hp9 => ?_)
            obtain ⟨rfl, rfl⟩ := hp9
            refine j_iadd dL_accounts_147 ?_
            refine j_istore (L' := [(0, _), (1, _), (2, _), (3, _), (4, _), (5, _), (6, _), (7, _), (8, _), (9, _), (10, _)]) dL_accounts_148 (Nat.le_of_ble_eq_true rfl) rfl ?_
            refine j_iinc (L' := [(0, _), (1, _), (2, _), (3, _), (4, _), (5, _), (6, _), (7, _), (8, _), (9, _), (10, _)]) dL_accounts_150 rfl (Nat.le_of_ble_eq_true rfl) rfl ?_
            refine j_goto (tgt := 34) dL_accounts_153 (by decide) ?_
            refine ih34 (p + 1, s3 + (K 3 p), s4 + 1, s5 + 1, max s6 (fdep K p), s7 + (K 2 p), s8 + 1, s9 + (fdep K p), nc34 + 2 + 2 + 2 + 2 + 2 + 2, ns34 + 12 + 12 + 12 + 12 + 12 + 12) ?_ ?_
            · dsimp only
              exact ⟨by omega, csum_st i1.1 i3 (bi_l hO p), csum_st i1.1 i4 (bi_t (by omega)), csum_st i1.1 i5 (bi_t (by omega)), cmax_st i1.1 i6 rfl, csum_st i1.1 i7 rfl, csum_st i1.1 i8 (bi_t (by omega)), csum_st i1.1 i9 rfl, by omega, by omega⟩
            · dsimp only
              omega
  · dsimp only
    exact ⟨by omega, rfl, rfl, rfl, rfl, rfl, rfl, rfl, by omega, by omega⟩
