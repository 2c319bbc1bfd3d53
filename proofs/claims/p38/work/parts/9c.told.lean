theorem wd9c_53 : (Jvm.Cond.initialized "java/lang/StringBuilder") ∈ jWL := jw_mem 53 (by decide +kernel) (by decide +kernel)
theorem wd9c_193 : (Jvm.Cond.instantiable "java/lang/StringBuilder" (4 : Nat)) ∈ jWL := jw_mem 193 (by decide +kernel) (by decide +kernel)
theorem wd9c_898 : (Jvm.Cond.classLink "FamilyOaksLaw" (211 : Nat) "java/lang/StringBuilder") ∈ jWL := jw_mem 898 (by decide +kernel) (by decide +kernel)
/-! THE LAW'S TELLING -/
theorem ln_0 {B : Int} {K : fS} (hO : jOk B K) {p : Int} (hp : 0 ≤ p ∧ p < K 6 0) : ([35] ++ dgs 7 p : List Int).length ≤ 3 := by
  have hn := hO.n
  have h0 := hO.p p
  have h1 := hO.s p
  have d1 := dgs_len2 (v := p) (by omega)
  have d4 := dgs_len8 (v := K 2 p)
  simp only [List.length_append, List.length_singleton]
  omega
theorem ln_1 {B : Int} {K : fS} (hO : jOk B K) {p : Int} (hp : 0 ≤ p ∧ p < K 6 0) : ([35] ++ dgs 7 p ++ (if K 0 p = -1 then [] else [60] ++ dgs 7 (K 0 p)) : List Int).length ≤ 6 := by
  have hn := hO.n
  have h0 := hO.p p
  have h1 := hO.s p
  have d1 := dgs_len2 (v := p) (by omega)
  have d4 := dgs_len8 (v := K 2 p)
  have a0 : (if K 0 p = -1 then ([] : List Int) else [60] ++ dgs 7 (K 0 p)).length ≤ 3 := by
    by_cases e : K 0 p = -1
    · rw [if_pos e]; decide
    · rw [if_neg e]; have := dgs_len2 (v := K 0 p) (by omega); simp only [List.length_append, List.length_singleton]; omega
  simp only [List.length_append, List.length_singleton]
  omega
theorem ln_2 {B : Int} {K : fS} (hO : jOk B K) {p : Int} (hp : 0 ≤ p ∧ p < K 6 0) : ([35] ++ dgs 7 p ++ (if K 0 p = -1 then [] else [60] ++ dgs 7 (K 0 p)) ++ (if K 1 p = -1 then [] else [43] ++ dgs 7 (K 1 p)) : List Int).length ≤ 9 := by
  have hn := hO.n
  have h0 := hO.p p
  have h1 := hO.s p
  have d1 := dgs_len2 (v := p) (by omega)
  have d4 := dgs_len8 (v := K 2 p)
  have a0 : (if K 0 p = -1 then ([] : List Int) else [60] ++ dgs 7 (K 0 p)).length ≤ 3 := by
    by_cases e : K 0 p = -1
    · rw [if_pos e]; decide
    · rw [if_neg e]; have := dgs_len2 (v := K 0 p) (by omega); simp only [List.length_append, List.length_singleton]; omega
  have a1 : (if K 1 p = -1 then ([] : List Int) else [43] ++ dgs 7 (K 1 p)).length ≤ 3 := by
    by_cases e : K 1 p = -1
    · rw [if_pos e]; decide
    · rw [if_neg e]; have := dgs_len2 (v := K 1 p) (by omega); simp only [List.length_append, List.length_singleton]; omega
  simp only [List.length_append, List.length_singleton]
  omega
theorem ln_3 {B : Int} {K : fS} (hO : jOk B K) {p : Int} (hp : 0 ≤ p ∧ p < K 6 0) : ([35] ++ dgs 7 p ++ (if K 0 p = -1 then [] else [60] ++ dgs 7 (K 0 p)) ++ (if K 1 p = -1 then [] else [43] ++ dgs 7 (K 1 p)) ++ (if K 2 p = 0 then [] else [61] ++ dgs 7 (K 2 p)) : List Int).length ≤ 18 := by
  have hn := hO.n
  have h0 := hO.p p
  have h1 := hO.s p
  have d1 := dgs_len2 (v := p) (by omega)
  have d4 := dgs_len8 (v := K 2 p)
  have a0 : (if K 0 p = -1 then ([] : List Int) else [60] ++ dgs 7 (K 0 p)).length ≤ 3 := by
    by_cases e : K 0 p = -1
    · rw [if_pos e]; decide
    · rw [if_neg e]; have := dgs_len2 (v := K 0 p) (by omega); simp only [List.length_append, List.length_singleton]; omega
  have a1 : (if K 1 p = -1 then ([] : List Int) else [43] ++ dgs 7 (K 1 p)).length ≤ 3 := by
    by_cases e : K 1 p = -1
    · rw [if_pos e]; decide
    · rw [if_neg e]; have := dgs_len2 (v := K 1 p) (by omega); simp only [List.length_append, List.length_singleton]; omega
  have a2 : (if K 2 p = 0 then ([] : List Int) else [61] ++ dgs 7 (K 2 p)).length ≤ 9 := by
    by_cases e : K 2 p = 0
    · rw [if_pos e]; decide
    · rw [if_neg e]; simp only [List.length_append, List.length_singleton]; omega
  simp only [List.length_append, List.length_singleton]
  omega
theorem ln_4 {B : Int} {K : fS} (hO : jOk B K) {p : Int} (hp : 0 ≤ p ∧ p < K 6 0) : ([35] ++ dgs 7 p ++ (if K 0 p = -1 then [] else [60] ++ dgs 7 (K 0 p)) ++ (if K 1 p = -1 then [] else [43] ++ dgs 7 (K 1 p)) ++ (if K 2 p = 0 then [] else [61] ++ dgs 7 (K 2 p)) ++ (if K 3 p = 0 then [120] else []) : List Int).length ≤ 19 := by
  have hn := hO.n
  have h0 := hO.p p
  have h1 := hO.s p
  have d1 := dgs_len2 (v := p) (by omega)
  have d4 := dgs_len8 (v := K 2 p)
  have a0 : (if K 0 p = -1 then ([] : List Int) else [60] ++ dgs 7 (K 0 p)).length ≤ 3 := by
    by_cases e : K 0 p = -1
    · rw [if_pos e]; decide
    · rw [if_neg e]; have := dgs_len2 (v := K 0 p) (by omega); simp only [List.length_append, List.length_singleton]; omega
  have a1 : (if K 1 p = -1 then ([] : List Int) else [43] ++ dgs 7 (K 1 p)).length ≤ 3 := by
    by_cases e : K 1 p = -1
    · rw [if_pos e]; decide
    · rw [if_neg e]; have := dgs_len2 (v := K 1 p) (by omega); simp only [List.length_append, List.length_singleton]; omega
  have a2 : (if K 2 p = 0 then ([] : List Int) else [61] ++ dgs 7 (K 2 p)).length ≤ 9 := by
    by_cases e : K 2 p = 0
    · rw [if_pos e]; decide
    · rw [if_neg e]; simp only [List.length_append, List.length_singleton]; omega
  have a3 : (if K 3 p = 0 then [120] else ([] : List Int)).length ≤ 1 := by split <;> decide
  simp only [List.length_append, List.length_singleton]
  omega
theorem t_cr {r : Nat} {l : List Int} {h : jH} (w : jSt r l h) {i : Int} (hi : 0 ≤ i ∧ i < (l.length : Int)) : -2147483648 ≤ (l[i.toNat]?).getD 0 ∧ (l[i.toNat]?).getD 0 ≤ 2147483647 ∧ -2147483648 ≤ (l[i.toNat]?).getD 0 ∧ (l[i.toNat]?).getD 0 ≤ 2147483647 := by
  obtain ⟨f, _, _, a, b⟩ := w
  have e := a i.toNat (by omega)
  have e2 : (l[i.toNat]?).getD 0 = l.getD i.toNat 0 := rfl
  rw [e2, ← e]
  have := b (i.toNat : Int)
  omega
set_option maxHeartbeats 16000000 in
theorem m_told {Ln : Nat} {xs : Nat → Int32} {B : Int} {K : fS} {P : Int → fS} {n : Int} {h : jH} (hC : lC B K P n h) (hN : ∀ j, 120 ≤ j → h j = none) : jMF mL_told Ln xs 11 2450 83300 nwT [.ref 0] h (fun r h' => r = some (iv 1) ∧ lC B K P n h' ∧ ∀ j, 120 ≤ j → (j < 440 ∨ 488 ≤ j) → h' j = none) jno := by
  have hn := hC.n
  have hO := hC.O
  refine j_methodF (by decide +kernel) rfl (Nat.le_of_ble_eq_true rfl) ?_
  generalize hZ : jZ nwT 2450 83300 _ _ = Z
  show J (pMe mL_told Ln xs) (jR 11 2450 83300) nwT Z 0 [(0, .ref 0)] [] h 0 0
  refine j_iconst dL_told_0 ?_
  refine j_istore_n (L' := [(0, _), (1, _)]) dL_told_1 rfl (Nat.le_of_ble_eq_true rfl) rfl ?_
  refine jloop (P := fun z9 : Int × jH × Nat × Nat => J (pMe mL_told Ln xs) (jR 11 2450 83300) nwT Z 2 [(0, .ref 0), (1, iv z9.1)] [] z9.2.1 z9.2.2.1 z9.2.2.2) (fun z9 => (0 ≤ z9.1 ∧ z9.1 ≤ K 6 0) ∧ lC B K P n z9.2.1 ∧ (∀ j, 120 ≤ j → (j < 440 ∨ 440 + 2 * z9.1.toNat ≤ j) → z9.2.1 j = none) ∧ (z9.2.2.1 : Int) + 100 * (24 - z9.1) ≤ 2400 ∧ z9.2.2.2 ≤ 34 * z9.2.2.1) (fun z9 => (24 - z9.1).toNat) ?_ (0, h, 0, 0) ?_
  · rintro ⟨p, hb, nc2, ns2⟩ hinv2 ih2
    dsimp only at hinv2 ih2 ⊢
    obtain ⟨i1, hbC, hb2, b1, b2⟩ := hinv2
    obtain ⟨fsb, hOb⟩ := hbC.o
    refine J.cl fun hclb => ?_
    refine j_iload_n dL_told_2 rfl rfl ?_
    refine j_aload_n dL_told_3 rfl rfl ?_
    refine j_iconst dL_told_4 ?_
    refine j_callV ((l_account hbC (w := 0) (by decide)).is acc_0) dL_told_5 jc_L_128 jmV_X4_account rfl rfl hOb rfl rfl (by simp) jfr_nil (Nat.le_of_ble_eq_true rfl) ⟨Nat.le_of_ble_eq_true rfl, Nat.le_of_ble_eq_true rfl⟩ (show nc2 + 1 ≤ 2450 ∧ ns2 + 6 ≤ 83300 by omega) (fun r h1 hp9 => ?_) (fun E h9 q => q.elim)
    obtain ⟨rfl, rfl⟩ := hp9
    refine j_icmp_ge (tgt := 261) dL_told_8 (by decide) (by omega) (fun c8 => ?_) (fun c8 => ?_)
    · refine j_aload_n dL_told_261 rfl rfl ?_
      refine j_aload_n dL_told_262 rfl rfl ?_
      refine j_iconst dL_told_263 ?_
      refine j_callV ((l_account hbC (w := 0) (by decide)).is acc_0) dL_told_264 jc_L_128 jmV_X4_account rfl rfl hOb rfl rfl (by simp) jfr_nil (Nat.le_of_ble_eq_true rfl) ⟨Nat.le_of_ble_eq_true rfl, Nat.le_of_ble_eq_true rfl⟩ (show nc2 + 1 + 1 ≤ 2450 ∧ ns2 + 6 + 6 ≤ 83300 by omega) (fun r h2 hp9 => ?_) (fun E h9 q => q.elim)
      obtain ⟨rfl, rfl⟩ := hp9
      refine j_callSW (l_lineO hbC (p := K 6 0) rfl) dL_told_267 jc_L_236 jmS_L_line (fun q => by cases q) rfl rfl (by decide) (jfr_of rfl rfl) (Nat.le_of_ble_eq_true rfl) ⟨Nat.le_of_ble_eq_true rfl, Nat.le_of_ble_eq_true rfl⟩ (show nc2 + 1 + 1 + 11 ≤ 2450 ∧ ns2 + 6 + 6 + 346 ≤ 83300 by omega) (fun r h3 hp9 => ?_)
      obtain ⟨rfl, rfl⟩ := hp9
      refine j_bipush dL_told_270 (by decide +kernel) ?_
      refine j_icmp_ne (tgt := 279) dL_told_272 (by decide) (by omega) (fun c272 => (False.elim (by omega))) (fun c272 => ?_)
      refine j_iconst dL_told_275 ?_
      refine j_goto (tgt := 280) dL_told_276 (by decide) ?_
      subst hZ
      exact j_ireturn dL_told_280 rfl rfl ⟨rfl, hbC, fun j j0 j1 => hb2 j j0 (by omega)⟩ (show nc2 + 1 + 1 + 11 ≤ 2450 by omega) (show ns2 + 6 + 6 + 346 ≤ 83300 by omega)
    · have hp : 0 ≤ p ∧ p < K 6 0 := by omega
      have hpp := hO.p p
      have hps := hO.s p
      have hpc := hO.c p
      have hcb := hO.b
      have hpl := hO.l p
      have hkl := kLine_len hO hp
      refine j_new (k := 420) (ci := 6) (fs := [.null, iv 0, iv 0, iv 0]) tyJ4 dL_told_11 wd9c_898 wd9c_193 wd9c_53 rfl tyJ4_ok (fun j hj => match j, hj with | 0, _ => rfl | 1, _ => rfl | 2, _ => rfl | 3, _ => rfl | n9 + 4, hj => absurd hj (by omega)) (jz0_of rfl) (hb2 420 (by decide) (.inl (by decide))) (by decide) (jfr_of rfl rfl) (show nc2 + 1 + 1 ≤ 2450 ∧ ns2 + 6 + 4 ≤ 83300 by omega) ?_
      refine j_dup dL_told_14 rfl ?_
      refine j_callI (ct_init0 (k := 420) jup_s (jup_n (by decide) (hb2 421 (by decide) (.inl (by decide)))) (jup_n (by decide) (hb2 422 (by decide) (.inl (by decide))))) dL_told_15 jc_L_213 jmI_J4_init_da8c8 rfl rfl rfl rfl rfl (by decide) (jfr_of rfl rfl) (Nat.le_of_ble_eq_true rfl) ⟨Nat.le_of_ble_eq_true rfl, Nat.le_of_ble_eq_true rfl⟩ (show nc2 + 1 + 1 + 1 ≤ 2450 ∧ ns2 + 6 + 4 + 16 ≤ 83300 by omega) (fun r h4 hp9 => ?_)
      obtain ⟨rfl, hBh4, hxh4⟩ := hp9
      refine j_ldcT (i := 0) (by decide) (pNw.of rfl) rfl dL_told_18 ?_
      obtain ⟨fsh5, hoh5⟩ := hBh4.o
      refine j_callVF (ct_append (r := 400) hBh4 (.inl ⟨0, by decide, rfl, rfl⟩) (by decide) (by decide) (by decide)) dL_told_20 jc_L_216 jmV_J4_append_15ec4 rfl (pNw.of rfl) rfl (pRc.ob (ci := 6) hoh5 rfl) rfl (by decide) (jfr_of rfl rfl) (Nat.le_of_ble_eq_true rfl) ⟨Nat.le_of_ble_eq_true rfl, Nat.le_of_ble_eq_true rfl⟩ (show nc2 + 1 + 1 + 1 + 1 ≤ 2450 ∧ ns2 + 6 + 4 + 16 + 34 ≤ 83300 by omega) (fun r h5 hp9 => ?_) (fun E h9 q => q.elim)
      obtain ⟨rfl, hBh5, hxh5⟩ := hp9
      refine j_iload_n dL_told_23 rfl rfl ?_
      obtain ⟨fsh6, hoh6⟩ := hBh5.o
      refine j_callV (ct_appendI (v := p) hBh5 (by omega) (by have := dl_24 (v := p) (by omega); show (1 : Int) + dl p ≤ 34; omega)) dL_told_24 jc_L_219 jmV_J4_append_bf812 rfl rfl hoh6 rfl rfl (by decide) (jfr_of rfl rfl) (Nat.le_of_ble_eq_true rfl) ⟨Nat.le_of_ble_eq_true rfl, Nat.le_of_ble_eq_true rfl⟩ (show nc2 + 1 + 1 + 1 + 1 + 1 ≤ 2450 ∧ ns2 + 6 + 4 + 16 + 34 + 34 ≤ 83300 by omega) (fun r h6 hp9 => ?_) (fun E h9 q => q.elim)
      obtain ⟨rfl, hBh6, hxh6⟩ := hp9
      have hT0 : tM hb 423 ([35] ++ dgs 7 p) h6 := ⟨fun j hj => (hxh6 j (by omega)).trans ((hxh5 j (by omega)).trans ((hxh4 j (by omega)).trans (jup_n (by omega) rfl))), hBh6, fun j j0 j1 => (hxh6 j (by omega)).trans ((hxh5 j (by omega)).trans ((hxh4 j (by omega)).trans ((jup_n (by omega) rfl).trans (hb2 j (by omega) (by omega)))))⟩
      have hl0 : ([35] ++ dgs 7 p : List Int).length ≤ 3 := by have := dgs_len2 (v := p) (by omega); simp only [List.length_append, List.length_singleton]; omega
      refine j_aload_n dL_told_27 rfl rfl ?_
      refine j_iload_n dL_told_28 rfl rfl ?_
      refine j_iconst dL_told_29 ?_
      refine j_callSW (l_of0 (hT0.w hbC) (p := p) (by omega)) dL_told_30 jc_L_151 jmS_L_of (fun q => by cases q) rfl rfl (by decide) (jfr_of rfl rfl) (Nat.le_of_ble_eq_true rfl) ⟨Nat.le_of_ble_eq_true rfl, Nat.le_of_ble_eq_true rfl⟩ (show nc2 + 1 + 1 + 1 + 1 + 1 + 2 ≤ 2450 ∧ ns2 + 6 + 4 + 16 + 34 + 34 + 12 ≤ 83300 by omega) (fun r h7 hp9 => ?_)
      obtain ⟨rfl, rfl⟩ := hp9
      have hj68 : ∀ (hh1 : jH) (l1 : List Int) (nj68 : Nat) (nk68 : Nat), (tM hb 428 l1 hh1) → (l1 = [35] ++ dgs 7 p ++ (if K 0 p = -1 then [] else [60] ++ dgs 7 (K 0 p))) → (nj68 ≤ nc2 + 16) → (nk68 ≤ 34 * nj68) → J (pMe mL_told Ln xs) (jR 11 2450 83300) nwT Z 68 [(0, .ref 0), (1, iv p)] [.ref 420] hh1 nj68 nk68 := by
        intro hh1 l1 nj68 nk68 ht1 he1 bn1 bm1
        have hl1 : l1.length ≤ 6 := by rw [he1]; exact ln_1 hO hp
        refine j_aload_n dL_told_68 rfl rfl ?_
        refine j_iload_n dL_told_69 rfl rfl ?_
        refine j_iconst dL_told_70 ?_
        refine j_callSW (l_of4 (ht1.w hbC) (p := p) (by omega)) dL_told_71 jc_L_151 jmS_L_of (fun q => by cases q) rfl rfl (by decide) (jfr_of rfl rfl) (Nat.le_of_ble_eq_true rfl) ⟨Nat.le_of_ble_eq_true rfl, Nat.le_of_ble_eq_true rfl⟩ (show nj68 + 2 ≤ 2450 ∧ nk68 + 12 ≤ 83300 by omega) (fun r h8 hp9 => ?_)
        obtain ⟨rfl, rfl⟩ := hp9
        have hj109 : ∀ (hh2 : jH) (l2 : List Int) (nj109 : Nat) (nk109 : Nat), (tM hb 433 l2 hh2) → (l2 = [35] ++ dgs 7 p ++ (if K 0 p = -1 then [] else [60] ++ dgs 7 (K 0 p)) ++ (if K 1 p = -1 then [] else [43] ++ dgs 7 (K 1 p))) → (nj109 ≤ nc2 + 30) → (nk109 ≤ 34 * nj109) → J (pMe mL_told Ln xs) (jR 11 2450 83300) nwT Z 109 [(0, .ref 0), (1, iv p)] [.ref 420] hh2 nj109 nk109 := by
          intro hh2 l2 nj109 nk109 ht2 he2 bn2 bm2
          have hl2 : l2.length ≤ 9 := by rw [he2]; exact ln_2 hO hp
          refine j_aload_n dL_told_109 rfl rfl ?_
          refine j_iload_n dL_told_110 rfl rfl ?_
          refine j_iconst dL_told_111 ?_
          refine j_callSW (l_of5 (ht2.w hbC) (p := p) (by omega)) dL_told_112 jc_L_151 jmS_L_of (fun q => by cases q) rfl rfl (by decide) (jfr_of rfl rfl) (Nat.le_of_ble_eq_true rfl) ⟨Nat.le_of_ble_eq_true rfl, Nat.le_of_ble_eq_true rfl⟩ (show nj109 + 2 ≤ 2450 ∧ nk109 + 12 ≤ 83300 by omega) (fun r h9 hp9 => ?_)
          obtain ⟨rfl, rfl⟩ := hp9
          have hj150 : ∀ (hh3 : jH) (l3 : List Int) (nj150 : Nat) (nk150 : Nat), (tM hb 438 l3 hh3) → (l3 = [35] ++ dgs 7 p ++ (if K 0 p = -1 then [] else [60] ++ dgs 7 (K 0 p)) ++ (if K 1 p = -1 then [] else [43] ++ dgs 7 (K 1 p)) ++ (if K 2 p = 0 then [] else [61] ++ dgs 7 (K 2 p))) → (nj150 ≤ nc2 + 44) → (nk150 ≤ 34 * nj150) → J (pMe mL_told Ln xs) (jR 11 2450 83300) nwT Z 150 [(0, .ref 0), (1, iv p)] [.ref 420] hh3 nj150 nk150 := by
            intro hh3 l3 nj150 nk150 ht3 he3 bn3 bm3
            have hl3 : l3.length ≤ 18 := by rw [he3]; exact ln_3 hO hp
            refine j_aload_n dL_told_150 rfl rfl ?_
            refine j_iload_n dL_told_151 rfl rfl ?_
            refine j_bipush dL_told_152 (by decide +kernel) ?_
            refine j_callSW (l_of6 (ht3.w hbC) (p := p) (by omega)) dL_told_154 jc_L_151 jmS_L_of (fun q => by cases q) rfl rfl (by decide) (jfr_of rfl rfl) (Nat.le_of_ble_eq_true rfl) ⟨Nat.le_of_ble_eq_true rfl, Nat.le_of_ble_eq_true rfl⟩ (show nj150 + 2 ≤ 2450 ∧ nk150 + 12 ≤ 83300 by omega) (fun r h10 hp9 => ?_)
            obtain ⟨rfl, rfl⟩ := hp9
            refine j_iconst dL_told_157 ?_
            have hj171 : ∀ (hh4 : jH) (l4 : List Int) (nj171 : Nat) (nk171 : Nat), (tM hb 438 l4 hh4) → (l4 = [35] ++ dgs 7 p ++ (if K 0 p = -1 then [] else [60] ++ dgs 7 (K 0 p)) ++ (if K 1 p = -1 then [] else [43] ++ dgs 7 (K 1 p)) ++ (if K 2 p = 0 then [] else [61] ++ dgs 7 (K 2 p)) ++ (if K 3 p = 0 then [120] else [])) → (nj171 ≤ nc2 + 50) → (nk171 ≤ 34 * nj171) → J (pMe mL_told Ln xs) (jR 11 2450 83300) nwT Z 171 [(0, .ref 0), (1, iv p)] [.ref 420] hh4 nj171 nk171 := by
              intro hh4 l4 nj171 nk171 ht4 he4 bn4 bm4
              have hl4 : l4.length ≤ 19 := by rw [he4]; exact ln_4 hO hp
              obtain ⟨r, hr, hr4⟩ : ∃ r : Nat, r = 440 + 2 * p.toNat ∧ (440 ≤ r ∧ r ≤ 488) := ⟨_, rfl, by omega⟩
              obtain ⟨fsh11, hoh11⟩ := ht4.2.1.o
              refine j_callVF (ct_toString (r := r) ht4.2.1 ((ht4.1 r (by omega)).trans (hb2 r (by omega) (by omega))) ((ht4.1 (r + 1) (by omega)).trans (hb2 (r + 1) (by omega) (by omega))) (by omega) (by omega)) dL_told_171 jc_L_226 jmV_J4_toString_0e30d rfl (pNw.of rfl) rfl (pRc.ob (ci := 6) hoh11 rfl) rfl (nwT_r hr4) (jfr_u hr4.1) (Nat.le_of_ble_eq_true rfl) ⟨Nat.le_of_ble_eq_true rfl, Nat.le_of_ble_eq_true rfl⟩ (show nj171 + 2 ≤ 2450 ∧ nk171 + 38 ≤ 83300 by omega) (fun r9 h11 hp9 => ?_) (fun E h9 q => q.elim)
              obtain ⟨rfl, hSt, hy9⟩ := hp9
              refine j_astore_n (L' := [(0, _), (1, _), (2, _)]) dL_told_174 rfl (Nat.le_of_ble_eq_true rfl) rfl ?_
              have hlk : l4 = kLine K p := he4
              rw [hlk] at hSt hl4
              obtain ⟨hd, hd1, hd2, hd3, hd4⟩ := t_drop hclb (fun j j0 j1 => hb2 j j0 (by omega)) hr4.1 (fun j j0 j1 j2 => (hy9 j j1 j2).trans (ht4.1 j j0)) hSt
              refine J.drop (h' := hd) hd1 hd2 ?_
              have hdC := hbC.eq (fun j hj => hd4 j (by omega) (by omega)) ((hd4 300 (by omega) (by omega)).trans hbC.2.2.2)
              refine j_aload_n dL_told_175 rfl rfl ?_
              refine j_iload_n dL_told_176 rfl rfl ?_
              refine j_callSW (l_line hdC (p := p) hp) dL_told_177 jc_L_236 jmS_L_line (fun q => by cases q) rfl rfl (by decide) (jfr_t hr4.1 rfl (jfL_c (.inl rfl) (jfL_c (.inr (.inr ⟨_, rfl⟩)) (jfL_c (.inr (.inl rfl)) (fun _ q => by cases q)))) (fun _ q => by cases q)) (Nat.le_of_ble_eq_true rfl) ⟨Nat.le_of_ble_eq_true rfl, Nat.le_of_ble_eq_true rfl⟩ (show nj171 + 2 + 11 ≤ 2450 ∧ nk171 + 38 + 346 ≤ 83300 by omega) (fun r h12 hp9 => ?_)
              obtain ⟨rfl, hLT, hLx⟩ := hp9
              have hSt2 := hd3.eq (hLx r (by omega)) (hLx (r + 1) (by omega))
              have hLn : h12 300 = none := hLT.2.2.2
              have hLb : ∀ j, 120 ≤ j → (j < 440 ∨ 440 + 2 * (p + 1).toNat ≤ j) → h12 j = none := fun j j0 j1 => (hLx j (by omega)).trans ((hd4 j (by omega) (by omega)).trans (hb2 j j0 (by omega)))
              refine j_aload_n dL_told_180 rfl rfl ?_
              refine j_callVF (ct_length (.inr hSt2)) dL_told_181 jc_L_99 jmV_J0_length_8abf5 rfl (pNw.of rfl) rfl (pRc.t (.inr hSt2) (pNw.of rfl)) rfl (by simp) jfr_nil (Nat.le_of_ble_eq_true rfl) ⟨Nat.le_of_ble_eq_true rfl, Nat.le_of_ble_eq_true rfl⟩ (show nj171 + 2 + 11 + 0 ≤ 2450 ∧ nk171 + 38 + 346 + 0 ≤ 83300 by omega) (fun r h13 hp9 => ?_) (fun E h9 q => q.elim)
              obtain ⟨rfl, rfl⟩ := hp9
              refine j_icmp_ne (tgt := 191) dL_told_184 (by decide) (by omega) (fun c184 => (False.elim (by omega))) (fun c184 => ?_)
              refine j_iconst dL_told_187 ?_
              refine j_goto (tgt := 192) dL_told_188 (by decide) ?_
              refine j_istore_n (L' := [(0, _), (1, _), (2, _), (3, _)]) dL_told_192 rfl (Nat.le_of_ble_eq_true rfl) rfl ?_
              refine j_iconst dL_told_193 ?_
              refine j_istore (L' := [(0, _), (1, _), (2, _), (3, _), (4, _)]) dL_told_194 (Nat.le_of_ble_eq_true rfl) rfl ?_
              refine jloop (P := fun z9 : Int × Nat × Nat => J (pMe mL_told Ln xs) (jR 11 2450 83300) nwT Z 196 [(0, .ref 0), (1, iv p), (2, .ref r), (3, iv 1), (4, iv z9.1)] [] h12 z9.2.1 z9.2.2) (fun z9 => (0 ≤ z9.1 ∧ z9.1 ≤ ((kLine K p).length : Int)) ∧ (z9.2.1 : Int) + (20 - z9.1) ≤ nc2 + 85 ∧ z9.2.2 ≤ 34 * z9.2.1) (fun z9 => (20 - z9.1).toNat) ?_ (0, nj171 + 2 + 11 + 0, nk171 + 38 + 346 + 0) ?_
              · rintro ⟨i, nc196, ns196⟩ hinv196 ih196
                dsimp only at hinv196 ih196 ⊢
                obtain ⟨j1, b3, b4⟩ := hinv196
                refine j_iload dL_told_196 rfl ?_
                refine j_aload_n dL_told_198 rfl rfl ?_
                refine j_callVF (ct_length (.inr hSt2)) dL_told_199 jc_L_99 jmV_J0_length_8abf5 rfl (pNw.of rfl) rfl (pRc.t (.inr hSt2) (pNw.of rfl)) rfl (by simp) jfr_nil (Nat.le_of_ble_eq_true rfl) ⟨Nat.le_of_ble_eq_true rfl, Nat.le_of_ble_eq_true rfl⟩ (show nc196 + 0 ≤ 2450 ∧ ns196 + 0 ≤ 83300 by omega) (fun r h14 hp9 => ?_) (fun E h9 q => q.elim)
                obtain ⟨rfl, rfl⟩ := hp9
                refine j_icmp_ge (tgt := 236) dL_told_202 (by decide) (by omega) (fun c202 => ?_) (fun c202 => ?_)
                · refine j_iload_n dL_told_236 rfl rfl ?_
                  refine j_if_eq (tgt := 253) dL_told_237 (by decide) (by omega) (fun c237 => (False.elim (by omega))) (fun c237 => ?_)
                  refine j_aload_n dL_told_240 rfl rfl ?_
                  refine j_aload_n dL_told_241 rfl rfl ?_
                  refine j_callVF (ct_length (.inr hSt2)) dL_told_242 jc_L_99 jmV_J0_length_8abf5 rfl (pNw.of rfl) rfl (pRc.t (.inr hSt2) (pNw.of rfl)) rfl (by simp) jfr_nil (Nat.le_of_ble_eq_true rfl) ⟨Nat.le_of_ble_eq_true rfl, Nat.le_of_ble_eq_true rfl⟩ (show nc196 + 0 + 0 ≤ 2450 ∧ ns196 + 0 + 0 ≤ 83300 by omega) (fun r h15 hp9 => ?_) (fun E h9 q => q.elim)
                  obtain ⟨rfl, rfl⟩ := hp9
                  refine j_callSW (l_charO hLT (by omega) rfl) dL_told_245 jc_L_238 jmS_L_character (fun q => by cases q) rfl rfl (by decide) (jfr_t hr4.1 rfl (jfL_c (.inl rfl) (jfL_c (.inr (.inr ⟨_, rfl⟩)) (jfL_c (.inr (.inl rfl)) (jfL_c (.inr (.inr ⟨_, rfl⟩)) (jfL_c (.inr (.inr ⟨_, rfl⟩)) (fun _ q => by cases q)))))) (fun _ q => by cases q)) (Nat.le_of_ble_eq_true rfl) ⟨Nat.le_of_ble_eq_true rfl, Nat.le_of_ble_eq_true rfl⟩ (show nc196 + 0 + 0 + 1 ≤ 2450 ∧ ns196 + 0 + 0 + 6 ≤ 83300 by omega) (fun r h16 hp9 => ?_)
                  obtain ⟨rfl, rfl⟩ := hp9
                  refine j_bipush dL_told_248 (by decide +kernel) ?_
                  refine j_icmp_eq (tgt := 255) dL_told_250 (by decide) (by omega) (fun c250 => ?_) (fun c250 => (False.elim (by omega)))
                  refine j_iinc (L' := [(0, _), (1, _), (2, _), (3, _), (4, _)]) dL_told_255 rfl (Nat.le_of_ble_eq_true rfl) rfl ?_
                  refine j_goto (tgt := 2) dL_told_258 (by decide) ?_
                  refine J.keep [0, 1] (L' := [(0, _), (1, _)]) rfl ?_
                  refine ih2 (p + 1, h12, nc196 + 0 + 0 + 1, ns196 + 0 + 0 + 6) ?_ ?_
                  · dsimp only
                    exact ⟨by omega, hLT.C, hLb, by omega, by omega⟩
                  · dsimp only
                    omega
                · refine j_iload_n dL_told_205 rfl rfl ?_
                  refine j_if_eq (tgt := 236) dL_told_206 (by decide) (by omega) (fun c206 => (False.elim (by omega))) (fun c206 => ?_)
                  refine j_aload_n dL_told_209 rfl rfl ?_
                  refine j_iload dL_told_210 rfl ?_
                  obtain ⟨cv, hcv, hcr⟩ : ∃ cv, cv = ((kLine K p)[i.toNat]?).getD 0 ∧ True := ⟨_, rfl, trivial⟩
                  refine j_callSW (l_charY hLT (by omega) (i := i) (by omega)) dL_told_212 jc_L_238 jmS_L_character (fun q => by cases q) rfl rfl (by decide) (jfr_t hr4.1 rfl (jfL_c (.inl rfl) (jfL_c (.inr (.inr ⟨_, rfl⟩)) (jfL_c (.inr (.inl rfl)) (jfL_c (.inr (.inr ⟨_, rfl⟩)) (jfL_c (.inr (.inr ⟨_, rfl⟩)) (fun _ q => by cases q)))))) (fun _ q => by cases q)) (Nat.le_of_ble_eq_true rfl) ⟨Nat.le_of_ble_eq_true rfl, Nat.le_of_ble_eq_true rfl⟩ (show nc196 + 0 + 1 ≤ 2450 ∧ ns196 + 0 + 6 ≤ 83300 by omega) (fun r h17 hp9 => ?_)
                  obtain ⟨rfl, rfl⟩ := hp9
                  refine j_aload_n dL_told_215 rfl rfl ?_
                  refine j_iload dL_told_216 rfl ?_
                  refine j_callVF (t_charAt hSt2 (i := i) (by omega) (by omega) hLn hr4.1) dL_told_218 jc_L_104 jmV_J0_charAt_5068e rfl (pNw.of rfl) rfl (pRc.t (.inr hSt2) (pNw.of rfl)) rfl (by decide) (jfr_t hr4.1 rfl (jfL_c (.inl rfl) (jfL_c (.inr (.inr ⟨_, rfl⟩)) (jfL_c (.inr (.inl rfl)) (jfL_c (.inr (.inr ⟨_, rfl⟩)) (jfL_c (.inr (.inr ⟨_, rfl⟩)) (fun _ q => by cases q)))))) (jfS_c ⟨_, rfl⟩ (fun _ q => by cases q))) (Nat.le_of_ble_eq_true rfl) ⟨Nat.le_of_ble_eq_true rfl, Nat.le_of_ble_eq_true rfl⟩ (show nc196 + 0 + 1 + 0 ≤ 2450 ∧ ns196 + 0 + 6 + 0 ≤ 83300 by omega) (fun r h18 hp9 => ?_) (fun E h9 q => q.elim)
                  obtain ⟨rfl, rfl⟩ := hp9
                  refine j_icmp_ne (tgt := 228) dL_told_221 (by decide) (t_cr hSt2 (by omega)) (fun c221 => (False.elim (by omega))) (fun c221 => ?_)
                  refine j_iconst dL_told_224 ?_
                  refine j_goto (tgt := 229) dL_told_225 (by decide) ?_
                  refine j_istore_n (L' := [(0, _), (1, _), (2, _), (3, _), (4, _)]) dL_told_229 rfl (Nat.le_of_ble_eq_true rfl) rfl ?_
                  refine j_iinc (L' := [(0, _), (1, _), (2, _), (3, _), (4, _)]) dL_told_230 rfl (Nat.le_of_ble_eq_true rfl) rfl ?_
                  refine j_goto (tgt := 196) dL_told_233 (by decide) ?_
                  refine ih196 (i + 1, nc196 + 0 + 1 + 0, ns196 + 0 + 6 + 0) ?_ ?_
                  · dsimp only
                    exact ⟨by omega, by omega, by omega⟩
                  · dsimp only
                    omega
              · dsimp only
                exact ⟨by omega, by omega, by omega⟩
            refine j_icmp_ne (tgt := 166) dL_told_158 (by decide) (by omega) (fun c158 => ?_) (fun c158 => ?_)
            · refine j_ldcT (i := 5) (by decide) (pNw.of rfl) rfl dL_told_166 ?_
              obtain ⟨fsh19, hoh19⟩ := ht3.2.1.o
              refine j_callVF (ct_append (r := 410) ht3.2.1 (.inl ⟨5, by decide, rfl, rfl⟩) (by decide) (by decide) (by have := hl3; show List.length l3 + 1 ≤ 34; omega)) dL_told_168 jc_L_216 jmV_J4_append_15ec4 rfl (pNw.of rfl) rfl (pRc.ob (ci := 6) hoh19 rfl) rfl (by decide) (jfr_of rfl rfl) (Nat.le_of_ble_eq_true rfl) ⟨Nat.le_of_ble_eq_true rfl, Nat.le_of_ble_eq_true rfl⟩ (show nj150 + 2 + 1 ≤ 2450 ∧ nk150 + 12 + 34 ≤ 83300 by omega) (fun r h19 hp9 => ?_) (fun E h9 q => q.elim)
              obtain ⟨rfl, hBh19, hxh19⟩ := hp9
              exact hj171 h19 ((l3 ++ [120])) (nj150 + 2 + 1) (nk150 + 12 + 34) (ht3.app (by decide) (by decide) hBh19 hxh19) (by rw [he3, if_pos (show K 3 p = 0 by omega)]) (by omega) (by omega)
            · refine j_ldcT (i := 1) (by decide) (pNw.of rfl) rfl dL_told_161 ?_
              refine j_goto (tgt := 168) dL_told_163 (by decide) ?_
              obtain ⟨fsh20, hoh20⟩ := ht3.2.1.o
              refine j_callVF (ct_append (r := 402) ht3.2.1 (.inl ⟨1, by decide, rfl, rfl⟩) (by decide) (by decide) (by have := hl3; show List.length l3 + 0 ≤ 34; omega)) dL_told_168 jc_L_216 jmV_J4_append_15ec4 rfl (pNw.of rfl) rfl (pRc.ob (ci := 6) hoh20 rfl) rfl (by decide) (jfr_of rfl rfl) (Nat.le_of_ble_eq_true rfl) ⟨Nat.le_of_ble_eq_true rfl, Nat.le_of_ble_eq_true rfl⟩ (show nj150 + 2 + 1 ≤ 2450 ∧ nk150 + 12 + 34 ≤ 83300 by omega) (fun r h20 hp9 => ?_) (fun E h9 q => q.elim)
              obtain ⟨rfl, hBh20, hxh20⟩ := hp9
              exact hj171 h20 ((l3 ++ [])) (nj150 + 2 + 1) (nk150 + 12 + 34) (ht3.app (by decide) (by decide) hBh20 hxh20) (by rw [he3, if_neg (show ¬ K 3 p = 0 by omega)]) (by omega) (by omega)
          refine j_if_ne (tgt := 123) dL_told_115 (by decide) (by omega) (fun c115 => ?_) (fun c115 => ?_)
          · refine j_new (k := 433) (ci := 6) (fs := [.null, iv 0, iv 0, iv 0]) tyJ4 dL_told_123 wd9c_898 wd9c_193 wd9c_53 rfl tyJ4_ok (fun j hj => match j, hj with | 0, _ => rfl | 1, _ => rfl | 2, _ => rfl | 3, _ => rfl | n9 + 4, hj => absurd hj (by omega)) (jz0_of rfl) (ht2.2.2 433 (by decide) (by decide)) (by decide) (jfr_of rfl rfl) (show nj109 + 2 + 1 ≤ 2450 ∧ nk109 + 12 + 4 ≤ 83300 by omega) ?_
            refine j_dup dL_told_126 rfl ?_
            refine j_callI (ct_init0 (k := 433) jup_s (jup_n (by decide) (ht2.2.2 434 (by decide) (by decide))) (jup_n (by decide) (ht2.2.2 435 (by decide) (by decide)))) dL_told_127 jc_L_213 jmI_J4_init_da8c8 rfl rfl rfl rfl rfl (by decide) (jfr_of rfl rfl) (Nat.le_of_ble_eq_true rfl) ⟨Nat.le_of_ble_eq_true rfl, Nat.le_of_ble_eq_true rfl⟩ (show nj109 + 2 + 1 + 1 ≤ 2450 ∧ nk109 + 12 + 4 + 16 ≤ 83300 by omega) (fun r h21 hp9 => ?_)
            obtain ⟨rfl, hBh21, hxh21⟩ := hp9
            refine j_ldcT (i := 4) (by decide) (pNw.of rfl) rfl dL_told_130 ?_
            obtain ⟨fsh22, hoh22⟩ := hBh21.o
            refine j_callVF (ct_append (r := 408) hBh21 (.inl ⟨4, by decide, rfl, rfl⟩) (by decide) (by decide) (by decide)) dL_told_132 jc_L_216 jmV_J4_append_15ec4 rfl (pNw.of rfl) rfl (pRc.ob (ci := 6) hoh22 rfl) rfl (by decide) (jfr_of rfl rfl) (Nat.le_of_ble_eq_true rfl) ⟨Nat.le_of_ble_eq_true rfl, Nat.le_of_ble_eq_true rfl⟩ (show nj109 + 2 + 1 + 1 + 1 ≤ 2450 ∧ nk109 + 12 + 4 + 16 + 34 ≤ 83300 by omega) (fun r h22 hp9 => ?_) (fun E h9 q => q.elim)
            obtain ⟨rfl, hBh22, hxh22⟩ := hp9
            have heh22 : ∀ j, ¬ (433 ≤ j ∧ j < 438) → h22 j = hh2 j := fun j hj => (hxh22 j (by omega)).trans ((hxh21 j (by omega)).trans (jup_n (by omega) rfl))
            refine j_aload_n dL_told_135 rfl rfl ?_
            refine j_iload_n dL_told_136 rfl rfl ?_
            refine j_iconst dL_told_137 ?_
            refine j_callSW (l_of5 (((ht2.w hbC)).eq (fun j hj => heh22 j (by omega)) ((heh22 300 (by omega)).trans ((ht2.w hbC)).2.2.2)) (p := p) (by omega)) dL_told_138 jc_L_151 jmS_L_of (fun q => by cases q) rfl rfl (by decide) (jfr_of rfl rfl) (Nat.le_of_ble_eq_true rfl) ⟨Nat.le_of_ble_eq_true rfl, Nat.le_of_ble_eq_true rfl⟩ (show nj109 + 2 + 1 + 1 + 1 + 2 ≤ 2450 ∧ nk109 + 12 + 4 + 16 + 34 + 12 ≤ 83300 by omega) (fun r h23 hp9 => ?_)
            obtain ⟨rfl, rfl⟩ := hp9
            obtain ⟨fsh24, hoh24⟩ := hBh22.o
            refine j_callV (ct_appendI (v := K 2 p) hBh22 (by omega) (by have := dl_r (K 2 p); show (1 : Int) + dl (K 2 p) ≤ 34; omega)) dL_told_141 jc_L_219 jmV_J4_append_bf812 rfl rfl hoh24 rfl rfl (by decide) (jfr_of rfl rfl) (Nat.le_of_ble_eq_true rfl) ⟨Nat.le_of_ble_eq_true rfl, Nat.le_of_ble_eq_true rfl⟩ (show nj109 + 2 + 1 + 1 + 1 + 2 + 1 ≤ 2450 ∧ nk109 + 12 + 4 + 16 + 34 + 12 + 34 ≤ 83300 by omega) (fun r h24 hp9 => ?_) (fun E h9 q => q.elim)
            obtain ⟨rfl, hBh24, hxh24⟩ := hp9
            obtain ⟨fsh25, hoh25⟩ := hBh24.o
            refine j_callVF (ct_toString (r := 436) hBh24 ((hxh24 436 (by decide)).trans ((hxh22 436 (by decide)).trans ((hxh21 436 (by decide)).trans ((jup_n (by decide) rfl).trans (ht2.2.2 436 (by decide) (by decide)))))) ((hxh24 437 (by decide)).trans ((hxh22 437 (by decide)).trans ((hxh21 437 (by decide)).trans ((jup_n (by decide) rfl).trans (ht2.2.2 437 (by decide) (by decide)))))) (by decide) (by decide)) dL_told_144 jc_L_226 jmV_J4_toString_0e30d rfl (pNw.of rfl) rfl (pRc.ob (ci := 6) hoh25 rfl) rfl (by decide) (jfr_of rfl rfl) (Nat.le_of_ble_eq_true rfl) ⟨Nat.le_of_ble_eq_true rfl, Nat.le_of_ble_eq_true rfl⟩ (show nj109 + 2 + 1 + 1 + 1 + 2 + 1 + 2 ≤ 2450 ∧ nk109 + 12 + 4 + 16 + 34 + 12 + 34 + 38 ≤ 83300 by omega) (fun r h25 hp9 => ?_) (fun E h9 q => q.elim)
            obtain ⟨rfl, hSh25, hyh25⟩ := hp9
            have heh25 : ∀ j, ¬ (433 ≤ j ∧ j < 438) → h25 j = hh2 j := fun j hj => (hyh25 j (by omega) (by omega)).trans ((hxh24 j (by omega)).trans (heh22 j hj))
            have hBmh25 := ht2.2.1.eq (fun j j0 j1 => heh25 j (by omega))
            obtain ⟨fsh26, hoh26⟩ := hBmh25.o
            refine j_callVF (ct_append (r := 436) hBmh25 (.inr hSh25) (by decide) (by decide) (by have := hl2; have := dgs_len8 (v := K 2 p); rw [List.length_append (as := [] ++ tL 4) (bs := dgs 7 (K 2 p))]; show List.length l2 + (1 + List.length (dgs 7 (K 2 p))) ≤ 34; omega)) dL_told_147 jc_L_216 jmV_J4_append_15ec4 rfl (pNw.of rfl) rfl (pRc.ob (ci := 6) hoh26 rfl) rfl (by decide) (jfr_of rfl rfl) (Nat.le_of_ble_eq_true rfl) ⟨Nat.le_of_ble_eq_true rfl, Nat.le_of_ble_eq_true rfl⟩ (show nj109 + 2 + 1 + 1 + 1 + 2 + 1 + 2 + 1 ≤ 2450 ∧ nk109 + 12 + 4 + 16 + 34 + 12 + 34 + 38 + 34 ≤ 83300 by omega) (fun r h26 hp9 => ?_) (fun E h9 q => q.elim)
            obtain ⟨rfl, hBh26, hxh26⟩ := hp9
            exact hj150 h26 ((l2 ++ ([61] ++ dgs 7 (K 2 p)))) (nj109 + 2 + 1 + 1 + 1 + 2 + 1 + 2 + 1) (nk109 + 12 + 4 + 16 + 34 + 12 + 34 + 38 + 34) (ht2.opt (by decide) (by decide) rfl heh25 hBh26 hxh26) (by rw [he2, if_neg (show ¬ K 2 p = 0 by omega)]) (by omega) (by omega)
          · refine j_ldcT (i := 1) (by decide) (pNw.of rfl) rfl dL_told_118 ?_
            refine j_goto (tgt := 147) dL_told_120 (by decide) ?_
            obtain ⟨fsh27, hoh27⟩ := ht2.2.1.o
            refine j_callVF (ct_append (r := 402) ht2.2.1 (.inl ⟨1, by decide, rfl, rfl⟩) (by decide) (by decide) (by have := hl2; show List.length l2 + 0 ≤ 34; omega)) dL_told_147 jc_L_216 jmV_J4_append_15ec4 rfl (pNw.of rfl) rfl (pRc.ob (ci := 6) hoh27 rfl) rfl (by decide) (jfr_of rfl rfl) (Nat.le_of_ble_eq_true rfl) ⟨Nat.le_of_ble_eq_true rfl, Nat.le_of_ble_eq_true rfl⟩ (show nj109 + 2 + 1 ≤ 2450 ∧ nk109 + 12 + 34 ≤ 83300 by omega) (fun r h27 hp9 => ?_) (fun E h9 q => q.elim)
            obtain ⟨rfl, hBh27, hxh27⟩ := hp9
            exact hj150 h27 ((l2 ++ [])) (nj109 + 2 + 1) (nk109 + 12 + 34) (ht2.app (by decide) (by decide) hBh27 hxh27) (by rw [he2, if_pos (show K 2 p = 0 by omega)]) (by omega) (by omega)
        refine j_if_ge (tgt := 82) dL_told_74 (by decide) (by omega) (fun c74 => ?_) (fun c74 => ?_)
        · refine j_new (k := 428) (ci := 6) (fs := [.null, iv 0, iv 0, iv 0]) tyJ4 dL_told_82 wd9c_898 wd9c_193 wd9c_53 rfl tyJ4_ok (fun j hj => match j, hj with | 0, _ => rfl | 1, _ => rfl | 2, _ => rfl | 3, _ => rfl | n9 + 4, hj => absurd hj (by omega)) (jz0_of rfl) (ht1.2.2 428 (by decide) (by decide)) (by decide) (jfr_of rfl rfl) (show nj68 + 2 + 1 ≤ 2450 ∧ nk68 + 12 + 4 ≤ 83300 by omega) ?_
          refine j_dup dL_told_85 rfl ?_
          refine j_callI (ct_init0 (k := 428) jup_s (jup_n (by decide) (ht1.2.2 429 (by decide) (by decide))) (jup_n (by decide) (ht1.2.2 430 (by decide) (by decide)))) dL_told_86 jc_L_213 jmI_J4_init_da8c8 rfl rfl rfl rfl rfl (by decide) (jfr_of rfl rfl) (Nat.le_of_ble_eq_true rfl) ⟨Nat.le_of_ble_eq_true rfl, Nat.le_of_ble_eq_true rfl⟩ (show nj68 + 2 + 1 + 1 ≤ 2450 ∧ nk68 + 12 + 4 + 16 ≤ 83300 by omega) (fun r h28 hp9 => ?_)
          obtain ⟨rfl, hBh28, hxh28⟩ := hp9
          refine j_ldcT (i := 3) (by decide) (pNw.of rfl) rfl dL_told_89 ?_
          obtain ⟨fsh29, hoh29⟩ := hBh28.o
          refine j_callVF (ct_append (r := 406) hBh28 (.inl ⟨3, by decide, rfl, rfl⟩) (by decide) (by decide) (by decide)) dL_told_91 jc_L_216 jmV_J4_append_15ec4 rfl (pNw.of rfl) rfl (pRc.ob (ci := 6) hoh29 rfl) rfl (by decide) (jfr_of rfl rfl) (Nat.le_of_ble_eq_true rfl) ⟨Nat.le_of_ble_eq_true rfl, Nat.le_of_ble_eq_true rfl⟩ (show nj68 + 2 + 1 + 1 + 1 ≤ 2450 ∧ nk68 + 12 + 4 + 16 + 34 ≤ 83300 by omega) (fun r h29 hp9 => ?_) (fun E h9 q => q.elim)
          obtain ⟨rfl, hBh29, hxh29⟩ := hp9
          have heh29 : ∀ j, ¬ (428 ≤ j ∧ j < 433) → h29 j = hh1 j := fun j hj => (hxh29 j (by omega)).trans ((hxh28 j (by omega)).trans (jup_n (by omega) rfl))
          refine j_aload_n dL_told_94 rfl rfl ?_
          refine j_iload_n dL_told_95 rfl rfl ?_
          refine j_iconst dL_told_96 ?_
          refine j_callSW (l_of4 (((ht1.w hbC)).eq (fun j hj => heh29 j (by omega)) ((heh29 300 (by omega)).trans ((ht1.w hbC)).2.2.2)) (p := p) (by omega)) dL_told_97 jc_L_151 jmS_L_of (fun q => by cases q) rfl rfl (by decide) (jfr_of rfl rfl) (Nat.le_of_ble_eq_true rfl) ⟨Nat.le_of_ble_eq_true rfl, Nat.le_of_ble_eq_true rfl⟩ (show nj68 + 2 + 1 + 1 + 1 + 2 ≤ 2450 ∧ nk68 + 12 + 4 + 16 + 34 + 12 ≤ 83300 by omega) (fun r h30 hp9 => ?_)
          obtain ⟨rfl, rfl⟩ := hp9
          obtain ⟨fsh31, hoh31⟩ := hBh29.o
          refine j_callV (ct_appendI (v := K 1 p) hBh29 (by omega) (by have := dl_24 (v := K 1 p) (by omega); show (1 : Int) + dl (K 1 p) ≤ 34; omega)) dL_told_100 jc_L_219 jmV_J4_append_bf812 rfl rfl hoh31 rfl rfl (by decide) (jfr_of rfl rfl) (Nat.le_of_ble_eq_true rfl) ⟨Nat.le_of_ble_eq_true rfl, Nat.le_of_ble_eq_true rfl⟩ (show nj68 + 2 + 1 + 1 + 1 + 2 + 1 ≤ 2450 ∧ nk68 + 12 + 4 + 16 + 34 + 12 + 34 ≤ 83300 by omega) (fun r h31 hp9 => ?_) (fun E h9 q => q.elim)
          obtain ⟨rfl, hBh31, hxh31⟩ := hp9
          obtain ⟨fsh32, hoh32⟩ := hBh31.o
          refine j_callVF (ct_toString (r := 431) hBh31 ((hxh31 431 (by decide)).trans ((hxh29 431 (by decide)).trans ((hxh28 431 (by decide)).trans ((jup_n (by decide) rfl).trans (ht1.2.2 431 (by decide) (by decide)))))) ((hxh31 432 (by decide)).trans ((hxh29 432 (by decide)).trans ((hxh28 432 (by decide)).trans ((jup_n (by decide) rfl).trans (ht1.2.2 432 (by decide) (by decide)))))) (by decide) (by decide)) dL_told_103 jc_L_226 jmV_J4_toString_0e30d rfl (pNw.of rfl) rfl (pRc.ob (ci := 6) hoh32 rfl) rfl (by decide) (jfr_of rfl rfl) (Nat.le_of_ble_eq_true rfl) ⟨Nat.le_of_ble_eq_true rfl, Nat.le_of_ble_eq_true rfl⟩ (show nj68 + 2 + 1 + 1 + 1 + 2 + 1 + 2 ≤ 2450 ∧ nk68 + 12 + 4 + 16 + 34 + 12 + 34 + 38 ≤ 83300 by omega) (fun r h32 hp9 => ?_) (fun E h9 q => q.elim)
          obtain ⟨rfl, hSh32, hyh32⟩ := hp9
          have heh32 : ∀ j, ¬ (428 ≤ j ∧ j < 433) → h32 j = hh1 j := fun j hj => (hyh32 j (by omega) (by omega)).trans ((hxh31 j (by omega)).trans (heh29 j hj))
          have hBmh32 := ht1.2.1.eq (fun j j0 j1 => heh32 j (by omega))
          obtain ⟨fsh33, hoh33⟩ := hBmh32.o
          refine j_callVF (ct_append (r := 431) hBmh32 (.inr hSh32) (by decide) (by decide) (by have := hl1; have := dgs_len2 (v := K 1 p) (by omega); rw [List.length_append (as := [] ++ tL 3) (bs := dgs 7 (K 1 p))]; show List.length l1 + (1 + List.length (dgs 7 (K 1 p))) ≤ 34; omega)) dL_told_106 jc_L_216 jmV_J4_append_15ec4 rfl (pNw.of rfl) rfl (pRc.ob (ci := 6) hoh33 rfl) rfl (by decide) (jfr_of rfl rfl) (Nat.le_of_ble_eq_true rfl) ⟨Nat.le_of_ble_eq_true rfl, Nat.le_of_ble_eq_true rfl⟩ (show nj68 + 2 + 1 + 1 + 1 + 2 + 1 + 2 + 1 ≤ 2450 ∧ nk68 + 12 + 4 + 16 + 34 + 12 + 34 + 38 + 34 ≤ 83300 by omega) (fun r h33 hp9 => ?_) (fun E h9 q => q.elim)
          obtain ⟨rfl, hBh33, hxh33⟩ := hp9
          exact hj109 h33 ((l1 ++ ([43] ++ dgs 7 (K 1 p)))) (nj68 + 2 + 1 + 1 + 1 + 2 + 1 + 2 + 1) (nk68 + 12 + 4 + 16 + 34 + 12 + 34 + 38 + 34) (ht1.opt (by decide) (by decide) rfl heh32 hBh33 hxh33) (by rw [he1, if_neg (show ¬ K 1 p = -1 by omega)]) (by omega) (by omega)
        · refine j_ldcT (i := 1) (by decide) (pNw.of rfl) rfl dL_told_77 ?_
          refine j_goto (tgt := 106) dL_told_79 (by decide) ?_
          obtain ⟨fsh34, hoh34⟩ := ht1.2.1.o
          refine j_callVF (ct_append (r := 402) ht1.2.1 (.inl ⟨1, by decide, rfl, rfl⟩) (by decide) (by decide) (by have := hl1; show List.length l1 + 0 ≤ 34; omega)) dL_told_106 jc_L_216 jmV_J4_append_15ec4 rfl (pNw.of rfl) rfl (pRc.ob (ci := 6) hoh34 rfl) rfl (by decide) (jfr_of rfl rfl) (Nat.le_of_ble_eq_true rfl) ⟨Nat.le_of_ble_eq_true rfl, Nat.le_of_ble_eq_true rfl⟩ (show nj68 + 2 + 1 ≤ 2450 ∧ nk68 + 12 + 34 ≤ 83300 by omega) (fun r h34 hp9 => ?_) (fun E h9 q => q.elim)
          obtain ⟨rfl, hBh34, hxh34⟩ := hp9
          exact hj109 h34 ((l1 ++ [])) (nj68 + 2 + 1) (nk68 + 12 + 34) (ht1.app (by decide) (by decide) hBh34 hxh34) (by rw [he1, if_pos (show K 1 p = -1 by omega)]) (by omega) (by omega)
      refine j_if_ge (tgt := 41) dL_told_33 (by decide) (by omega) (fun c33 => ?_) (fun c33 => ?_)
      · refine j_new (k := 423) (ci := 6) (fs := [.null, iv 0, iv 0, iv 0]) tyJ4 dL_told_41 wd9c_898 wd9c_193 wd9c_53 rfl tyJ4_ok (fun j hj => match j, hj with | 0, _ => rfl | 1, _ => rfl | 2, _ => rfl | 3, _ => rfl | n9 + 4, hj => absurd hj (by omega)) (jz0_of rfl) (hT0.2.2 423 (by decide) (by decide)) (by decide) (jfr_of rfl rfl) (show nc2 + 1 + 1 + 1 + 1 + 1 + 2 + 1 ≤ 2450 ∧ ns2 + 6 + 4 + 16 + 34 + 34 + 12 + 4 ≤ 83300 by omega) ?_
        refine j_dup dL_told_44 rfl ?_
        refine j_callI (ct_init0 (k := 423) jup_s (jup_n (by decide) (hT0.2.2 424 (by decide) (by decide))) (jup_n (by decide) (hT0.2.2 425 (by decide) (by decide)))) dL_told_45 jc_L_213 jmI_J4_init_da8c8 rfl rfl rfl rfl rfl (by decide) (jfr_of rfl rfl) (Nat.le_of_ble_eq_true rfl) ⟨Nat.le_of_ble_eq_true rfl, Nat.le_of_ble_eq_true rfl⟩ (show nc2 + 1 + 1 + 1 + 1 + 1 + 2 + 1 + 1 ≤ 2450 ∧ ns2 + 6 + 4 + 16 + 34 + 34 + 12 + 4 + 16 ≤ 83300 by omega) (fun r h35 hp9 => ?_)
        obtain ⟨rfl, hBh35, hxh35⟩ := hp9
        refine j_ldcT (i := 2) (by decide) (pNw.of rfl) rfl dL_told_48 ?_
        obtain ⟨fsh36, hoh36⟩ := hBh35.o
        refine j_callVF (ct_append (r := 404) hBh35 (.inl ⟨2, by decide, rfl, rfl⟩) (by decide) (by decide) (by decide)) dL_told_50 jc_L_216 jmV_J4_append_15ec4 rfl (pNw.of rfl) rfl (pRc.ob (ci := 6) hoh36 rfl) rfl (by decide) (jfr_of rfl rfl) (Nat.le_of_ble_eq_true rfl) ⟨Nat.le_of_ble_eq_true rfl, Nat.le_of_ble_eq_true rfl⟩ (show nc2 + 1 + 1 + 1 + 1 + 1 + 2 + 1 + 1 + 1 ≤ 2450 ∧ ns2 + 6 + 4 + 16 + 34 + 34 + 12 + 4 + 16 + 34 ≤ 83300 by omega) (fun r h36 hp9 => ?_) (fun E h9 q => q.elim)
        obtain ⟨rfl, hBh36, hxh36⟩ := hp9
        have heh36 : ∀ j, ¬ (423 ≤ j ∧ j < 428) → h36 j = h6 j := fun j hj => (hxh36 j (by omega)).trans ((hxh35 j (by omega)).trans (jup_n (by omega) rfl))
        refine j_aload_n dL_told_53 rfl rfl ?_
        refine j_iload_n dL_told_54 rfl rfl ?_
        refine j_iconst dL_told_55 ?_
        refine j_callSW (l_of0 (((hT0.w hbC)).eq (fun j hj => heh36 j (by omega)) ((heh36 300 (by omega)).trans ((hT0.w hbC)).2.2.2)) (p := p) (by omega)) dL_told_56 jc_L_151 jmS_L_of (fun q => by cases q) rfl rfl (by decide) (jfr_of rfl rfl) (Nat.le_of_ble_eq_true rfl) ⟨Nat.le_of_ble_eq_true rfl, Nat.le_of_ble_eq_true rfl⟩ (show nc2 + 1 + 1 + 1 + 1 + 1 + 2 + 1 + 1 + 1 + 2 ≤ 2450 ∧ ns2 + 6 + 4 + 16 + 34 + 34 + 12 + 4 + 16 + 34 + 12 ≤ 83300 by omega) (fun r h37 hp9 => ?_)
        obtain ⟨rfl, rfl⟩ := hp9
        obtain ⟨fsh38, hoh38⟩ := hBh36.o
        refine j_callV (ct_appendI (v := K 0 p) hBh36 (by omega) (by have := dl_24 (v := K 0 p) (by omega); show (1 : Int) + dl (K 0 p) ≤ 34; omega)) dL_told_59 jc_L_219 jmV_J4_append_bf812 rfl rfl hoh38 rfl rfl (by decide) (jfr_of rfl rfl) (Nat.le_of_ble_eq_true rfl) ⟨Nat.le_of_ble_eq_true rfl, Nat.le_of_ble_eq_true rfl⟩ (show nc2 + 1 + 1 + 1 + 1 + 1 + 2 + 1 + 1 + 1 + 2 + 1 ≤ 2450 ∧ ns2 + 6 + 4 + 16 + 34 + 34 + 12 + 4 + 16 + 34 + 12 + 34 ≤ 83300 by omega) (fun r h38 hp9 => ?_) (fun E h9 q => q.elim)
        obtain ⟨rfl, hBh38, hxh38⟩ := hp9
        obtain ⟨fsh39, hoh39⟩ := hBh38.o
        refine j_callVF (ct_toString (r := 426) hBh38 ((hxh38 426 (by decide)).trans ((hxh36 426 (by decide)).trans ((hxh35 426 (by decide)).trans ((jup_n (by decide) rfl).trans (hT0.2.2 426 (by decide) (by decide)))))) ((hxh38 427 (by decide)).trans ((hxh36 427 (by decide)).trans ((hxh35 427 (by decide)).trans ((jup_n (by decide) rfl).trans (hT0.2.2 427 (by decide) (by decide)))))) (by decide) (by decide)) dL_told_62 jc_L_226 jmV_J4_toString_0e30d rfl (pNw.of rfl) rfl (pRc.ob (ci := 6) hoh39 rfl) rfl (by decide) (jfr_of rfl rfl) (Nat.le_of_ble_eq_true rfl) ⟨Nat.le_of_ble_eq_true rfl, Nat.le_of_ble_eq_true rfl⟩ (show nc2 + 1 + 1 + 1 + 1 + 1 + 2 + 1 + 1 + 1 + 2 + 1 + 2 ≤ 2450 ∧ ns2 + 6 + 4 + 16 + 34 + 34 + 12 + 4 + 16 + 34 + 12 + 34 + 38 ≤ 83300 by omega) (fun r h39 hp9 => ?_) (fun E h9 q => q.elim)
        obtain ⟨rfl, hSh39, hyh39⟩ := hp9
        have heh39 : ∀ j, ¬ (423 ≤ j ∧ j < 428) → h39 j = h6 j := fun j hj => (hyh39 j (by omega) (by omega)).trans ((hxh38 j (by omega)).trans (heh36 j hj))
        have hBmh39 := hT0.2.1.eq (fun j j0 j1 => heh39 j (by omega))
        obtain ⟨fsh40, hoh40⟩ := hBmh39.o
        refine j_callVF (ct_append (r := 426) hBmh39 (.inr hSh39) (by decide) (by decide) (by have := hl0; have := dgs_len2 (v := K 0 p) (by omega); rw [List.length_append (as := [] ++ tL 2) (bs := dgs 7 (K 0 p))]; show List.length ([35] ++ dgs 7 p) + (1 + List.length (dgs 7 (K 0 p))) ≤ 34; omega)) dL_told_65 jc_L_216 jmV_J4_append_15ec4 rfl (pNw.of rfl) rfl (pRc.ob (ci := 6) hoh40 rfl) rfl (by decide) (jfr_of rfl rfl) (Nat.le_of_ble_eq_true rfl) ⟨Nat.le_of_ble_eq_true rfl, Nat.le_of_ble_eq_true rfl⟩ (show nc2 + 1 + 1 + 1 + 1 + 1 + 2 + 1 + 1 + 1 + 2 + 1 + 2 + 1 ≤ 2450 ∧ ns2 + 6 + 4 + 16 + 34 + 34 + 12 + 4 + 16 + 34 + 12 + 34 + 38 + 34 ≤ 83300 by omega) (fun r h40 hp9 => ?_) (fun E h9 q => q.elim)
        obtain ⟨rfl, hBh40, hxh40⟩ := hp9
        exact hj68 h40 ((([35] ++ dgs 7 p) ++ ([60] ++ dgs 7 (K 0 p)))) (nc2 + 1 + 1 + 1 + 1 + 1 + 2 + 1 + 1 + 1 + 2 + 1 + 2 + 1) (ns2 + 6 + 4 + 16 + 34 + 34 + 12 + 4 + 16 + 34 + 12 + 34 + 38 + 34) (hT0.opt (by decide) (by decide) rfl heh39 hBh40 hxh40) (by rw [if_neg (show ¬ K 0 p = -1 by omega)]) (by omega) (by omega)
      · refine j_ldcT (i := 1) (by decide) (pNw.of rfl) rfl dL_told_36 ?_
        refine j_goto (tgt := 65) dL_told_38 (by decide) ?_
        obtain ⟨fsh41, hoh41⟩ := hT0.2.1.o
        refine j_callVF (ct_append (r := 402) hT0.2.1 (.inl ⟨1, by decide, rfl, rfl⟩) (by decide) (by decide) (by have := hl0; show List.length ([35] ++ dgs 7 p) + 0 ≤ 34; omega)) dL_told_65 jc_L_216 jmV_J4_append_15ec4 rfl (pNw.of rfl) rfl (pRc.ob (ci := 6) hoh41 rfl) rfl (by decide) (jfr_of rfl rfl) (Nat.le_of_ble_eq_true rfl) ⟨Nat.le_of_ble_eq_true rfl, Nat.le_of_ble_eq_true rfl⟩ (show nc2 + 1 + 1 + 1 + 1 + 1 + 2 + 1 ≤ 2450 ∧ ns2 + 6 + 4 + 16 + 34 + 34 + 12 + 34 ≤ 83300 by omega) (fun r h41 hp9 => ?_) (fun E h9 q => q.elim)
        obtain ⟨rfl, hBh41, hxh41⟩ := hp9
        exact hj68 h41 ((([35] ++ dgs 7 p) ++ [])) (nc2 + 1 + 1 + 1 + 1 + 1 + 2 + 1) (ns2 + 6 + 4 + 16 + 34 + 34 + 12 + 34) (hT0.app (by decide) (by decide) hBh41 hxh41) (by rw [if_pos (show K 0 p = -1 by omega)]) (by omega) (by omega)
  · dsimp only
    exact ⟨by omega, hC, fun j j0 _ => hN j j0, by omega, by omega⟩
