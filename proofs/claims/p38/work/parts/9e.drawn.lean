theorem wd9e_47 : (Jvm.Cond.initialized "FamilyOaks") ∈ jWL := jw_mem 47 (by decide +kernel) (by decide +kernel)
theorem wd9e_78 : (Jvm.Cond.classLink "FamilyOaksLaw" (9 : Nat) "FamilyOaks") ∈ jWL := jw_mem 78 (by decide +kernel) (by decide +kernel)
theorem wd9e_79 : (Jvm.Cond.instantiable "FamilyOaks" (13 : Nat)) ∈ jWL := jw_mem 79 (by decide +kernel) (by decide +kernel)
/-! THE LAW'S FAMILIES, DRAWN -/
theorem es_found {k q : Int} {E : String} (hm : (k, E) ∈ [((-2 : Int), "java/lang/UnsupportedOperationException")]) (hE : (q = -2 ∧ E = "java/lang/IndexOutOfBoundsException") ∨ (q = -3 ∧ E = "java/lang/IllegalArgumentException") ∨ (q = -4 ∧ E = "java/lang/UnsupportedOperationException")) (h2 : q ≠ -2) : k = -2 := by
  simp only [List.mem_cons, List.not_mem_nil, or_false, Prod.mk.injEq] at hm
  exact hm.1
theorem es_2 {k q : Int} {E : String} (hm : (k, E) ∈ [((-1 : Int), "java/lang/IndexOutOfBoundsException"), ((-2 : Int), "java/lang/UnsupportedOperationException")]) (hE : (q = -2 ∧ E = "java/lang/IndexOutOfBoundsException") ∨ (q = -3 ∧ E = "java/lang/IllegalArgumentException") ∨ (q = -4 ∧ E = "java/lang/UnsupportedOperationException")) (h2 : q ≠ -2) : k = -2 := by
  simp only [List.mem_cons, List.not_mem_nil, or_false, Prod.mk.injEq] at hm
  rcases hm with ⟨rfl, rfl⟩ | ⟨rfl, rfl⟩
  · rcases hE with ⟨e, _⟩ | ⟨_, e⟩ | ⟨_, e⟩
    · exact absurd e h2
    · exact absurd e (by decide +kernel)
    · exact absurd e (by decide +kernel)
  · rfl
theorem es_give {k q : Int} {E : String} (hm : (k, E) ∈ [((-1 : Int), "java/lang/IndexOutOfBoundsException"), ((-2 : Int), "java/lang/IllegalArgumentException"), ((-3 : Int), "java/lang/UnsupportedOperationException")]) (hE : (q = -2 ∧ E = "java/lang/IndexOutOfBoundsException") ∨ (q = -3 ∧ E = "java/lang/IllegalArgumentException") ∨ (q = -4 ∧ E = "java/lang/UnsupportedOperationException")) (h2 : q ≠ -2) : k = -2 ∨ k = -3 := by
  simp only [List.mem_cons, List.not_mem_nil, or_false, Prod.mk.injEq] at hm
  rcases hm with ⟨rfl, rfl⟩ | ⟨rfl, rfl⟩ | ⟨rfl, rfl⟩
  · rcases hE with ⟨e, _⟩ | ⟨_, e⟩ | ⟨_, e⟩
    · exact absurd e h2
    · exact absurd e (by decide +kernel)
    · exact absurd e (by decide +kernel)
  · exact .inl rfl
  · exact .inr rfl
theorem es_die {k q : Int} {E : String} (hm : (k, E) ∈ [((-2 : Int), "java/lang/IndexOutOfBoundsException"), ((-3 : Int), "java/lang/UnsupportedOperationException")]) (hE : (q = -2 ∧ E = "java/lang/IndexOutOfBoundsException") ∨ (q = -3 ∧ E = "java/lang/IllegalArgumentException") ∨ (q = -4 ∧ E = "java/lang/UnsupportedOperationException")) (h2 : q ≠ -2) : k = -3 := by
  simp only [List.mem_cons, List.not_mem_nil, or_false, Prod.mk.injEq] at hm
  rcases hm with ⟨rfl, rfl⟩ | ⟨rfl, rfl⟩
  · rcases hE with ⟨e, _⟩ | ⟨_, e⟩ | ⟨_, e⟩
    · exact absurd e h2
    · exact absurd e (by decide +kernel)
    · exact absurd e (by decide +kernel)
  · rfl
theorem en_found {k : Int} {E : String} (hm : (k, E) ∈ [((-2 : Int), "java/lang/UnsupportedOperationException")]) : k = -2 := by
  simp only [List.mem_cons, List.not_mem_nil, or_false, Prod.mk.injEq] at hm
  exact hm.1
theorem en_2 {k : Int} {E : String} (hm : (k, E) ∈ [((-1 : Int), "java/lang/IndexOutOfBoundsException"), ((-2 : Int), "java/lang/UnsupportedOperationException")]) : k = -1 ∨ k = -2 := by
  simp only [List.mem_cons, List.not_mem_nil, or_false, Prod.mk.injEq] at hm
  exact hm.imp And.left And.left
theorem en_give {k : Int} {E : String} (hm : (k, E) ∈ [((-1 : Int), "java/lang/IndexOutOfBoundsException"), ((-2 : Int), "java/lang/IllegalArgumentException"), ((-3 : Int), "java/lang/UnsupportedOperationException")]) : k = -1 ∨ k = -2 ∨ k = -3 := by
  simp only [List.mem_cons, List.not_mem_nil, or_false, Prod.mk.injEq] at hm
  exact hm.imp And.left fun q => q.imp And.left And.left
theorem en_die {k : Int} {E : String} (hm : (k, E) ∈ [((-2 : Int), "java/lang/IndexOutOfBoundsException"), ((-3 : Int), "java/lang/UnsupportedOperationException")]) : k = -2 ∨ k = -3 := by
  simp only [List.mem_cons, List.not_mem_nil, or_false, Prod.mk.injEq] at hm
  exact hm.imp And.left And.left
theorem kFound_s {K : fS} {a b : Int} (h : -1 ≤ (kTry K 0 a b).1) : (kTry K 0 a b).2.2.2 6 0 = K 6 0 + 1 := by
  have e : kTry K 0 a b = kFound K := if_pos rfl
  rw [e] at h ⊢
  unfold kFound at h ⊢
  by_cases c : K 6 0 = 24
  · rw [if_pos c] at h
    exact absurd (show (-1 : Int) ≤ -4 from h) (by decide)
  · rw [if_neg c]
    rfl
theorem kFound_f {B : Int} {K : fS} {a b : Int} {E : String} (hI : kI B K) (h : ((kTry K 0 a b).1 = -2 ∧ E = "java/lang/IndexOutOfBoundsException") ∨ ((kTry K 0 a b).1 = -3 ∧ E = "java/lang/IllegalArgumentException") ∨ ((kTry K 0 a b).1 = -4 ∧ E = "java/lang/UnsupportedOperationException")) : K 6 0 = 24 := by
  have e : kTry K 0 a b = kFound K := if_pos rfl
  rw [e] at h
  refine Decidable.not_not.mp fun c => ?_
  unfold kFound at h
  rw [if_neg c] at h
  have := hI.1.n
  have h : K 6 0 = -2 ∨ K 6 0 = -3 ∨ K 6 0 = -4 := h.imp And.left fun q => q.imp And.left And.left
  omega

theorem kV_0 : kV kF0 := by
  refine ⟨fun p h => ?_, fun p h => ?_, fun z z0 z1 => ?_, fun p p0 => ?_⟩
  · exact absurd rfl h
  · rfl
  · exact absurd (show z < 0 from z1) (by omega)
  · show (-1 : Int) ≠ p; omega
abbrev nwD : List Nat := 0 :: 300 :: jnwX
set_option maxHeartbeats 16000000 in
theorem m_drawn {Ln : Nat} {xs : Nat → Int32} {h : jH} (hE : ∀ j, h j = none) (hL : Ln ≤ 2048) : jMF mL_drawn Ln xs 11 200 3200 nwD [.ref 150] h (fun r h' => r = some (.ref 0) ∧ ∃ B K P n, lC B K P n h' ∧ 0 < K 6 0 ∧ B ≤ 50000 ∧ ∀ j, 120 ≤ j → h' j = none) jno := by
  refine j_methodF (by decide +kernel) rfl (Nat.le_of_ble_eq_true rfl) ?_
  generalize hZ : jZ nwD 200 3200 _ _ = Z
  show J (pMe mL_drawn Ln xs) (jR 11 200 3200) nwD Z 0 [(0, .ref 150)] [] h 0 0
  refine j_new (k := 0) (ci := 4) (fs := [.null, .null, .null, iv 0, .null, iv 0, .null, .null, .null, .null, iv 0, iv 0, iv 0]) tyX4 dL_drawn_0 wd9e_78 wd9e_79 wd9e_47 rfl tyX4_ok (fun j hj => match j, hj with | 0, _ => rfl | 1, _ => rfl | 2, _ => rfl | 3, _ => rfl | 4, _ => rfl | 5, _ => rfl | 6, _ => rfl | 7, _ => rfl | 8, _ => rfl | 9, _ => rfl | 10, _ => rfl | 11, _ => rfl | 12, _ => rfl | n9 + 13, hj => absurd hj (by omega)) (jz0_of rfl) (hE 0) (by decide +kernel) (jfr_of rfl rfl) (show 0 + 1 ≤ 200 ∧ 0 + 13 ≤ 3200 by omega) ?_
  refine j_dup dL_drawn_3 rfl ?_
  refine j_callIA (fun _ _ _ q => q.1) (x_init (P := fun _ => kF0) jup_s (fun j j0 _ => jup_n (by omega) (hE j))) dL_drawn_4 jc_L_123 jmI_X4_init rfl rfl rfl rfl rfl (by decide +kernel) (jfr_of (by decide +kernel) (by decide +kernel)) (Nat.le_of_ble_eq_true rfl) ⟨Nat.le_of_ble_eq_true rfl, Nat.le_of_ble_eq_true rfl⟩ (show 0 + 1 + 91 ≤ 200 ∧ 0 + 13 + 1998 ≤ 3200 by omega) (fun r h1 hp9 => ?_)
  obtain ⟨rfl, hX1, hE1⟩ := hp9
  have hN1 : ∀ j, 120 ≤ j → h1 j = none := fun j j0 => (hE1 j (by omega)).trans (jup_n (by omega) (hE j))
  have hC1 : lC (1000 * 0) kF0 (fun _ => kF0) 0 h1 := ⟨⟨kI_0 ⟨by decide, by decide⟩, kV_0⟩, ⟨_, _, _, _, _, hX1, rfl, rfl, fun j => ⟨Int.le_refl _, by show (0 : Int) < 65536; decide⟩⟩, fun i a b => by omega, hN1 300 (by decide)⟩
  refine j_astore_n (L' := [(0, _), (1, _)]) dL_drawn_7 rfl (Nat.le_of_ble_eq_true rfl) rfl ?_
  refine j_aload_n dL_drawn_8 rfl rfl ?_
  refine j_iconst dL_drawn_9 ?_
  refine j_callSF (m_cell (i := 0) (by omega) hL) dL_drawn_10 jc_L_124 jmS_L_cell rfl (pNw.of rfl) rfl rfl (by simp) jfr_nil (Nat.le_of_ble_eq_true rfl) ⟨Nat.le_of_ble_eq_true rfl, Nat.le_of_ble_eq_true rfl⟩ (show 0 + 1 + 91 + 0 ≤ 200 ∧ 0 + 13 + 1998 + 0 ≤ 3200 by omega) (fun r h1 hp9 => ?_) (fun E h9 q => q.elim)
  obtain ⟨rfl, x2, rfl, hx2⟩ := hp9
  refine j_iconst dL_drawn_13 ?_
  refine j_iushr 1 ⟨by decide, by decide⟩ dL_drawn_14 (by decide +kernel) (fun z3 z3a z3b => ?_)
  refine j_istore_n (L' := [(0, _), (1, _), (2, _)]) dL_drawn_15 rfl (Nat.le_of_ble_eq_true rfl) rfl ?_
  refine j_iconst dL_drawn_16 ?_
  refine j_iload_n dL_drawn_17 rfl rfl ?_
  refine j_bipush dL_drawn_18 (by decide +kernel) ?_
  refine j_rem dL_drawn_20 (by omega) (by omega) (fun m4a m4b => ?_)
  generalize z3 % 40 = m4 at m4a m4b ⊢
  refine j_iadd dL_drawn_21 ?_
  refine j_istore_n (L' := [(0, _), (1, _), (2, _), (3, _)]) dL_drawn_22 rfl (Nat.le_of_ble_eq_true rfl) rfl ?_
  refine j_iconst dL_drawn_23 ?_
  refine j_istore (L' := [(0, _), (1, _), (2, _), (3, _), (4, _)]) dL_drawn_24 (Nat.le_of_ble_eq_true rfl) rfl ?_
  refine jloop (P := fun z9 : Int × fS × (Int → fS) × Int × jH × Nat × Nat => J (pMe mL_drawn Ln xs) (jR 11 200 3200) nwD Z 26 [(0, .ref 150), (1, .ref 0), (2, iv z3), (3, iv (5 + m4)), (4, iv z9.1)] [] z9.2.2.2.2.1 z9.2.2.2.2.2.1 z9.2.2.2.2.2.2) (fun z9 => (0 ≤ z9.1 ∧ z9.1 ≤ 5 + m4) ∧ lC (1000 * z9.1) z9.2.1 z9.2.2.1 z9.2.2.2.1 z9.2.2.2.2.1 ∧ (0 < z9.1 → 0 < z9.2.1 6 0) ∧ (∀ j, 120 ≤ j → z9.2.2.2.2.1 j = none) ∧ (z9.2.2.2.2.2.1 : Int) + 2 * (44 - z9.1) ≤ 180 ∧ z9.2.2.2.2.2.2 ≤ 2011 + 6 * z9.2.2.2.2.2.1) (fun z9 => (44 - z9.1).toNat) ?_ (0, kF0, fun _ => kF0, 0, h1, 0 + 1 + 91 + 0, 0 + 13 + 1998 + 0) ?_
  · rintro ⟨s9, K, P, n, hb, nc26, ns26⟩ hinv26 ih26
    dsimp only at hinv26 ih26 ⊢
    obtain ⟨i1, hbC, i3, hbN, b1, b2⟩ := hinv26
    obtain ⟨fsb, hOb⟩ := hbC.o
    have hn := hbC.n
    refine j_iload dL_drawn_26 rfl ?_
    refine j_iload_n dL_drawn_28 rfl rfl ?_
    refine j_icmp_ge (tgt := 411) dL_drawn_29 (by decide) (by omega) (fun c29 => ?_) (fun c29 => ?_)
    · refine j_aload_n dL_drawn_411 rfl rfl ?_
      subst hZ
      exact j_areturn dL_drawn_412 rfl (Or.inl ⟨_, rfl⟩) ⟨rfl, _, _, _, _, hbC, i3 (by omega), by omega, hbN⟩ (show nc26 ≤ 200 by omega) (show ns26 ≤ 3200 by omega)
    · refine j_aload_n dL_drawn_32 rfl rfl ?_
      refine j_iconst dL_drawn_33 ?_
      refine j_iload dL_drawn_34 rfl ?_
      refine j_iadd dL_drawn_36 ?_
      refine j_callSF (m_cell (i := 1 + s9) (by omega) hL) dL_drawn_37 jc_L_124 jmS_L_cell rfl (pNw.of rfl) rfl rfl (by simp) jfr_nil (Nat.le_of_ble_eq_true rfl) ⟨Nat.le_of_ble_eq_true rfl, Nat.le_of_ble_eq_true rfl⟩ (show nc26 + 0 ≤ 200 ∧ ns26 + 0 ≤ 3200 by omega) (fun r h5 hp9 => ?_) (fun E h9 q => q.elim)
      obtain ⟨rfl, x6, rfl, hx6⟩ := hp9
      refine j_iconst dL_drawn_40 ?_
      refine j_iushr 1 ⟨by decide, by decide⟩ dL_drawn_41 (by decide +kernel) (fun z7 z7a z7b => ?_)
      refine j_istore (L' := [(0, _), (1, _), (2, _), (3, _), (4, _), (5, _)]) dL_drawn_42 (Nat.le_of_ble_eq_true rfl) rfl ?_
      refine j_iload dL_drawn_44 rfl ?_
      refine j_iconst dL_drawn_46 ?_
      refine j_iushr 4 ⟨by decide, by decide⟩ dL_drawn_47 (by decide +kernel) (fun z8 z8a z8b => ?_)
      refine j_istore (L' := [(0, _), (1, _), (2, _), (3, _), (4, _), (5, _), (6, _)]) dL_drawn_48 (Nat.le_of_ble_eq_true rfl) rfl ?_
      refine j_aload_n dL_drawn_50 rfl rfl ?_
      refine j_iconst dL_drawn_51 ?_
      refine j_callV ((l_account hbC (w := 0) (by decide)).is acc_0) dL_drawn_52 jc_L_128 jmV_X4_account rfl rfl hOb rfl rfl (by simp) jfr_nil (Nat.le_of_ble_eq_true rfl) ⟨Nat.le_of_ble_eq_true rfl, Nat.le_of_ble_eq_true rfl⟩ (show nc26 + 0 + 1 ≤ 200 ∧ ns26 + 0 + 6 ≤ 3200 by omega) (fun r h9 hp9 => ?_) (fun E h9 q => q.elim)
      obtain ⟨rfl, rfl⟩ := hp9
      refine j_istore (L' := [(0, _), (1, _), (2, _), (3, _), (4, _), (5, _), (6, _), (7, _)]) dL_drawn_55 (Nat.le_of_ble_eq_true rfl) rfl ?_
      refine j_iload dL_drawn_57 rfl ?_
      refine j_if_ne (tgt := 66) dL_drawn_59 (by decide) (by omega) (fun c59 => ?_) (fun c59 => ?_)
      · refine j_iload dL_drawn_66 rfl ?_
        refine j_iload dL_drawn_68 rfl ?_
        refine j_rem dL_drawn_70 (by omega) (by omega) (fun m10a m10b => ?_)
        generalize z8 % (K 6 0) = m10 at m10a m10b ⊢
        refine j_istore (L' := [(0, _), (1, _), (2, _), (3, _), (4, _), (5, _), (6, _), (7, _), (8, _)]) dL_drawn_71 (Nat.le_of_ble_eq_true rfl) rfl ?_
        refine j_iload dL_drawn_73 rfl ?_
        refine j_if_ne (tgt := 82) dL_drawn_75 (by decide) (by omega) (fun c75 => ?_) (fun c75 => (False.elim (by omega)))
        refine j_iload dL_drawn_82 rfl ?_
        refine j_iconst dL_drawn_84 ?_
        refine j_iushr 5 ⟨by decide, by decide⟩ dL_drawn_85 (by decide +kernel) (fun z11 z11a z11b => ?_)
        refine j_iload dL_drawn_86 rfl ?_
        refine j_rem dL_drawn_88 (by omega) (by omega) (fun m12a m12b => ?_)
        generalize z11 % (K 6 0) = m12 at m12a m12b ⊢
        refine j_istore (L' := [(0, _), (1, _), (2, _), (3, _), (4, _), (5, _), (6, _), (7, _), (8, _), (9, _)]) dL_drawn_89 (Nat.le_of_ble_eq_true rfl) rfl ?_
        refine j_iload dL_drawn_91 rfl ?_
        refine j_iconst dL_drawn_93 ?_
        refine j_icmp_ge (tgt := 101) dL_drawn_94 (by decide) (by omega) (fun c94 => ?_) (fun c94 => ?_)
        · refine j_iload dL_drawn_101 rfl ?_
          refine j_bipush dL_drawn_103 (by decide +kernel) ?_
          refine j_rem dL_drawn_105 (by omega) (by omega) (fun m13a m13b => ?_)
          generalize z7 % 14 = m13 at m13a m13b ⊢
          by_cases c106 : m13 = 0
          · refine j_tabIn (tgt := 172) 0 dL_drawn_106 c106 (by decide) (by decide) (by decide) rfl (by decide) ?_
            refine j_aload_n dL_drawn_172 rfl rfl ?_
            refine j_callSW (l_found hbC  (by omega)) dL_drawn_173 jc_L_131 jmS_L_found (fun q => by cases q) rfl rfl (by decide) (jfr_of rfl rfl) (Nat.le_of_ble_eq_true rfl) ⟨Nat.le_of_ble_eq_true rfl, Nat.le_of_ble_eq_true rfl⟩ (show nc26 + 0 + 1 + 1 ≤ 200 ∧ ns26 + 0 + 6 + 6 ≤ 3200 by omega) (fun r h14 hp9 => ?_)
            obtain ⟨hs9, hq9⟩ := hp9
            rcases hq9 with ⟨rfl, hr9, hC9⟩ | ⟨k9, E9, rfl, hm9, hE9, hC9⟩
            · have hk6 := kTry_6 (K := K) 0 (-1) (-1)
              have hkn := kTry_ne hbC.1.1 (kd := 0) (a := (-1)) (b := (-1)) (by decide)
              have hk1 := kFound_s (K := K) (a := (-1)) (b := (-1)) hr9.1
              generalize hgq : kTry K 0 (-1) (-1) = q9 at *
              refine j_istore (L' := [(0, _), (1, _), (2, _), (3, _), (4, _), (5, _), (6, _), (7, _), (8, _), (9, _), (10, _)]) dL_drawn_176 (Nat.le_of_ble_eq_true rfl) rfl ?_
              refine j_iload dL_drawn_178 rfl ?_
              refine j_bipush dL_drawn_180 (by decide +kernel) ?_
              refine j_icmp_ne (tgt := 196) dL_drawn_182 (by decide) (by omega) (fun c182 => ?_) (fun c182 => (False.elim (by omega)))
              refine j_iconst dL_drawn_196 ?_
              refine j_istore (L' := [(0, _), (1, _), (2, _), (3, _), (4, _), (5, _), (6, _), (7, _), (8, _), (9, _), (10, _)]) dL_drawn_197 (Nat.le_of_ble_eq_true rfl) rfl ?_
              refine j_goto (tgt := 398) dL_drawn_199 (by decide) ?_
              refine j_iload dL_drawn_398 rfl ?_
              refine j_if_ge (tgt := 405) dL_drawn_400 (by decide) (by omega) (fun c400 => ?_) (fun c400 => (False.elim (by omega)))
              refine j_iinc (L' := [(0, _), (1, _), (2, _), (3, _), (4, _), (5, _), (6, _), (7, _), (8, _), (9, _), (10, _)]) dL_drawn_405 rfl (Nat.le_of_ble_eq_true rfl) rfl ?_
              refine j_goto (tgt := 26) dL_drawn_408 (by decide) ?_
              refine J.keep [0, 1, 2, 3, 4] (L' := [(0, _), (1, _), (2, _), (3, _), (4, _)]) rfl ?_
              refine ih26 (s9 + 1, q9.2.2.2, (xP n P K), (xN n), h14, nc26 + 0 + 1 + 1, ns26 + 0 + 6 + 6) ?_ ?_
              · dsimp only
                exact ⟨by omega, (by rw [show 1000 * (s9 + 1) = 1000 * s9 + 1000 by omega]; exact hC9), by omega, fun j j0 => (hs9 j j0).trans (hbN j j0), by omega, by omega⟩
              · dsimp only
                omega
            · have hk2 := kTry_2 hbC.1.1 (kd := 0) (a := (-1)) (b := (-1)) (.inl rfl) (fun _ => by omega)
              have hke := es_found hm9 hE9 hk2
              have hf9 := kFound_f hbC.1.1 hE9
              refine j_istore (L' := [(0, _), (1, _), (2, _), (3, _), (4, _), (5, _), (6, _), (7, _), (8, _), (9, _), (10, _)]) dL_drawn_176 (Nat.le_of_ble_eq_true rfl) rfl ?_
              refine j_iload dL_drawn_178 rfl ?_
              refine j_bipush dL_drawn_180 (by decide +kernel) ?_
              refine j_icmp_ne (tgt := 196) dL_drawn_182 (by decide) (by omega) (fun c182 => (False.elim (by omega))) (fun c182 => ?_)
              refine j_iload dL_drawn_185 rfl ?_
              refine j_bipush dL_drawn_187 (by decide +kernel) ?_
              refine j_icmp_ge (tgt := 196) dL_drawn_189 (by decide) (by omega) (fun c189 => ?_) (fun c189 => (False.elim (by omega)))
              refine j_iconst dL_drawn_196 ?_
              refine j_istore (L' := [(0, _), (1, _), (2, _), (3, _), (4, _), (5, _), (6, _), (7, _), (8, _), (9, _), (10, _)]) dL_drawn_197 (Nat.le_of_ble_eq_true rfl) rfl ?_
              refine j_goto (tgt := 398) dL_drawn_199 (by decide) ?_
              refine j_iload dL_drawn_398 rfl ?_
              refine j_if_ge (tgt := 405) dL_drawn_400 (by decide) (by omega) (fun c400 => ?_) (fun c400 => (False.elim (by omega)))
              refine j_iinc (L' := [(0, _), (1, _), (2, _), (3, _), (4, _), (5, _), (6, _), (7, _), (8, _), (9, _), (10, _)]) dL_drawn_405 rfl (Nat.le_of_ble_eq_true rfl) rfl ?_
              refine j_goto (tgt := 26) dL_drawn_408 (by decide) ?_
              refine J.keep [0, 1, 2, 3, 4] (L' := [(0, _), (1, _), (2, _), (3, _), (4, _)]) rfl ?_
              refine ih26 (s9 + 1, K, P, n, h14, nc26 + 0 + 1 + 1, ns26 + 0 + 6 + 6) ?_ ?_
              · dsimp only
                exact ⟨by omega, (by rw [show 1000 * (s9 + 1) = 1000 * s9 + 1000 by omega]; exact hC9), by omega, fun j j0 => (hs9 j j0).trans (hbN j j0), by omega, by omega⟩
              · dsimp only
                omega
          by_cases c106 : m13 = 1
          · refine j_tabIn (tgt := 172) 1 dL_drawn_106 c106 (by decide) (by decide) (by decide) rfl (by decide) ?_
            refine j_aload_n dL_drawn_172 rfl rfl ?_
            refine j_callSW (l_found hbC  (by omega)) dL_drawn_173 jc_L_131 jmS_L_found (fun q => by cases q) rfl rfl (by decide) (jfr_of rfl rfl) (Nat.le_of_ble_eq_true rfl) ⟨Nat.le_of_ble_eq_true rfl, Nat.le_of_ble_eq_true rfl⟩ (show nc26 + 0 + 1 + 1 ≤ 200 ∧ ns26 + 0 + 6 + 6 ≤ 3200 by omega) (fun r h15 hp9 => ?_)
            obtain ⟨hs9, hq9⟩ := hp9
            rcases hq9 with ⟨rfl, hr9, hC9⟩ | ⟨k9, E9, rfl, hm9, hE9, hC9⟩
            · have hk6 := kTry_6 (K := K) 0 (-1) (-1)
              have hkn := kTry_ne hbC.1.1 (kd := 0) (a := (-1)) (b := (-1)) (by decide)
              have hk1 := kFound_s (K := K) (a := (-1)) (b := (-1)) hr9.1
              generalize hgq : kTry K 0 (-1) (-1) = q9 at *
              refine j_istore (L' := [(0, _), (1, _), (2, _), (3, _), (4, _), (5, _), (6, _), (7, _), (8, _), (9, _), (10, _)]) dL_drawn_176 (Nat.le_of_ble_eq_true rfl) rfl ?_
              refine j_iload dL_drawn_178 rfl ?_
              refine j_bipush dL_drawn_180 (by decide +kernel) ?_
              refine j_icmp_ne (tgt := 196) dL_drawn_182 (by decide) (by omega) (fun c182 => ?_) (fun c182 => (False.elim (by omega)))
              refine j_iconst dL_drawn_196 ?_
              refine j_istore (L' := [(0, _), (1, _), (2, _), (3, _), (4, _), (5, _), (6, _), (7, _), (8, _), (9, _), (10, _)]) dL_drawn_197 (Nat.le_of_ble_eq_true rfl) rfl ?_
              refine j_goto (tgt := 398) dL_drawn_199 (by decide) ?_
              refine j_iload dL_drawn_398 rfl ?_
              refine j_if_ge (tgt := 405) dL_drawn_400 (by decide) (by omega) (fun c400 => ?_) (fun c400 => (False.elim (by omega)))
              refine j_iinc (L' := [(0, _), (1, _), (2, _), (3, _), (4, _), (5, _), (6, _), (7, _), (8, _), (9, _), (10, _)]) dL_drawn_405 rfl (Nat.le_of_ble_eq_true rfl) rfl ?_
              refine j_goto (tgt := 26) dL_drawn_408 (by decide) ?_
              refine J.keep [0, 1, 2, 3, 4] (L' := [(0, _), (1, _), (2, _), (3, _), (4, _)]) rfl ?_
              refine ih26 (s9 + 1, q9.2.2.2, (xP n P K), (xN n), h15, nc26 + 0 + 1 + 1, ns26 + 0 + 6 + 6) ?_ ?_
              · dsimp only
                exact ⟨by omega, (by rw [show 1000 * (s9 + 1) = 1000 * s9 + 1000 by omega]; exact hC9), by omega, fun j j0 => (hs9 j j0).trans (hbN j j0), by omega, by omega⟩
              · dsimp only
                omega
            · have hk2 := kTry_2 hbC.1.1 (kd := 0) (a := (-1)) (b := (-1)) (.inl rfl) (fun _ => by omega)
              have hke := es_found hm9 hE9 hk2
              have hf9 := kFound_f hbC.1.1 hE9
              refine j_istore (L' := [(0, _), (1, _), (2, _), (3, _), (4, _), (5, _), (6, _), (7, _), (8, _), (9, _), (10, _)]) dL_drawn_176 (Nat.le_of_ble_eq_true rfl) rfl ?_
              refine j_iload dL_drawn_178 rfl ?_
              refine j_bipush dL_drawn_180 (by decide +kernel) ?_
              refine j_icmp_ne (tgt := 196) dL_drawn_182 (by decide) (by omega) (fun c182 => (False.elim (by omega))) (fun c182 => ?_)
              refine j_iload dL_drawn_185 rfl ?_
              refine j_bipush dL_drawn_187 (by decide +kernel) ?_
              refine j_icmp_ge (tgt := 196) dL_drawn_189 (by decide) (by omega) (fun c189 => ?_) (fun c189 => (False.elim (by omega)))
              refine j_iconst dL_drawn_196 ?_
              refine j_istore (L' := [(0, _), (1, _), (2, _), (3, _), (4, _), (5, _), (6, _), (7, _), (8, _), (9, _), (10, _)]) dL_drawn_197 (Nat.le_of_ble_eq_true rfl) rfl ?_
              refine j_goto (tgt := 398) dL_drawn_199 (by decide) ?_
              refine j_iload dL_drawn_398 rfl ?_
              refine j_if_ge (tgt := 405) dL_drawn_400 (by decide) (by omega) (fun c400 => ?_) (fun c400 => (False.elim (by omega)))
              refine j_iinc (L' := [(0, _), (1, _), (2, _), (3, _), (4, _), (5, _), (6, _), (7, _), (8, _), (9, _), (10, _)]) dL_drawn_405 rfl (Nat.le_of_ble_eq_true rfl) rfl ?_
              refine j_goto (tgt := 26) dL_drawn_408 (by decide) ?_
              refine J.keep [0, 1, 2, 3, 4] (L' := [(0, _), (1, _), (2, _), (3, _), (4, _)]) rfl ?_
              refine ih26 (s9 + 1, K, P, n, h15, nc26 + 0 + 1 + 1, ns26 + 0 + 6 + 6) ?_ ?_
              · dsimp only
                exact ⟨by omega, (by rw [show 1000 * (s9 + 1) = 1000 * s9 + 1000 by omega]; exact hC9), by omega, fun j j0 => (hs9 j j0).trans (hbN j j0), by omega, by omega⟩
              · dsimp only
                omega
          by_cases c106 : m13 = 2
          · refine j_tabIn (tgt := 202) 2 dL_drawn_106 c106 (by decide) (by decide) (by decide) rfl (by decide) ?_
            refine j_aload_n dL_drawn_202 rfl rfl ?_
            refine j_iload dL_drawn_203 rfl ?_
            refine j_callSW (l_born hbC (p := m10) (by omega) (by omega)) dL_drawn_205 jc_L_133 jmS_L_born (fun q => by cases q) rfl rfl (by decide) (jfr_of rfl rfl) (Nat.le_of_ble_eq_true rfl) ⟨Nat.le_of_ble_eq_true rfl, Nat.le_of_ble_eq_true rfl⟩ (show nc26 + 0 + 1 + 1 ≤ 200 ∧ ns26 + 0 + 6 + 6 ≤ 3200 by omega) (fun r h16 hp9 => ?_)
            obtain ⟨hs9, hq9⟩ := hp9
            rcases hq9 with ⟨rfl, hr9, hC9⟩ | ⟨k9, E9, rfl, hm9, hE9, hC9⟩
            · have hk6 := kTry_6 (K := K) 1 m10 (-1)
              have hkn := kTry_ne hbC.1.1 (kd := 1) (a := m10) (b := (-1)) (by decide)
              generalize hgq : kTry K 1 m10 (-1) = q9 at *
              refine j_iconst dL_drawn_208 ?_
              refine j_icmp_ne (tgt := 216) dL_drawn_209 (by decide) (by omega) (fun c209 => ?_) (fun c209 => (False.elim (by omega)))
              refine j_iconst dL_drawn_216 ?_
              refine j_istore (L' := [(0, _), (1, _), (2, _), (3, _), (4, _), (5, _), (6, _), (7, _), (8, _), (9, _), (10, _)]) dL_drawn_217 (Nat.le_of_ble_eq_true rfl) rfl ?_
              refine j_goto (tgt := 398) dL_drawn_219 (by decide) ?_
              refine j_iload dL_drawn_398 rfl ?_
              refine j_if_ge (tgt := 405) dL_drawn_400 (by decide) (by omega) (fun c400 => ?_) (fun c400 => (False.elim (by omega)))
              refine j_iinc (L' := [(0, _), (1, _), (2, _), (3, _), (4, _), (5, _), (6, _), (7, _), (8, _), (9, _), (10, _)]) dL_drawn_405 rfl (Nat.le_of_ble_eq_true rfl) rfl ?_
              refine j_goto (tgt := 26) dL_drawn_408 (by decide) ?_
              refine J.keep [0, 1, 2, 3, 4] (L' := [(0, _), (1, _), (2, _), (3, _), (4, _)]) rfl ?_
              refine ih26 (s9 + 1, q9.2.2.2, (xP n P K), (xN n), h16, nc26 + 0 + 1 + 1, ns26 + 0 + 6 + 6) ?_ ?_
              · dsimp only
                exact ⟨by omega, (by rw [show 1000 * (s9 + 1) = 1000 * s9 + 1000 by omega]; exact hC9), by omega, fun j j0 => (hs9 j j0).trans (hbN j j0), by omega, by omega⟩
              · dsimp only
                omega
            · have hk2 := kTry_2 hbC.1.1 (kd := 1) (a := m10) (b := (-1)) (.inr (by omega)) (fun _ => by omega)
              have hke := es_2 hm9 hE9 hk2
              refine j_iconst dL_drawn_208 ?_
              refine j_icmp_ne (tgt := 216) dL_drawn_209 (by decide) (by omega) (fun c209 => ?_) (fun c209 => (False.elim (by omega)))
              refine j_iconst dL_drawn_216 ?_
              refine j_istore (L' := [(0, _), (1, _), (2, _), (3, _), (4, _), (5, _), (6, _), (7, _), (8, _), (9, _), (10, _)]) dL_drawn_217 (Nat.le_of_ble_eq_true rfl) rfl ?_
              refine j_goto (tgt := 398) dL_drawn_219 (by decide) ?_
              refine j_iload dL_drawn_398 rfl ?_
              refine j_if_ge (tgt := 405) dL_drawn_400 (by decide) (by omega) (fun c400 => ?_) (fun c400 => (False.elim (by omega)))
              refine j_iinc (L' := [(0, _), (1, _), (2, _), (3, _), (4, _), (5, _), (6, _), (7, _), (8, _), (9, _), (10, _)]) dL_drawn_405 rfl (Nat.le_of_ble_eq_true rfl) rfl ?_
              refine j_goto (tgt := 26) dL_drawn_408 (by decide) ?_
              refine J.keep [0, 1, 2, 3, 4] (L' := [(0, _), (1, _), (2, _), (3, _), (4, _)]) rfl ?_
              refine ih26 (s9 + 1, K, P, n, h16, nc26 + 0 + 1 + 1, ns26 + 0 + 6 + 6) ?_ ?_
              · dsimp only
                exact ⟨by omega, (by rw [show 1000 * (s9 + 1) = 1000 * s9 + 1000 by omega]; exact hC9), by omega, fun j j0 => (hs9 j j0).trans (hbN j j0), by omega, by omega⟩
              · dsimp only
                omega
          by_cases c106 : m13 = 3
          · refine j_tabIn (tgt := 202) 3 dL_drawn_106 c106 (by decide) (by decide) (by decide) rfl (by decide) ?_
            refine j_aload_n dL_drawn_202 rfl rfl ?_
            refine j_iload dL_drawn_203 rfl ?_
            refine j_callSW (l_born hbC (p := m10) (by omega) (by omega)) dL_drawn_205 jc_L_133 jmS_L_born (fun q => by cases q) rfl rfl (by decide) (jfr_of rfl rfl) (Nat.le_of_ble_eq_true rfl) ⟨Nat.le_of_ble_eq_true rfl, Nat.le_of_ble_eq_true rfl⟩ (show nc26 + 0 + 1 + 1 ≤ 200 ∧ ns26 + 0 + 6 + 6 ≤ 3200 by omega) (fun r h17 hp9 => ?_)
            obtain ⟨hs9, hq9⟩ := hp9
            rcases hq9 with ⟨rfl, hr9, hC9⟩ | ⟨k9, E9, rfl, hm9, hE9, hC9⟩
            · have hk6 := kTry_6 (K := K) 1 m10 (-1)
              have hkn := kTry_ne hbC.1.1 (kd := 1) (a := m10) (b := (-1)) (by decide)
              generalize hgq : kTry K 1 m10 (-1) = q9 at *
              refine j_iconst dL_drawn_208 ?_
              refine j_icmp_ne (tgt := 216) dL_drawn_209 (by decide) (by omega) (fun c209 => ?_) (fun c209 => (False.elim (by omega)))
              refine j_iconst dL_drawn_216 ?_
              refine j_istore (L' := [(0, _), (1, _), (2, _), (3, _), (4, _), (5, _), (6, _), (7, _), (8, _), (9, _), (10, _)]) dL_drawn_217 (Nat.le_of_ble_eq_true rfl) rfl ?_
              refine j_goto (tgt := 398) dL_drawn_219 (by decide) ?_
              refine j_iload dL_drawn_398 rfl ?_
              refine j_if_ge (tgt := 405) dL_drawn_400 (by decide) (by omega) (fun c400 => ?_) (fun c400 => (False.elim (by omega)))
              refine j_iinc (L' := [(0, _), (1, _), (2, _), (3, _), (4, _), (5, _), (6, _), (7, _), (8, _), (9, _), (10, _)]) dL_drawn_405 rfl (Nat.le_of_ble_eq_true rfl) rfl ?_
              refine j_goto (tgt := 26) dL_drawn_408 (by decide) ?_
              refine J.keep [0, 1, 2, 3, 4] (L' := [(0, _), (1, _), (2, _), (3, _), (4, _)]) rfl ?_
              refine ih26 (s9 + 1, q9.2.2.2, (xP n P K), (xN n), h17, nc26 + 0 + 1 + 1, ns26 + 0 + 6 + 6) ?_ ?_
              · dsimp only
                exact ⟨by omega, (by rw [show 1000 * (s9 + 1) = 1000 * s9 + 1000 by omega]; exact hC9), by omega, fun j j0 => (hs9 j j0).trans (hbN j j0), by omega, by omega⟩
              · dsimp only
                omega
            · have hk2 := kTry_2 hbC.1.1 (kd := 1) (a := m10) (b := (-1)) (.inr (by omega)) (fun _ => by omega)
              have hke := es_2 hm9 hE9 hk2
              refine j_iconst dL_drawn_208 ?_
              refine j_icmp_ne (tgt := 216) dL_drawn_209 (by decide) (by omega) (fun c209 => ?_) (fun c209 => (False.elim (by omega)))
              refine j_iconst dL_drawn_216 ?_
              refine j_istore (L' := [(0, _), (1, _), (2, _), (3, _), (4, _), (5, _), (6, _), (7, _), (8, _), (9, _), (10, _)]) dL_drawn_217 (Nat.le_of_ble_eq_true rfl) rfl ?_
              refine j_goto (tgt := 398) dL_drawn_219 (by decide) ?_
              refine j_iload dL_drawn_398 rfl ?_
              refine j_if_ge (tgt := 405) dL_drawn_400 (by decide) (by omega) (fun c400 => ?_) (fun c400 => (False.elim (by omega)))
              refine j_iinc (L' := [(0, _), (1, _), (2, _), (3, _), (4, _), (5, _), (6, _), (7, _), (8, _), (9, _), (10, _)]) dL_drawn_405 rfl (Nat.le_of_ble_eq_true rfl) rfl ?_
              refine j_goto (tgt := 26) dL_drawn_408 (by decide) ?_
              refine J.keep [0, 1, 2, 3, 4] (L' := [(0, _), (1, _), (2, _), (3, _), (4, _)]) rfl ?_
              refine ih26 (s9 + 1, K, P, n, h17, nc26 + 0 + 1 + 1, ns26 + 0 + 6 + 6) ?_ ?_
              · dsimp only
                exact ⟨by omega, (by rw [show 1000 * (s9 + 1) = 1000 * s9 + 1000 by omega]; exact hC9), by omega, fun j j0 => (hs9 j j0).trans (hbN j j0), by omega, by omega⟩
              · dsimp only
                omega
          by_cases c106 : m13 = 4
          · refine j_tabIn (tgt := 202) 4 dL_drawn_106 c106 (by decide) (by decide) (by decide) rfl (by decide) ?_
            refine j_aload_n dL_drawn_202 rfl rfl ?_
            refine j_iload dL_drawn_203 rfl ?_
            refine j_callSW (l_born hbC (p := m10) (by omega) (by omega)) dL_drawn_205 jc_L_133 jmS_L_born (fun q => by cases q) rfl rfl (by decide) (jfr_of rfl rfl) (Nat.le_of_ble_eq_true rfl) ⟨Nat.le_of_ble_eq_true rfl, Nat.le_of_ble_eq_true rfl⟩ (show nc26 + 0 + 1 + 1 ≤ 200 ∧ ns26 + 0 + 6 + 6 ≤ 3200 by omega) (fun r h18 hp9 => ?_)
            obtain ⟨hs9, hq9⟩ := hp9
            rcases hq9 with ⟨rfl, hr9, hC9⟩ | ⟨k9, E9, rfl, hm9, hE9, hC9⟩
            · have hk6 := kTry_6 (K := K) 1 m10 (-1)
              have hkn := kTry_ne hbC.1.1 (kd := 1) (a := m10) (b := (-1)) (by decide)
              generalize hgq : kTry K 1 m10 (-1) = q9 at *
              refine j_iconst dL_drawn_208 ?_
              refine j_icmp_ne (tgt := 216) dL_drawn_209 (by decide) (by omega) (fun c209 => ?_) (fun c209 => (False.elim (by omega)))
              refine j_iconst dL_drawn_216 ?_
              refine j_istore (L' := [(0, _), (1, _), (2, _), (3, _), (4, _), (5, _), (6, _), (7, _), (8, _), (9, _), (10, _)]) dL_drawn_217 (Nat.le_of_ble_eq_true rfl) rfl ?_
              refine j_goto (tgt := 398) dL_drawn_219 (by decide) ?_
              refine j_iload dL_drawn_398 rfl ?_
              refine j_if_ge (tgt := 405) dL_drawn_400 (by decide) (by omega) (fun c400 => ?_) (fun c400 => (False.elim (by omega)))
              refine j_iinc (L' := [(0, _), (1, _), (2, _), (3, _), (4, _), (5, _), (6, _), (7, _), (8, _), (9, _), (10, _)]) dL_drawn_405 rfl (Nat.le_of_ble_eq_true rfl) rfl ?_
              refine j_goto (tgt := 26) dL_drawn_408 (by decide) ?_
              refine J.keep [0, 1, 2, 3, 4] (L' := [(0, _), (1, _), (2, _), (3, _), (4, _)]) rfl ?_
              refine ih26 (s9 + 1, q9.2.2.2, (xP n P K), (xN n), h18, nc26 + 0 + 1 + 1, ns26 + 0 + 6 + 6) ?_ ?_
              · dsimp only
                exact ⟨by omega, (by rw [show 1000 * (s9 + 1) = 1000 * s9 + 1000 by omega]; exact hC9), by omega, fun j j0 => (hs9 j j0).trans (hbN j j0), by omega, by omega⟩
              · dsimp only
                omega
            · have hk2 := kTry_2 hbC.1.1 (kd := 1) (a := m10) (b := (-1)) (.inr (by omega)) (fun _ => by omega)
              have hke := es_2 hm9 hE9 hk2
              refine j_iconst dL_drawn_208 ?_
              refine j_icmp_ne (tgt := 216) dL_drawn_209 (by decide) (by omega) (fun c209 => ?_) (fun c209 => (False.elim (by omega)))
              refine j_iconst dL_drawn_216 ?_
              refine j_istore (L' := [(0, _), (1, _), (2, _), (3, _), (4, _), (5, _), (6, _), (7, _), (8, _), (9, _), (10, _)]) dL_drawn_217 (Nat.le_of_ble_eq_true rfl) rfl ?_
              refine j_goto (tgt := 398) dL_drawn_219 (by decide) ?_
              refine j_iload dL_drawn_398 rfl ?_
              refine j_if_ge (tgt := 405) dL_drawn_400 (by decide) (by omega) (fun c400 => ?_) (fun c400 => (False.elim (by omega)))
              refine j_iinc (L' := [(0, _), (1, _), (2, _), (3, _), (4, _), (5, _), (6, _), (7, _), (8, _), (9, _), (10, _)]) dL_drawn_405 rfl (Nat.le_of_ble_eq_true rfl) rfl ?_
              refine j_goto (tgt := 26) dL_drawn_408 (by decide) ?_
              refine J.keep [0, 1, 2, 3, 4] (L' := [(0, _), (1, _), (2, _), (3, _), (4, _)]) rfl ?_
              refine ih26 (s9 + 1, K, P, n, h18, nc26 + 0 + 1 + 1, ns26 + 0 + 6 + 6) ?_ ?_
              · dsimp only
                exact ⟨by omega, (by rw [show 1000 * (s9 + 1) = 1000 * s9 + 1000 by omega]; exact hC9), by omega, fun j j0 => (hs9 j j0).trans (hbN j j0), by omega, by omega⟩
              · dsimp only
                omega
          by_cases c106 : m13 = 5
          · refine j_tabIn (tgt := 202) 5 dL_drawn_106 c106 (by decide) (by decide) (by decide) rfl (by decide) ?_
            refine j_aload_n dL_drawn_202 rfl rfl ?_
            refine j_iload dL_drawn_203 rfl ?_
            refine j_callSW (l_born hbC (p := m10) (by omega) (by omega)) dL_drawn_205 jc_L_133 jmS_L_born (fun q => by cases q) rfl rfl (by decide) (jfr_of rfl rfl) (Nat.le_of_ble_eq_true rfl) ⟨Nat.le_of_ble_eq_true rfl, Nat.le_of_ble_eq_true rfl⟩ (show nc26 + 0 + 1 + 1 ≤ 200 ∧ ns26 + 0 + 6 + 6 ≤ 3200 by omega) (fun r h19 hp9 => ?_)
            obtain ⟨hs9, hq9⟩ := hp9
            rcases hq9 with ⟨rfl, hr9, hC9⟩ | ⟨k9, E9, rfl, hm9, hE9, hC9⟩
            · have hk6 := kTry_6 (K := K) 1 m10 (-1)
              have hkn := kTry_ne hbC.1.1 (kd := 1) (a := m10) (b := (-1)) (by decide)
              generalize hgq : kTry K 1 m10 (-1) = q9 at *
              refine j_iconst dL_drawn_208 ?_
              refine j_icmp_ne (tgt := 216) dL_drawn_209 (by decide) (by omega) (fun c209 => ?_) (fun c209 => (False.elim (by omega)))
              refine j_iconst dL_drawn_216 ?_
              refine j_istore (L' := [(0, _), (1, _), (2, _), (3, _), (4, _), (5, _), (6, _), (7, _), (8, _), (9, _), (10, _)]) dL_drawn_217 (Nat.le_of_ble_eq_true rfl) rfl ?_
              refine j_goto (tgt := 398) dL_drawn_219 (by decide) ?_
              refine j_iload dL_drawn_398 rfl ?_
              refine j_if_ge (tgt := 405) dL_drawn_400 (by decide) (by omega) (fun c400 => ?_) (fun c400 => (False.elim (by omega)))
              refine j_iinc (L' := [(0, _), (1, _), (2, _), (3, _), (4, _), (5, _), (6, _), (7, _), (8, _), (9, _), (10, _)]) dL_drawn_405 rfl (Nat.le_of_ble_eq_true rfl) rfl ?_
              refine j_goto (tgt := 26) dL_drawn_408 (by decide) ?_
              refine J.keep [0, 1, 2, 3, 4] (L' := [(0, _), (1, _), (2, _), (3, _), (4, _)]) rfl ?_
              refine ih26 (s9 + 1, q9.2.2.2, (xP n P K), (xN n), h19, nc26 + 0 + 1 + 1, ns26 + 0 + 6 + 6) ?_ ?_
              · dsimp only
                exact ⟨by omega, (by rw [show 1000 * (s9 + 1) = 1000 * s9 + 1000 by omega]; exact hC9), by omega, fun j j0 => (hs9 j j0).trans (hbN j j0), by omega, by omega⟩
              · dsimp only
                omega
            · have hk2 := kTry_2 hbC.1.1 (kd := 1) (a := m10) (b := (-1)) (.inr (by omega)) (fun _ => by omega)
              have hke := es_2 hm9 hE9 hk2
              refine j_iconst dL_drawn_208 ?_
              refine j_icmp_ne (tgt := 216) dL_drawn_209 (by decide) (by omega) (fun c209 => ?_) (fun c209 => (False.elim (by omega)))
              refine j_iconst dL_drawn_216 ?_
              refine j_istore (L' := [(0, _), (1, _), (2, _), (3, _), (4, _), (5, _), (6, _), (7, _), (8, _), (9, _), (10, _)]) dL_drawn_217 (Nat.le_of_ble_eq_true rfl) rfl ?_
              refine j_goto (tgt := 398) dL_drawn_219 (by decide) ?_
              refine j_iload dL_drawn_398 rfl ?_
              refine j_if_ge (tgt := 405) dL_drawn_400 (by decide) (by omega) (fun c400 => ?_) (fun c400 => (False.elim (by omega)))
              refine j_iinc (L' := [(0, _), (1, _), (2, _), (3, _), (4, _), (5, _), (6, _), (7, _), (8, _), (9, _), (10, _)]) dL_drawn_405 rfl (Nat.le_of_ble_eq_true rfl) rfl ?_
              refine j_goto (tgt := 26) dL_drawn_408 (by decide) ?_
              refine J.keep [0, 1, 2, 3, 4] (L' := [(0, _), (1, _), (2, _), (3, _), (4, _)]) rfl ?_
              refine ih26 (s9 + 1, K, P, n, h19, nc26 + 0 + 1 + 1, ns26 + 0 + 6 + 6) ?_ ?_
              · dsimp only
                exact ⟨by omega, (by rw [show 1000 * (s9 + 1) = 1000 * s9 + 1000 by omega]; exact hC9), by omega, fun j j0 => (hs9 j j0).trans (hbN j j0), by omega, by omega⟩
              · dsimp only
                omega
          by_cases c106 : m13 = 6
          · refine j_tabIn (tgt := 222) 6 dL_drawn_106 c106 (by decide) (by decide) (by decide) rfl (by decide) ?_
            refine j_aload_n dL_drawn_222 rfl rfl ?_
            refine j_iload dL_drawn_223 rfl ?_
            refine j_iload dL_drawn_225 rfl ?_
            refine j_callSW (l_graft hbC (p := m10) (o := m12) (by omega) (by omega) (by omega)) dL_drawn_227 jc_L_136 jmS_L_graft (fun q => by cases q) rfl rfl (by decide) (jfr_of rfl rfl) (Nat.le_of_ble_eq_true rfl) ⟨Nat.le_of_ble_eq_true rfl, Nat.le_of_ble_eq_true rfl⟩ (show nc26 + 0 + 1 + 1 ≤ 200 ∧ ns26 + 0 + 6 + 6 ≤ 3200 by omega) (fun r h20 hp9 => ?_)
            obtain ⟨hs9, hq9⟩ := hp9
            rcases hq9 with ⟨rfl, hr9, hC9⟩ | ⟨k9, E9, rfl, hm9, hE9, hC9⟩
            · have hk6 := kTry_6 (K := K) 2 m10 m12
              have hkn := kTry_ne hbC.1.1 (kd := 2) (a := m10) (b := m12) (by decide)
              generalize hgq : kTry K 2 m10 m12 = q9 at *
              refine j_iconst dL_drawn_230 ?_
              refine j_icmp_ne (tgt := 238) dL_drawn_231 (by decide) (by omega) (fun c231 => ?_) (fun c231 => (False.elim (by omega)))
              refine j_iconst dL_drawn_238 ?_
              refine j_istore (L' := [(0, _), (1, _), (2, _), (3, _), (4, _), (5, _), (6, _), (7, _), (8, _), (9, _), (10, _)]) dL_drawn_239 (Nat.le_of_ble_eq_true rfl) rfl ?_
              refine j_goto (tgt := 398) dL_drawn_241 (by decide) ?_
              refine j_iload dL_drawn_398 rfl ?_
              refine j_if_ge (tgt := 405) dL_drawn_400 (by decide) (by omega) (fun c400 => ?_) (fun c400 => (False.elim (by omega)))
              refine j_iinc (L' := [(0, _), (1, _), (2, _), (3, _), (4, _), (5, _), (6, _), (7, _), (8, _), (9, _), (10, _)]) dL_drawn_405 rfl (Nat.le_of_ble_eq_true rfl) rfl ?_
              refine j_goto (tgt := 26) dL_drawn_408 (by decide) ?_
              refine J.keep [0, 1, 2, 3, 4] (L' := [(0, _), (1, _), (2, _), (3, _), (4, _)]) rfl ?_
              refine ih26 (s9 + 1, q9.2.2.2, (xP n P K), (xN n), h20, nc26 + 0 + 1 + 1, ns26 + 0 + 6 + 6) ?_ ?_
              · dsimp only
                exact ⟨by omega, (by rw [show 1000 * (s9 + 1) = 1000 * s9 + 1000 by omega]; exact hC9), by omega, fun j j0 => (hs9 j j0).trans (hbN j j0), by omega, by omega⟩
              · dsimp only
                omega
            · have hk2 := kTry_2 hbC.1.1 (kd := 2) (a := m10) (b := m12) (.inr (by omega)) (fun _ => by omega)
              have hke := es_2 hm9 hE9 hk2
              refine j_iconst dL_drawn_230 ?_
              refine j_icmp_ne (tgt := 238) dL_drawn_231 (by decide) (by omega) (fun c231 => ?_) (fun c231 => (False.elim (by omega)))
              refine j_iconst dL_drawn_238 ?_
              refine j_istore (L' := [(0, _), (1, _), (2, _), (3, _), (4, _), (5, _), (6, _), (7, _), (8, _), (9, _), (10, _)]) dL_drawn_239 (Nat.le_of_ble_eq_true rfl) rfl ?_
              refine j_goto (tgt := 398) dL_drawn_241 (by decide) ?_
              refine j_iload dL_drawn_398 rfl ?_
              refine j_if_ge (tgt := 405) dL_drawn_400 (by decide) (by omega) (fun c400 => ?_) (fun c400 => (False.elim (by omega)))
              refine j_iinc (L' := [(0, _), (1, _), (2, _), (3, _), (4, _), (5, _), (6, _), (7, _), (8, _), (9, _), (10, _)]) dL_drawn_405 rfl (Nat.le_of_ble_eq_true rfl) rfl ?_
              refine j_goto (tgt := 26) dL_drawn_408 (by decide) ?_
              refine J.keep [0, 1, 2, 3, 4] (L' := [(0, _), (1, _), (2, _), (3, _), (4, _)]) rfl ?_
              refine ih26 (s9 + 1, K, P, n, h20, nc26 + 0 + 1 + 1, ns26 + 0 + 6 + 6) ?_ ?_
              · dsimp only
                exact ⟨by omega, (by rw [show 1000 * (s9 + 1) = 1000 * s9 + 1000 by omega]; exact hC9), by omega, fun j j0 => (hs9 j j0).trans (hbN j j0), by omega, by omega⟩
              · dsimp only
                omega
          by_cases c106 : m13 = 7
          · refine j_tabIn (tgt := 244) 7 dL_drawn_106 c106 (by decide) (by decide) (by decide) rfl (by decide) ?_
            refine j_iload dL_drawn_244 rfl ?_
            refine j_iconst dL_drawn_246 ?_
            refine j_rem dL_drawn_247 (by omega) (by omega) (fun m21a m21b => ?_)
            generalize z8 % 3 = m21 at m21a m21b ⊢
            refine j_if_ne (tgt := 265) dL_drawn_248 (by decide) (by omega) (fun c248 => ?_) (fun c248 => ?_)
            · refine j_iconst dL_drawn_265 ?_
              refine j_istore (L' := [(0, _), (1, _), (2, _), (3, _), (4, _), (5, _), (6, _), (7, _), (8, _), (9, _), (10, _)]) dL_drawn_266 (Nat.le_of_ble_eq_true rfl) rfl ?_
              refine j_goto (tgt := 398) dL_drawn_268 (by decide) ?_
              refine j_iload dL_drawn_398 rfl ?_
              refine j_if_ge (tgt := 405) dL_drawn_400 (by decide) (by omega) (fun c400 => ?_) (fun c400 => (False.elim (by omega)))
              refine j_iinc (L' := [(0, _), (1, _), (2, _), (3, _), (4, _), (5, _), (6, _), (7, _), (8, _), (9, _), (10, _)]) dL_drawn_405 rfl (Nat.le_of_ble_eq_true rfl) rfl ?_
              refine j_goto (tgt := 26) dL_drawn_408 (by decide) ?_
              refine J.keep [0, 1, 2, 3, 4] (L' := [(0, _), (1, _), (2, _), (3, _), (4, _)]) rfl ?_
              refine ih26 (s9 + 1, K, P, n, hb, nc26 + 0 + 1, ns26 + 0 + 6) ?_ ?_
              · dsimp only
                exact ⟨by omega, (hbC.b (B' := 1000 * (s9 + 1)) (by omega)), by omega, hbN, by omega, by omega⟩
              · dsimp only
                omega
            · refine j_aload_n dL_drawn_251 rfl rfl ?_
              refine j_iload dL_drawn_252 rfl ?_
              refine j_callSW (l_cut hbC (p := m10) (by omega) (by omega)) dL_drawn_254 jc_L_139 jmS_L_cut (fun q => by cases q) rfl rfl (by decide) (jfr_of rfl rfl) (Nat.le_of_ble_eq_true rfl) ⟨Nat.le_of_ble_eq_true rfl, Nat.le_of_ble_eq_true rfl⟩ (show nc26 + 0 + 1 + 1 ≤ 200 ∧ ns26 + 0 + 6 + 6 ≤ 3200 by omega) (fun r h22 hp9 => ?_)
              obtain ⟨hs9, hq9⟩ := hp9
              rcases hq9 with ⟨rfl, hr9, hC9⟩ | ⟨k9, E9, rfl, hm9, hE9, hC9⟩
              · have hk6 := kTry_6 (K := K) 3 m10 (-1)
                have hkn := kTry_ne hbC.1.1 (kd := 3) (a := m10) (b := (-1)) (by decide)
                generalize hgq : kTry K 3 m10 (-1) = q9 at *
                refine j_iconst dL_drawn_257 ?_
                refine j_icmp_ne (tgt := 265) dL_drawn_258 (by decide) (by omega) (fun c258 => ?_) (fun c258 => (False.elim (by omega)))
                refine j_iconst dL_drawn_265 ?_
                refine j_istore (L' := [(0, _), (1, _), (2, _), (3, _), (4, _), (5, _), (6, _), (7, _), (8, _), (9, _), (10, _)]) dL_drawn_266 (Nat.le_of_ble_eq_true rfl) rfl ?_
                refine j_goto (tgt := 398) dL_drawn_268 (by decide) ?_
                refine j_iload dL_drawn_398 rfl ?_
                refine j_if_ge (tgt := 405) dL_drawn_400 (by decide) (by omega) (fun c400 => ?_) (fun c400 => (False.elim (by omega)))
                refine j_iinc (L' := [(0, _), (1, _), (2, _), (3, _), (4, _), (5, _), (6, _), (7, _), (8, _), (9, _), (10, _)]) dL_drawn_405 rfl (Nat.le_of_ble_eq_true rfl) rfl ?_
                refine j_goto (tgt := 26) dL_drawn_408 (by decide) ?_
                refine J.keep [0, 1, 2, 3, 4] (L' := [(0, _), (1, _), (2, _), (3, _), (4, _)]) rfl ?_
                refine ih26 (s9 + 1, q9.2.2.2, (xP n P K), (xN n), h22, nc26 + 0 + 1 + 1, ns26 + 0 + 6 + 6) ?_ ?_
                · dsimp only
                  exact ⟨by omega, (by rw [show 1000 * (s9 + 1) = 1000 * s9 + 1000 by omega]; exact hC9), by omega, fun j j0 => (hs9 j j0).trans (hbN j j0), by omega, by omega⟩
                · dsimp only
                  omega
              · have hk2 := kTry_2 hbC.1.1 (kd := 3) (a := m10) (b := (-1)) (.inr (by omega)) (fun _ => by omega)
                have hke := es_2 hm9 hE9 hk2
                refine j_iconst dL_drawn_257 ?_
                refine j_icmp_ne (tgt := 265) dL_drawn_258 (by decide) (by omega) (fun c258 => ?_) (fun c258 => (False.elim (by omega)))
                refine j_iconst dL_drawn_265 ?_
                refine j_istore (L' := [(0, _), (1, _), (2, _), (3, _), (4, _), (5, _), (6, _), (7, _), (8, _), (9, _), (10, _)]) dL_drawn_266 (Nat.le_of_ble_eq_true rfl) rfl ?_
                refine j_goto (tgt := 398) dL_drawn_268 (by decide) ?_
                refine j_iload dL_drawn_398 rfl ?_
                refine j_if_ge (tgt := 405) dL_drawn_400 (by decide) (by omega) (fun c400 => ?_) (fun c400 => (False.elim (by omega)))
                refine j_iinc (L' := [(0, _), (1, _), (2, _), (3, _), (4, _), (5, _), (6, _), (7, _), (8, _), (9, _), (10, _)]) dL_drawn_405 rfl (Nat.le_of_ble_eq_true rfl) rfl ?_
                refine j_goto (tgt := 26) dL_drawn_408 (by decide) ?_
                refine J.keep [0, 1, 2, 3, 4] (L' := [(0, _), (1, _), (2, _), (3, _), (4, _)]) rfl ?_
                refine ih26 (s9 + 1, K, P, n, h22, nc26 + 0 + 1 + 1, ns26 + 0 + 6 + 6) ?_ ?_
                · dsimp only
                  exact ⟨by omega, (by rw [show 1000 * (s9 + 1) = 1000 * s9 + 1000 by omega]; exact hC9), by omega, fun j j0 => (hs9 j j0).trans (hbN j j0), by omega, by omega⟩
                · dsimp only
                  omega
          by_cases c106 : m13 = 8
          · refine j_tabIn (tgt := 271) 8 dL_drawn_106 c106 (by decide) (by decide) (by decide) rfl (by decide) ?_
            refine j_aload_n dL_drawn_271 rfl rfl ?_
            refine j_iload dL_drawn_272 rfl ?_
            refine j_iload dL_drawn_274 rfl ?_
            refine j_callSW (l_marry hbC (p := m10) (o := m12) (by omega) (by omega) (by omega)) dL_drawn_276 jc_L_141 jmS_L_marry (fun q => by cases q) rfl rfl (by decide) (jfr_of rfl rfl) (Nat.le_of_ble_eq_true rfl) ⟨Nat.le_of_ble_eq_true rfl, Nat.le_of_ble_eq_true rfl⟩ (show nc26 + 0 + 1 + 1 ≤ 200 ∧ ns26 + 0 + 6 + 6 ≤ 3200 by omega) (fun r h23 hp9 => ?_)
            obtain ⟨hs9, hq9⟩ := hp9
            rcases hq9 with ⟨rfl, hr9, hC9⟩ | ⟨k9, E9, rfl, hm9, hE9, hC9⟩
            · have hk6 := kTry_6 (K := K) 4 m10 m12
              have hkn := kTry_ne hbC.1.1 (kd := 4) (a := m10) (b := m12) (by decide)
              generalize hgq : kTry K 4 m10 m12 = q9 at *
              refine j_iconst dL_drawn_279 ?_
              refine j_icmp_ne (tgt := 287) dL_drawn_280 (by decide) (by omega) (fun c280 => ?_) (fun c280 => (False.elim (by omega)))
              refine j_iconst dL_drawn_287 ?_
              refine j_istore (L' := [(0, _), (1, _), (2, _), (3, _), (4, _), (5, _), (6, _), (7, _), (8, _), (9, _), (10, _)]) dL_drawn_288 (Nat.le_of_ble_eq_true rfl) rfl ?_
              refine j_goto (tgt := 398) dL_drawn_290 (by decide) ?_
              refine j_iload dL_drawn_398 rfl ?_
              refine j_if_ge (tgt := 405) dL_drawn_400 (by decide) (by omega) (fun c400 => ?_) (fun c400 => (False.elim (by omega)))
              refine j_iinc (L' := [(0, _), (1, _), (2, _), (3, _), (4, _), (5, _), (6, _), (7, _), (8, _), (9, _), (10, _)]) dL_drawn_405 rfl (Nat.le_of_ble_eq_true rfl) rfl ?_
              refine j_goto (tgt := 26) dL_drawn_408 (by decide) ?_
              refine J.keep [0, 1, 2, 3, 4] (L' := [(0, _), (1, _), (2, _), (3, _), (4, _)]) rfl ?_
              refine ih26 (s9 + 1, q9.2.2.2, (xP n P K), (xN n), h23, nc26 + 0 + 1 + 1, ns26 + 0 + 6 + 6) ?_ ?_
              · dsimp only
                exact ⟨by omega, (by rw [show 1000 * (s9 + 1) = 1000 * s9 + 1000 by omega]; exact hC9), by omega, fun j j0 => (hs9 j j0).trans (hbN j j0), by omega, by omega⟩
              · dsimp only
                omega
            · have hk2 := kTry_2 hbC.1.1 (kd := 4) (a := m10) (b := m12) (.inr (by omega)) (fun _ => by omega)
              have hke := es_2 hm9 hE9 hk2
              refine j_iconst dL_drawn_279 ?_
              refine j_icmp_ne (tgt := 287) dL_drawn_280 (by decide) (by omega) (fun c280 => ?_) (fun c280 => (False.elim (by omega)))
              refine j_iconst dL_drawn_287 ?_
              refine j_istore (L' := [(0, _), (1, _), (2, _), (3, _), (4, _), (5, _), (6, _), (7, _), (8, _), (9, _), (10, _)]) dL_drawn_288 (Nat.le_of_ble_eq_true rfl) rfl ?_
              refine j_goto (tgt := 398) dL_drawn_290 (by decide) ?_
              refine j_iload dL_drawn_398 rfl ?_
              refine j_if_ge (tgt := 405) dL_drawn_400 (by decide) (by omega) (fun c400 => ?_) (fun c400 => (False.elim (by omega)))
              refine j_iinc (L' := [(0, _), (1, _), (2, _), (3, _), (4, _), (5, _), (6, _), (7, _), (8, _), (9, _), (10, _)]) dL_drawn_405 rfl (Nat.le_of_ble_eq_true rfl) rfl ?_
              refine j_goto (tgt := 26) dL_drawn_408 (by decide) ?_
              refine J.keep [0, 1, 2, 3, 4] (L' := [(0, _), (1, _), (2, _), (3, _), (4, _)]) rfl ?_
              refine ih26 (s9 + 1, K, P, n, h23, nc26 + 0 + 1 + 1, ns26 + 0 + 6 + 6) ?_ ?_
              · dsimp only
                exact ⟨by omega, (by rw [show 1000 * (s9 + 1) = 1000 * s9 + 1000 by omega]; exact hC9), by omega, fun j j0 => (hs9 j j0).trans (hbN j j0), by omega, by omega⟩
              · dsimp only
                omega
          by_cases c106 : m13 = 9
          · refine j_tabIn (tgt := 293) 9 dL_drawn_106 c106 (by decide) (by decide) (by decide) rfl (by decide) ?_
            refine j_iload dL_drawn_293 rfl ?_
            refine j_iconst dL_drawn_295 ?_
            refine j_rem dL_drawn_296 (by omega) (by omega) (fun m24a m24b => ?_)
            generalize z8 % 3 = m24 at m24a m24b ⊢
            refine j_if_ne (tgt := 314) dL_drawn_297 (by decide) (by omega) (fun c297 => ?_) (fun c297 => ?_)
            · refine j_iconst dL_drawn_314 ?_
              refine j_istore (L' := [(0, _), (1, _), (2, _), (3, _), (4, _), (5, _), (6, _), (7, _), (8, _), (9, _), (10, _)]) dL_drawn_315 (Nat.le_of_ble_eq_true rfl) rfl ?_
              refine j_goto (tgt := 398) dL_drawn_317 (by decide) ?_
              refine j_iload dL_drawn_398 rfl ?_
              refine j_if_ge (tgt := 405) dL_drawn_400 (by decide) (by omega) (fun c400 => ?_) (fun c400 => (False.elim (by omega)))
              refine j_iinc (L' := [(0, _), (1, _), (2, _), (3, _), (4, _), (5, _), (6, _), (7, _), (8, _), (9, _), (10, _)]) dL_drawn_405 rfl (Nat.le_of_ble_eq_true rfl) rfl ?_
              refine j_goto (tgt := 26) dL_drawn_408 (by decide) ?_
              refine J.keep [0, 1, 2, 3, 4] (L' := [(0, _), (1, _), (2, _), (3, _), (4, _)]) rfl ?_
              refine ih26 (s9 + 1, K, P, n, hb, nc26 + 0 + 1, ns26 + 0 + 6) ?_ ?_
              · dsimp only
                exact ⟨by omega, (hbC.b (B' := 1000 * (s9 + 1)) (by omega)), by omega, hbN, by omega, by omega⟩
              · dsimp only
                omega
            · refine j_aload_n dL_drawn_300 rfl rfl ?_
              refine j_iload dL_drawn_301 rfl ?_
              refine j_callSW (l_part hbC (p := m10) (by omega) (by omega)) dL_drawn_303 jc_L_143 jmS_L_part (fun q => by cases q) rfl rfl (by decide) (jfr_of rfl rfl) (Nat.le_of_ble_eq_true rfl) ⟨Nat.le_of_ble_eq_true rfl, Nat.le_of_ble_eq_true rfl⟩ (show nc26 + 0 + 1 + 1 ≤ 200 ∧ ns26 + 0 + 6 + 6 ≤ 3200 by omega) (fun r h25 hp9 => ?_)
              obtain ⟨hs9, hq9⟩ := hp9
              rcases hq9 with ⟨rfl, hr9, hC9⟩ | ⟨k9, E9, rfl, hm9, hE9, hC9⟩
              · have hk6 := kTry_6 (K := K) 5 m10 (-1)
                have hkn := kTry_ne hbC.1.1 (kd := 5) (a := m10) (b := (-1)) (by decide)
                generalize hgq : kTry K 5 m10 (-1) = q9 at *
                refine j_iconst dL_drawn_306 ?_
                refine j_icmp_ne (tgt := 314) dL_drawn_307 (by decide) (by omega) (fun c307 => ?_) (fun c307 => (False.elim (by omega)))
                refine j_iconst dL_drawn_314 ?_
                refine j_istore (L' := [(0, _), (1, _), (2, _), (3, _), (4, _), (5, _), (6, _), (7, _), (8, _), (9, _), (10, _)]) dL_drawn_315 (Nat.le_of_ble_eq_true rfl) rfl ?_
                refine j_goto (tgt := 398) dL_drawn_317 (by decide) ?_
                refine j_iload dL_drawn_398 rfl ?_
                refine j_if_ge (tgt := 405) dL_drawn_400 (by decide) (by omega) (fun c400 => ?_) (fun c400 => (False.elim (by omega)))
                refine j_iinc (L' := [(0, _), (1, _), (2, _), (3, _), (4, _), (5, _), (6, _), (7, _), (8, _), (9, _), (10, _)]) dL_drawn_405 rfl (Nat.le_of_ble_eq_true rfl) rfl ?_
                refine j_goto (tgt := 26) dL_drawn_408 (by decide) ?_
                refine J.keep [0, 1, 2, 3, 4] (L' := [(0, _), (1, _), (2, _), (3, _), (4, _)]) rfl ?_
                refine ih26 (s9 + 1, q9.2.2.2, (xP n P K), (xN n), h25, nc26 + 0 + 1 + 1, ns26 + 0 + 6 + 6) ?_ ?_
                · dsimp only
                  exact ⟨by omega, (by rw [show 1000 * (s9 + 1) = 1000 * s9 + 1000 by omega]; exact hC9), by omega, fun j j0 => (hs9 j j0).trans (hbN j j0), by omega, by omega⟩
                · dsimp only
                  omega
              · have hk2 := kTry_2 hbC.1.1 (kd := 5) (a := m10) (b := (-1)) (.inr (by omega)) (fun _ => by omega)
                have hke := es_2 hm9 hE9 hk2
                refine j_iconst dL_drawn_306 ?_
                refine j_icmp_ne (tgt := 314) dL_drawn_307 (by decide) (by omega) (fun c307 => ?_) (fun c307 => (False.elim (by omega)))
                refine j_iconst dL_drawn_314 ?_
                refine j_istore (L' := [(0, _), (1, _), (2, _), (3, _), (4, _), (5, _), (6, _), (7, _), (8, _), (9, _), (10, _)]) dL_drawn_315 (Nat.le_of_ble_eq_true rfl) rfl ?_
                refine j_goto (tgt := 398) dL_drawn_317 (by decide) ?_
                refine j_iload dL_drawn_398 rfl ?_
                refine j_if_ge (tgt := 405) dL_drawn_400 (by decide) (by omega) (fun c400 => ?_) (fun c400 => (False.elim (by omega)))
                refine j_iinc (L' := [(0, _), (1, _), (2, _), (3, _), (4, _), (5, _), (6, _), (7, _), (8, _), (9, _), (10, _)]) dL_drawn_405 rfl (Nat.le_of_ble_eq_true rfl) rfl ?_
                refine j_goto (tgt := 26) dL_drawn_408 (by decide) ?_
                refine J.keep [0, 1, 2, 3, 4] (L' := [(0, _), (1, _), (2, _), (3, _), (4, _)]) rfl ?_
                refine ih26 (s9 + 1, K, P, n, h25, nc26 + 0 + 1 + 1, ns26 + 0 + 6 + 6) ?_ ?_
                · dsimp only
                  exact ⟨by omega, (by rw [show 1000 * (s9 + 1) = 1000 * s9 + 1000 by omega]; exact hC9), by omega, fun j j0 => (hs9 j j0).trans (hbN j j0), by omega, by omega⟩
                · dsimp only
                  omega
          by_cases c106 : m13 = 10
          · refine j_tabIn (tgt := 320) 10 dL_drawn_106 c106 (by decide) (by decide) (by decide) rfl (by decide) ?_
            refine j_aload_n dL_drawn_320 rfl rfl ?_
            refine j_iload dL_drawn_321 rfl ?_
            refine j_iload dL_drawn_323 rfl ?_
            refine j_callSW (l_quarrel hbC (p := m10) (o := m12) (by omega) (by omega) (by omega)) dL_drawn_325 jc_L_145 jmS_L_quarrel (fun q => by cases q) rfl rfl (by decide) (jfr_of rfl rfl) (Nat.le_of_ble_eq_true rfl) ⟨Nat.le_of_ble_eq_true rfl, Nat.le_of_ble_eq_true rfl⟩ (show nc26 + 0 + 1 + 1 ≤ 200 ∧ ns26 + 0 + 6 + 6 ≤ 3200 by omega) (fun r h26 hp9 => ?_)
            obtain ⟨hs9, hq9⟩ := hp9
            rcases hq9 with ⟨rfl, hr9, hC9⟩ | ⟨k9, E9, rfl, hm9, hE9, hC9⟩
            · have hk6 := kTry_6 (K := K) 6 m10 m12
              have hkn := kTry_ne hbC.1.1 (kd := 6) (a := m10) (b := m12) (by decide)
              generalize hgq : kTry K 6 m10 m12 = q9 at *
              refine j_iconst dL_drawn_328 ?_
              refine j_icmp_ne (tgt := 336) dL_drawn_329 (by decide) (by omega) (fun c329 => ?_) (fun c329 => (False.elim (by omega)))
              refine j_iconst dL_drawn_336 ?_
              refine j_istore (L' := [(0, _), (1, _), (2, _), (3, _), (4, _), (5, _), (6, _), (7, _), (8, _), (9, _), (10, _)]) dL_drawn_337 (Nat.le_of_ble_eq_true rfl) rfl ?_
              refine j_goto (tgt := 398) dL_drawn_339 (by decide) ?_
              refine j_iload dL_drawn_398 rfl ?_
              refine j_if_ge (tgt := 405) dL_drawn_400 (by decide) (by omega) (fun c400 => ?_) (fun c400 => (False.elim (by omega)))
              refine j_iinc (L' := [(0, _), (1, _), (2, _), (3, _), (4, _), (5, _), (6, _), (7, _), (8, _), (9, _), (10, _)]) dL_drawn_405 rfl (Nat.le_of_ble_eq_true rfl) rfl ?_
              refine j_goto (tgt := 26) dL_drawn_408 (by decide) ?_
              refine J.keep [0, 1, 2, 3, 4] (L' := [(0, _), (1, _), (2, _), (3, _), (4, _)]) rfl ?_
              refine ih26 (s9 + 1, q9.2.2.2, (xP n P K), (xN n), h26, nc26 + 0 + 1 + 1, ns26 + 0 + 6 + 6) ?_ ?_
              · dsimp only
                exact ⟨by omega, (by rw [show 1000 * (s9 + 1) = 1000 * s9 + 1000 by omega]; exact hC9), by omega, fun j j0 => (hs9 j j0).trans (hbN j j0), by omega, by omega⟩
              · dsimp only
                omega
            · have hk2 := kTry_2 hbC.1.1 (kd := 6) (a := m10) (b := m12) (.inr (by omega)) (fun _ => by omega)
              have hke := es_2 hm9 hE9 hk2
              refine j_iconst dL_drawn_328 ?_
              refine j_icmp_ne (tgt := 336) dL_drawn_329 (by decide) (by omega) (fun c329 => ?_) (fun c329 => (False.elim (by omega)))
              refine j_iconst dL_drawn_336 ?_
              refine j_istore (L' := [(0, _), (1, _), (2, _), (3, _), (4, _), (5, _), (6, _), (7, _), (8, _), (9, _), (10, _)]) dL_drawn_337 (Nat.le_of_ble_eq_true rfl) rfl ?_
              refine j_goto (tgt := 398) dL_drawn_339 (by decide) ?_
              refine j_iload dL_drawn_398 rfl ?_
              refine j_if_ge (tgt := 405) dL_drawn_400 (by decide) (by omega) (fun c400 => ?_) (fun c400 => (False.elim (by omega)))
              refine j_iinc (L' := [(0, _), (1, _), (2, _), (3, _), (4, _), (5, _), (6, _), (7, _), (8, _), (9, _), (10, _)]) dL_drawn_405 rfl (Nat.le_of_ble_eq_true rfl) rfl ?_
              refine j_goto (tgt := 26) dL_drawn_408 (by decide) ?_
              refine J.keep [0, 1, 2, 3, 4] (L' := [(0, _), (1, _), (2, _), (3, _), (4, _)]) rfl ?_
              refine ih26 (s9 + 1, K, P, n, h26, nc26 + 0 + 1 + 1, ns26 + 0 + 6 + 6) ?_ ?_
              · dsimp only
                exact ⟨by omega, (by rw [show 1000 * (s9 + 1) = 1000 * s9 + 1000 by omega]; exact hC9), by omega, fun j j0 => (hs9 j j0).trans (hbN j j0), by omega, by omega⟩
              · dsimp only
                omega
          by_cases c106 : m13 = 11
          · refine j_tabIn (tgt := 320) 11 dL_drawn_106 c106 (by decide) (by decide) (by decide) rfl (by decide) ?_
            refine j_aload_n dL_drawn_320 rfl rfl ?_
            refine j_iload dL_drawn_321 rfl ?_
            refine j_iload dL_drawn_323 rfl ?_
            refine j_callSW (l_quarrel hbC (p := m10) (o := m12) (by omega) (by omega) (by omega)) dL_drawn_325 jc_L_145 jmS_L_quarrel (fun q => by cases q) rfl rfl (by decide) (jfr_of rfl rfl) (Nat.le_of_ble_eq_true rfl) ⟨Nat.le_of_ble_eq_true rfl, Nat.le_of_ble_eq_true rfl⟩ (show nc26 + 0 + 1 + 1 ≤ 200 ∧ ns26 + 0 + 6 + 6 ≤ 3200 by omega) (fun r h27 hp9 => ?_)
            obtain ⟨hs9, hq9⟩ := hp9
            rcases hq9 with ⟨rfl, hr9, hC9⟩ | ⟨k9, E9, rfl, hm9, hE9, hC9⟩
            · have hk6 := kTry_6 (K := K) 6 m10 m12
              have hkn := kTry_ne hbC.1.1 (kd := 6) (a := m10) (b := m12) (by decide)
              generalize hgq : kTry K 6 m10 m12 = q9 at *
              refine j_iconst dL_drawn_328 ?_
              refine j_icmp_ne (tgt := 336) dL_drawn_329 (by decide) (by omega) (fun c329 => ?_) (fun c329 => (False.elim (by omega)))
              refine j_iconst dL_drawn_336 ?_
              refine j_istore (L' := [(0, _), (1, _), (2, _), (3, _), (4, _), (5, _), (6, _), (7, _), (8, _), (9, _), (10, _)]) dL_drawn_337 (Nat.le_of_ble_eq_true rfl) rfl ?_
              refine j_goto (tgt := 398) dL_drawn_339 (by decide) ?_
              refine j_iload dL_drawn_398 rfl ?_
              refine j_if_ge (tgt := 405) dL_drawn_400 (by decide) (by omega) (fun c400 => ?_) (fun c400 => (False.elim (by omega)))
              refine j_iinc (L' := [(0, _), (1, _), (2, _), (3, _), (4, _), (5, _), (6, _), (7, _), (8, _), (9, _), (10, _)]) dL_drawn_405 rfl (Nat.le_of_ble_eq_true rfl) rfl ?_
              refine j_goto (tgt := 26) dL_drawn_408 (by decide) ?_
              refine J.keep [0, 1, 2, 3, 4] (L' := [(0, _), (1, _), (2, _), (3, _), (4, _)]) rfl ?_
              refine ih26 (s9 + 1, q9.2.2.2, (xP n P K), (xN n), h27, nc26 + 0 + 1 + 1, ns26 + 0 + 6 + 6) ?_ ?_
              · dsimp only
                exact ⟨by omega, (by rw [show 1000 * (s9 + 1) = 1000 * s9 + 1000 by omega]; exact hC9), by omega, fun j j0 => (hs9 j j0).trans (hbN j j0), by omega, by omega⟩
              · dsimp only
                omega
            · have hk2 := kTry_2 hbC.1.1 (kd := 6) (a := m10) (b := m12) (.inr (by omega)) (fun _ => by omega)
              have hke := es_2 hm9 hE9 hk2
              refine j_iconst dL_drawn_328 ?_
              refine j_icmp_ne (tgt := 336) dL_drawn_329 (by decide) (by omega) (fun c329 => ?_) (fun c329 => (False.elim (by omega)))
              refine j_iconst dL_drawn_336 ?_
              refine j_istore (L' := [(0, _), (1, _), (2, _), (3, _), (4, _), (5, _), (6, _), (7, _), (8, _), (9, _), (10, _)]) dL_drawn_337 (Nat.le_of_ble_eq_true rfl) rfl ?_
              refine j_goto (tgt := 398) dL_drawn_339 (by decide) ?_
              refine j_iload dL_drawn_398 rfl ?_
              refine j_if_ge (tgt := 405) dL_drawn_400 (by decide) (by omega) (fun c400 => ?_) (fun c400 => (False.elim (by omega)))
              refine j_iinc (L' := [(0, _), (1, _), (2, _), (3, _), (4, _), (5, _), (6, _), (7, _), (8, _), (9, _), (10, _)]) dL_drawn_405 rfl (Nat.le_of_ble_eq_true rfl) rfl ?_
              refine j_goto (tgt := 26) dL_drawn_408 (by decide) ?_
              refine J.keep [0, 1, 2, 3, 4] (L' := [(0, _), (1, _), (2, _), (3, _), (4, _)]) rfl ?_
              refine ih26 (s9 + 1, K, P, n, h27, nc26 + 0 + 1 + 1, ns26 + 0 + 6 + 6) ?_ ?_
              · dsimp only
                exact ⟨by omega, (by rw [show 1000 * (s9 + 1) = 1000 * s9 + 1000 by omega]; exact hC9), by omega, fun j j0 => (hs9 j j0).trans (hbN j j0), by omega, by omega⟩
              · dsimp only
                omega
          by_cases c106 : m13 = 12
          · refine j_tabIn (tgt := 342) 12 dL_drawn_106 c106 (by decide) (by decide) (by decide) rfl (by decide) ?_
            refine j_aload_n dL_drawn_342 rfl rfl ?_
            refine j_iload dL_drawn_343 rfl ?_
            refine j_iconst dL_drawn_345 ?_
            refine j_iload dL_drawn_346 rfl ?_
            refine j_bipush dL_drawn_348 (by decide +kernel) ?_
            refine j_iushr 10 ⟨by decide, by decide⟩ dL_drawn_350 (by decide +kernel) (fun z28 z28a z28b => ?_)
            refine j_sipush dL_drawn_351 (by decide +kernel) ?_
            refine j_rem dL_drawn_354 (by omega) (by omega) (fun m29a m29b => ?_)
            generalize z28 % 999 = m29 at m29a m29b ⊢
            refine j_iadd dL_drawn_355 ?_
            refine j_callSW (l_give hbC (p := m10) (o := 1 + m29) (by omega) (by omega) (by omega)) dL_drawn_356 jc_L_147 jmS_L_give (fun q => by cases q) rfl rfl (by decide) (jfr_of rfl rfl) (Nat.le_of_ble_eq_true rfl) ⟨Nat.le_of_ble_eq_true rfl, Nat.le_of_ble_eq_true rfl⟩ (show nc26 + 0 + 1 + 1 ≤ 200 ∧ ns26 + 0 + 6 + 6 ≤ 3200 by omega) (fun r h30 hp9 => ?_)
            obtain ⟨hs9, hq9⟩ := hp9
            rcases hq9 with ⟨rfl, hr9, hC9⟩ | ⟨k9, E9, rfl, hm9, hE9, hC9⟩
            · have hk6 := kTry_6 (K := K) 7 m10 (1 + m29)
              have hkn := kTry_ne hbC.1.1 (kd := 7) (a := m10) (b := (1 + m29)) (by decide)
              generalize hgq : kTry K 7 m10 (1 + m29) = q9 at *
              refine j_iconst dL_drawn_359 ?_
              refine j_icmp_ne (tgt := 367) dL_drawn_360 (by decide) (by omega) (fun c360 => ?_) (fun c360 => (False.elim (by omega)))
              refine j_iconst dL_drawn_367 ?_
              refine j_istore (L' := [(0, _), (1, _), (2, _), (3, _), (4, _), (5, _), (6, _), (7, _), (8, _), (9, _), (10, _)]) dL_drawn_368 (Nat.le_of_ble_eq_true rfl) rfl ?_
              refine j_goto (tgt := 398) dL_drawn_370 (by decide) ?_
              refine j_iload dL_drawn_398 rfl ?_
              refine j_if_ge (tgt := 405) dL_drawn_400 (by decide) (by omega) (fun c400 => ?_) (fun c400 => (False.elim (by omega)))
              refine j_iinc (L' := [(0, _), (1, _), (2, _), (3, _), (4, _), (5, _), (6, _), (7, _), (8, _), (9, _), (10, _)]) dL_drawn_405 rfl (Nat.le_of_ble_eq_true rfl) rfl ?_
              refine j_goto (tgt := 26) dL_drawn_408 (by decide) ?_
              refine J.keep [0, 1, 2, 3, 4] (L' := [(0, _), (1, _), (2, _), (3, _), (4, _)]) rfl ?_
              refine ih26 (s9 + 1, q9.2.2.2, (xP n P K), (xN n), h30, nc26 + 0 + 1 + 1, ns26 + 0 + 6 + 6) ?_ ?_
              · dsimp only
                exact ⟨by omega, (by rw [show 1000 * (s9 + 1) = 1000 * s9 + 1000 by omega]; exact hC9), by omega, fun j j0 => (hs9 j j0).trans (hbN j j0), by omega, by omega⟩
              · dsimp only
                omega
            · have hk2 := kTry_2 hbC.1.1 (kd := 7) (a := m10) (b := (1 + m29)) (.inr (by omega)) (fun _ => by omega)
              have hke := es_give hm9 hE9 hk2
              refine j_iconst dL_drawn_359 ?_
              refine j_icmp_ne (tgt := 367) dL_drawn_360 (by decide) (by omega) (fun c360 => ?_) (fun c360 => (False.elim (by omega)))
              refine j_iconst dL_drawn_367 ?_
              refine j_istore (L' := [(0, _), (1, _), (2, _), (3, _), (4, _), (5, _), (6, _), (7, _), (8, _), (9, _), (10, _)]) dL_drawn_368 (Nat.le_of_ble_eq_true rfl) rfl ?_
              refine j_goto (tgt := 398) dL_drawn_370 (by decide) ?_
              refine j_iload dL_drawn_398 rfl ?_
              refine j_if_ge (tgt := 405) dL_drawn_400 (by decide) (by omega) (fun c400 => ?_) (fun c400 => (False.elim (by omega)))
              refine j_iinc (L' := [(0, _), (1, _), (2, _), (3, _), (4, _), (5, _), (6, _), (7, _), (8, _), (9, _), (10, _)]) dL_drawn_405 rfl (Nat.le_of_ble_eq_true rfl) rfl ?_
              refine j_goto (tgt := 26) dL_drawn_408 (by decide) ?_
              refine J.keep [0, 1, 2, 3, 4] (L' := [(0, _), (1, _), (2, _), (3, _), (4, _)]) rfl ?_
              refine ih26 (s9 + 1, K, P, n, h30, nc26 + 0 + 1 + 1, ns26 + 0 + 6 + 6) ?_ ?_
              · dsimp only
                exact ⟨by omega, (by rw [show 1000 * (s9 + 1) = 1000 * s9 + 1000 by omega]; exact hC9), by omega, fun j j0 => (hs9 j j0).trans (hbN j j0), by omega, by omega⟩
              · dsimp only
                omega
          refine j_tabOut (tgt := 373) dL_drawn_106 (by omega) (by omega) (by decide) ?_
          refine j_iload dL_drawn_373 rfl ?_
          refine j_iconst dL_drawn_375 ?_
          refine j_rem dL_drawn_376 (by omega) (by omega) (fun m31a m31b => ?_)
          generalize z8 % 2 = m31 at m31a m31b ⊢
          refine j_if_ne (tgt := 395) dL_drawn_377 (by decide) (by omega) (fun c377 => ?_) (fun c377 => ?_)
          · refine j_iconst dL_drawn_395 ?_
            refine j_istore (L' := [(0, _), (1, _), (2, _), (3, _), (4, _), (5, _), (6, _), (7, _), (8, _), (9, _), (10, _)]) dL_drawn_396 (Nat.le_of_ble_eq_true rfl) rfl ?_
            refine j_iload dL_drawn_398 rfl ?_
            refine j_if_ge (tgt := 405) dL_drawn_400 (by decide) (by omega) (fun c400 => ?_) (fun c400 => (False.elim (by omega)))
            refine j_iinc (L' := [(0, _), (1, _), (2, _), (3, _), (4, _), (5, _), (6, _), (7, _), (8, _), (9, _), (10, _)]) dL_drawn_405 rfl (Nat.le_of_ble_eq_true rfl) rfl ?_
            refine j_goto (tgt := 26) dL_drawn_408 (by decide) ?_
            refine J.keep [0, 1, 2, 3, 4] (L' := [(0, _), (1, _), (2, _), (3, _), (4, _)]) rfl ?_
            refine ih26 (s9 + 1, K, P, n, hb, nc26 + 0 + 1, ns26 + 0 + 6) ?_ ?_
            · dsimp only
              exact ⟨by omega, (hbC.b (B' := 1000 * (s9 + 1)) (by omega)), by omega, hbN, by omega, by omega⟩
            · dsimp only
              omega
          · refine j_aload_n dL_drawn_380 rfl rfl ?_
            refine j_iload dL_drawn_381 rfl ?_
            refine j_callSW (l_die hbC (p := m10) (by omega) (by omega)) dL_drawn_383 jc_L_149 jmS_L_die (fun q => by cases q) rfl rfl (by decide) (jfr_of rfl rfl) (Nat.le_of_ble_eq_true rfl) ⟨Nat.le_of_ble_eq_true rfl, Nat.le_of_ble_eq_true rfl⟩ (show nc26 + 0 + 1 + 1 ≤ 200 ∧ ns26 + 0 + 6 + 6 ≤ 3200 by omega) (fun r h32 hp9 => ?_)
            obtain ⟨hs9, hq9⟩ := hp9
            rcases hq9 with ⟨rfl, hr9, hC9⟩ | ⟨k9, E9, rfl, hm9, hE9, hC9⟩
            · have hk6 := kTry_6 (K := K) 8 m10 (-1)
              generalize hgq : kTry K 8 m10 (-1) = q9 at *
              refine j_bipush dL_drawn_386 (by decide +kernel) ?_
              refine j_icmp_ne (tgt := 395) dL_drawn_388 (by decide) (by omega) (fun c388 => ?_) (fun c388 => (False.elim (by omega)))
              refine j_iconst dL_drawn_395 ?_
              refine j_istore (L' := [(0, _), (1, _), (2, _), (3, _), (4, _), (5, _), (6, _), (7, _), (8, _), (9, _), (10, _)]) dL_drawn_396 (Nat.le_of_ble_eq_true rfl) rfl ?_
              refine j_iload dL_drawn_398 rfl ?_
              refine j_if_ge (tgt := 405) dL_drawn_400 (by decide) (by omega) (fun c400 => ?_) (fun c400 => (False.elim (by omega)))
              refine j_iinc (L' := [(0, _), (1, _), (2, _), (3, _), (4, _), (5, _), (6, _), (7, _), (8, _), (9, _), (10, _)]) dL_drawn_405 rfl (Nat.le_of_ble_eq_true rfl) rfl ?_
              refine j_goto (tgt := 26) dL_drawn_408 (by decide) ?_
              refine J.keep [0, 1, 2, 3, 4] (L' := [(0, _), (1, _), (2, _), (3, _), (4, _)]) rfl ?_
              refine ih26 (s9 + 1, q9.2.2.2, (xP n P K), (xN n), h32, nc26 + 0 + 1 + 1, ns26 + 0 + 6 + 6) ?_ ?_
              · dsimp only
                exact ⟨by omega, (by rw [show 1000 * (s9 + 1) = 1000 * s9 + 1000 by omega]; exact hC9), by omega, fun j j0 => (hs9 j j0).trans (hbN j j0), by omega, by omega⟩
              · dsimp only
                omega
            · have hk2 := kTry_2 hbC.1.1 (kd := 8) (a := m10) (b := (-1)) (.inr (by omega)) (fun _ => by omega)
              have hke := es_die hm9 hE9 hk2
              refine j_bipush dL_drawn_386 (by decide +kernel) ?_
              refine j_icmp_ne (tgt := 395) dL_drawn_388 (by decide) (by omega) (fun c388 => ?_) (fun c388 => (False.elim (by omega)))
              refine j_iconst dL_drawn_395 ?_
              refine j_istore (L' := [(0, _), (1, _), (2, _), (3, _), (4, _), (5, _), (6, _), (7, _), (8, _), (9, _), (10, _)]) dL_drawn_396 (Nat.le_of_ble_eq_true rfl) rfl ?_
              refine j_iload dL_drawn_398 rfl ?_
              refine j_if_ge (tgt := 405) dL_drawn_400 (by decide) (by omega) (fun c400 => ?_) (fun c400 => (False.elim (by omega)))
              refine j_iinc (L' := [(0, _), (1, _), (2, _), (3, _), (4, _), (5, _), (6, _), (7, _), (8, _), (9, _), (10, _)]) dL_drawn_405 rfl (Nat.le_of_ble_eq_true rfl) rfl ?_
              refine j_goto (tgt := 26) dL_drawn_408 (by decide) ?_
              refine J.keep [0, 1, 2, 3, 4] (L' := [(0, _), (1, _), (2, _), (3, _), (4, _)]) rfl ?_
              refine ih26 (s9 + 1, K, P, n, h32, nc26 + 0 + 1 + 1, ns26 + 0 + 6 + 6) ?_ ?_
              · dsimp only
                exact ⟨by omega, (by rw [show 1000 * (s9 + 1) = 1000 * s9 + 1000 by omega]; exact hC9), by omega, fun j j0 => (hs9 j j0).trans (hbN j j0), by omega, by omega⟩
              · dsimp only
                omega
        · refine j_iconst dL_drawn_97 ?_
          refine j_goto (tgt := 106) dL_drawn_98 (by decide) ?_
          refine j_tabIn (tgt := 172) 0 dL_drawn_106 rfl (by decide) (by decide) (by decide) rfl (by decide) ?_
          refine j_aload_n dL_drawn_172 rfl rfl ?_
          refine j_callSW (l_found hbC  (by omega)) dL_drawn_173 jc_L_131 jmS_L_found (fun q => by cases q) rfl rfl (by decide) (jfr_of rfl rfl) (Nat.le_of_ble_eq_true rfl) ⟨Nat.le_of_ble_eq_true rfl, Nat.le_of_ble_eq_true rfl⟩ (show nc26 + 0 + 1 + 1 ≤ 200 ∧ ns26 + 0 + 6 + 6 ≤ 3200 by omega) (fun r h33 hp9 => ?_)
          obtain ⟨hs9, hq9⟩ := hp9
          rcases hq9 with ⟨rfl, hr9, hC9⟩ | ⟨k9, E9, rfl, hm9, hE9, hC9⟩
          · have hk6 := kTry_6 (K := K) 0 (-1) (-1)
            have hkn := kTry_ne hbC.1.1 (kd := 0) (a := (-1)) (b := (-1)) (by decide)
            have hk1 := kFound_s (K := K) (a := (-1)) (b := (-1)) hr9.1
            generalize hgq : kTry K 0 (-1) (-1) = q9 at *
            refine j_istore (L' := [(0, _), (1, _), (2, _), (3, _), (4, _), (5, _), (6, _), (7, _), (8, _), (9, _), (10, _)]) dL_drawn_176 (Nat.le_of_ble_eq_true rfl) rfl ?_
            refine j_iload dL_drawn_178 rfl ?_
            refine j_bipush dL_drawn_180 (by decide +kernel) ?_
            refine j_icmp_ne (tgt := 196) dL_drawn_182 (by decide) (by omega) (fun c182 => ?_) (fun c182 => (False.elim (by omega)))
            refine j_iconst dL_drawn_196 ?_
            refine j_istore (L' := [(0, _), (1, _), (2, _), (3, _), (4, _), (5, _), (6, _), (7, _), (8, _), (9, _), (10, _)]) dL_drawn_197 (Nat.le_of_ble_eq_true rfl) rfl ?_
            refine j_goto (tgt := 398) dL_drawn_199 (by decide) ?_
            refine j_iload dL_drawn_398 rfl ?_
            refine j_if_ge (tgt := 405) dL_drawn_400 (by decide) (by omega) (fun c400 => ?_) (fun c400 => (False.elim (by omega)))
            refine j_iinc (L' := [(0, _), (1, _), (2, _), (3, _), (4, _), (5, _), (6, _), (7, _), (8, _), (9, _), (10, _)]) dL_drawn_405 rfl (Nat.le_of_ble_eq_true rfl) rfl ?_
            refine j_goto (tgt := 26) dL_drawn_408 (by decide) ?_
            refine J.keep [0, 1, 2, 3, 4] (L' := [(0, _), (1, _), (2, _), (3, _), (4, _)]) rfl ?_
            refine ih26 (s9 + 1, q9.2.2.2, (xP n P K), (xN n), h33, nc26 + 0 + 1 + 1, ns26 + 0 + 6 + 6) ?_ ?_
            · dsimp only
              exact ⟨by omega, (by rw [show 1000 * (s9 + 1) = 1000 * s9 + 1000 by omega]; exact hC9), by omega, fun j j0 => (hs9 j j0).trans (hbN j j0), by omega, by omega⟩
            · dsimp only
              omega
          · have hk2 := kTry_2 hbC.1.1 (kd := 0) (a := (-1)) (b := (-1)) (.inl rfl) (fun _ => by omega)
            have hke := es_found hm9 hE9 hk2
            have hf9 := kFound_f hbC.1.1 hE9
            refine j_istore (L' := [(0, _), (1, _), (2, _), (3, _), (4, _), (5, _), (6, _), (7, _), (8, _), (9, _), (10, _)]) dL_drawn_176 (Nat.le_of_ble_eq_true rfl) rfl ?_
            refine j_iload dL_drawn_178 rfl ?_
            refine j_bipush dL_drawn_180 (by decide +kernel) ?_
            refine j_icmp_ne (tgt := 196) dL_drawn_182 (by decide) (by omega) (fun c182 => (False.elim (by omega))) (fun c182 => ?_)
            refine j_iload dL_drawn_185 rfl ?_
            refine j_bipush dL_drawn_187 (by decide +kernel) ?_
            refine j_icmp_ge (tgt := 196) dL_drawn_189 (by decide) (by omega) (fun c189 => ?_) (fun c189 => (False.elim (by omega)))
            refine j_iconst dL_drawn_196 ?_
            refine j_istore (L' := [(0, _), (1, _), (2, _), (3, _), (4, _), (5, _), (6, _), (7, _), (8, _), (9, _), (10, _)]) dL_drawn_197 (Nat.le_of_ble_eq_true rfl) rfl ?_
            refine j_goto (tgt := 398) dL_drawn_199 (by decide) ?_
            refine j_iload dL_drawn_398 rfl ?_
            refine j_if_ge (tgt := 405) dL_drawn_400 (by decide) (by omega) (fun c400 => ?_) (fun c400 => (False.elim (by omega)))
            refine j_iinc (L' := [(0, _), (1, _), (2, _), (3, _), (4, _), (5, _), (6, _), (7, _), (8, _), (9, _), (10, _)]) dL_drawn_405 rfl (Nat.le_of_ble_eq_true rfl) rfl ?_
            refine j_goto (tgt := 26) dL_drawn_408 (by decide) ?_
            refine J.keep [0, 1, 2, 3, 4] (L' := [(0, _), (1, _), (2, _), (3, _), (4, _)]) rfl ?_
            refine ih26 (s9 + 1, K, P, n, h33, nc26 + 0 + 1 + 1, ns26 + 0 + 6 + 6) ?_ ?_
            · dsimp only
              exact ⟨by omega, (by rw [show 1000 * (s9 + 1) = 1000 * s9 + 1000 by omega]; exact hC9), by omega, fun j j0 => (hs9 j j0).trans (hbN j j0), by omega, by omega⟩
            · dsimp only
              omega
      · refine j_iconst dL_drawn_62 ?_
        refine j_goto (tgt := 71) dL_drawn_63 (by decide) ?_
        refine j_istore (L' := [(0, _), (1, _), (2, _), (3, _), (4, _), (5, _), (6, _), (7, _), (8, _)]) dL_drawn_71 (Nat.le_of_ble_eq_true rfl) rfl ?_
        refine j_iload dL_drawn_73 rfl ?_
        refine j_if_ne (tgt := 82) dL_drawn_75 (by decide) (by omega) (fun c75 => (False.elim (by omega))) (fun c75 => ?_)
        refine j_iconst dL_drawn_78 ?_
        refine j_goto (tgt := 89) dL_drawn_79 (by decide) ?_
        refine j_istore (L' := [(0, _), (1, _), (2, _), (3, _), (4, _), (5, _), (6, _), (7, _), (8, _), (9, _)]) dL_drawn_89 (Nat.le_of_ble_eq_true rfl) rfl ?_
        refine j_iload dL_drawn_91 rfl ?_
        refine j_iconst dL_drawn_93 ?_
        refine j_icmp_ge (tgt := 101) dL_drawn_94 (by decide) (by omega) (fun c94 => (False.elim (by omega))) (fun c94 => ?_)
        refine j_iconst dL_drawn_97 ?_
        refine j_goto (tgt := 106) dL_drawn_98 (by decide) ?_
        refine j_tabIn (tgt := 172) 0 dL_drawn_106 rfl (by decide) (by decide) (by decide) rfl (by decide) ?_
        refine j_aload_n dL_drawn_172 rfl rfl ?_
        refine j_callSW (l_found hbC  (by omega)) dL_drawn_173 jc_L_131 jmS_L_found (fun q => by cases q) rfl rfl (by decide) (jfr_of rfl rfl) (Nat.le_of_ble_eq_true rfl) ⟨Nat.le_of_ble_eq_true rfl, Nat.le_of_ble_eq_true rfl⟩ (show nc26 + 0 + 1 + 1 ≤ 200 ∧ ns26 + 0 + 6 + 6 ≤ 3200 by omega) (fun r h34 hp9 => ?_)
        obtain ⟨hs9, hq9⟩ := hp9
        rcases hq9 with ⟨rfl, hr9, hC9⟩ | ⟨k9, E9, rfl, hm9, hE9, hC9⟩
        · have hk6 := kTry_6 (K := K) 0 (-1) (-1)
          have hkn := kTry_ne hbC.1.1 (kd := 0) (a := (-1)) (b := (-1)) (by decide)
          have hk1 := kFound_s (K := K) (a := (-1)) (b := (-1)) hr9.1
          generalize hgq : kTry K 0 (-1) (-1) = q9 at *
          refine j_istore (L' := [(0, _), (1, _), (2, _), (3, _), (4, _), (5, _), (6, _), (7, _), (8, _), (9, _), (10, _)]) dL_drawn_176 (Nat.le_of_ble_eq_true rfl) rfl ?_
          refine j_iload dL_drawn_178 rfl ?_
          refine j_bipush dL_drawn_180 (by decide +kernel) ?_
          refine j_icmp_ne (tgt := 196) dL_drawn_182 (by decide) (by omega) (fun c182 => ?_) (fun c182 => (False.elim (by omega)))
          refine j_iconst dL_drawn_196 ?_
          refine j_istore (L' := [(0, _), (1, _), (2, _), (3, _), (4, _), (5, _), (6, _), (7, _), (8, _), (9, _), (10, _)]) dL_drawn_197 (Nat.le_of_ble_eq_true rfl) rfl ?_
          refine j_goto (tgt := 398) dL_drawn_199 (by decide) ?_
          refine j_iload dL_drawn_398 rfl ?_
          refine j_if_ge (tgt := 405) dL_drawn_400 (by decide) (by omega) (fun c400 => ?_) (fun c400 => (False.elim (by omega)))
          refine j_iinc (L' := [(0, _), (1, _), (2, _), (3, _), (4, _), (5, _), (6, _), (7, _), (8, _), (9, _), (10, _)]) dL_drawn_405 rfl (Nat.le_of_ble_eq_true rfl) rfl ?_
          refine j_goto (tgt := 26) dL_drawn_408 (by decide) ?_
          refine J.keep [0, 1, 2, 3, 4] (L' := [(0, _), (1, _), (2, _), (3, _), (4, _)]) rfl ?_
          refine ih26 (s9 + 1, q9.2.2.2, (xP n P K), (xN n), h34, nc26 + 0 + 1 + 1, ns26 + 0 + 6 + 6) ?_ ?_
          · dsimp only
            exact ⟨by omega, (by rw [show 1000 * (s9 + 1) = 1000 * s9 + 1000 by omega]; exact hC9), by omega, fun j j0 => (hs9 j j0).trans (hbN j j0), by omega, by omega⟩
          · dsimp only
            omega
        · have hk2 := kTry_2 hbC.1.1 (kd := 0) (a := (-1)) (b := (-1)) (.inl rfl) (fun _ => by omega)
          have hke := es_found hm9 hE9 hk2
          have hf9 := kFound_f hbC.1.1 hE9
          refine j_istore (L' := [(0, _), (1, _), (2, _), (3, _), (4, _), (5, _), (6, _), (7, _), (8, _), (9, _), (10, _)]) dL_drawn_176 (Nat.le_of_ble_eq_true rfl) rfl ?_
          refine j_iload dL_drawn_178 rfl ?_
          refine j_bipush dL_drawn_180 (by decide +kernel) ?_
          refine j_icmp_ne (tgt := 196) dL_drawn_182 (by decide) (by omega) (fun c182 => (False.elim (by omega))) (fun c182 => ?_)
          refine j_iload dL_drawn_185 rfl ?_
          refine j_bipush dL_drawn_187 (by decide +kernel) ?_
          refine j_icmp_ge (tgt := 196) dL_drawn_189 (by decide) (by omega) (fun c189 => ?_) (fun c189 => (False.elim (by omega)))
          refine j_iconst dL_drawn_196 ?_
          refine j_istore (L' := [(0, _), (1, _), (2, _), (3, _), (4, _), (5, _), (6, _), (7, _), (8, _), (9, _), (10, _)]) dL_drawn_197 (Nat.le_of_ble_eq_true rfl) rfl ?_
          refine j_goto (tgt := 398) dL_drawn_199 (by decide) ?_
          refine j_iload dL_drawn_398 rfl ?_
          refine j_if_ge (tgt := 405) dL_drawn_400 (by decide) (by omega) (fun c400 => ?_) (fun c400 => (False.elim (by omega)))
          refine j_iinc (L' := [(0, _), (1, _), (2, _), (3, _), (4, _), (5, _), (6, _), (7, _), (8, _), (9, _), (10, _)]) dL_drawn_405 rfl (Nat.le_of_ble_eq_true rfl) rfl ?_
          refine j_goto (tgt := 26) dL_drawn_408 (by decide) ?_
          refine J.keep [0, 1, 2, 3, 4] (L' := [(0, _), (1, _), (2, _), (3, _), (4, _)]) rfl ?_
          refine ih26 (s9 + 1, K, P, n, h34, nc26 + 0 + 1 + 1, ns26 + 0 + 6 + 6) ?_ ?_
          · dsimp only
            exact ⟨by omega, (by rw [show 1000 * (s9 + 1) = 1000 * s9 + 1000 by omega]; exact hC9), by omega, fun j j0 => (hs9 j j0).trans (hbN j j0), by omega, by omega⟩
          · dsimp only
            omega
  · dsimp only
    exact ⟨by omega, hC1, fun q => absurd q (by decide), hN1, by omega, by omega⟩
