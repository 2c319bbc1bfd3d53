/-- families without persons -/
def kF0 : fS := gs (gs (fun _ _ => 0) 0 fun _ => -1) 1 fun _ => -1
theorem kI_0 {B : Int} (hB : 0 ≤ B ∧ B ≤ 20000000) : kI B kF0 := by
  refine ⟨⟨by decide, by decide, fun i _ => ⟨rfl, rfl, rfl, rfl⟩, fun i => ⟨Int.le_refl _, (show (-1 : Int) < 0 by decide)⟩, fun i => ⟨Int.le_refl _, (show (-1 : Int) < 0 by decide)⟩, fun i => ⟨Int.le_refl _, hB.1⟩, fun i => Or.inl rfl, fun i h0 h1 => absurd h1 (by show ¬ i < 0; omega), ⟨Int.le_refl _, hB.1⟩, ⟨Int.le_refl _, hB.1⟩, ⟨Int.le_refl _, hB.1⟩, hB.2⟩, fun p => rfl, fun p hp => absurd rfl hp, rfl⟩
set_option maxHeartbeats 4000000 in
/-- Families: constructor -/
theorem c1_init {k : Nat} {h : jH} (hk : h k = some (jO 1 [.null, .null, .null, .null, .null, .null, iv 0, iv 0, iv 0, iv 0, iv 0])) (hN1 : h (k + 1) = none) (hN2 : h (k + 2) = none) (hN3 : h (k + 3) = none) (hN4 : h (k + 4) = none) (hN5 : h (k + 5) = none) (hN6 : h (k + 6) = none) : jM mX1_init 2 6 136 [k + 1, k + 2, k + 3, k + 4, k + 5, k + 6] [.ref k] h (fun r h' => r = none ∧ jOb sF k kF0 h' ∧ jEx k 7 h h') jno := by
  refine j_method (by decide +kernel) rfl (fun _ _ _ => trivial) (Nat.le_of_ble_eq_true rfl) ?_
  generalize hZ : jZ [k + 1, k + 2, k + 3, k + 4, k + 5, k + 6] 6 136 _ _ = Z
  show J mX1_init (jR 2 6 136) [k + 1, k + 2, k + 3, k + 4, k + 5, k + 6] Z 0 [(0, .ref k)] [] h 0 0
  refine j_aload_n dX1_init_0 rfl rfl ?_
  refine j_objInit dX1_init_1 (jw_mem 91 (by decide +kernel) (by decide +kernel)) (jw_mem 84 (by decide +kernel) (by decide +kernel)) (jw_mem 85 (by decide +kernel) (by decide +kernel)) (by decide) (Nat.le_of_ble_eq_true rfl) ?_
  refine j_aload_n dX1_init_4 rfl rfl ?_
  refine j_bipush dX1_init_5 (by decide +kernel) ?_
  refine j_newarray (t := 0) (k := k + 1) (n := 24) (f := fun _ => 0) rfl dX1_init_7 rfl (by decide) (jw_mem 132 (by decide +kernel) (by decide +kernel)) (by decide) hN1 (by simp) (jfr_1 (by simp) (by simp)) ⟨Nat.le_of_ble_eq_true rfl, Nat.le_of_ble_eq_true rfl⟩ ?_
  refine j_putfieldF (fs' := [.ref (k + 1), .null, .null, .null, .null, .null, iv 0, iv 0, iv 0, iv 0, iv 0]) dX1_init_9 jf_X1_9 (fun q hq => by cases hq; exact ⟨rfl, rfl, rfl⟩) rfl (jHold_arr _ _) (fun k9 q9 => by cases q9; intro z; have q := (jup_s).symm.trans z; cases q) (jup_n (by omega) hk) (Nat.le_of_ble_eq_true rfl) rfl ?_
  refine j_aload_n dX1_init_12 rfl rfl ?_
  refine j_bipush dX1_init_13 (by decide +kernel) ?_
  refine j_newarray (t := 0) (k := k + 2) (n := 24) (f := fun _ => 0) rfl dX1_init_15 rfl (by decide) (jw_mem 132 (by decide +kernel) (by decide +kernel)) (by decide) (jup_n (by omega) (jup_n (by omega) hN2)) (by simp) (jfr_1 (by simp) (by simp)) ⟨Nat.le_of_ble_eq_true rfl, Nat.le_of_ble_eq_true rfl⟩ ?_
  refine j_putfieldF (fs' := [.ref (k + 1), .ref (k + 2), .null, .null, .null, .null, iv 0, iv 0, iv 0, iv 0, iv 0]) dX1_init_17 jf_X1_15 (fun q hq => by cases hq; exact ⟨rfl, rfl, rfl⟩) rfl (jHold_arr _ _) (fun k9 q9 => by cases q9; intro z; have q := (jup_s).symm.trans z; cases q) (jup_n (by omega) jup_s) (Nat.le_of_ble_eq_true rfl) rfl ?_
  refine j_aload_n dX1_init_20 rfl rfl ?_
  refine j_bipush dX1_init_21 (by decide +kernel) ?_
  refine j_newarray (t := 0) (k := k + 3) (n := 24) (f := fun _ => 0) rfl dX1_init_23 rfl (by decide) (jw_mem 132 (by decide +kernel) (by decide +kernel)) (by decide) (jup_n (by omega) (jup_n (by omega) (jup_n (by omega) (jup_n (by omega) hN3)))) (by simp) (jfr_1 (by simp) (by simp)) ⟨Nat.le_of_ble_eq_true rfl, Nat.le_of_ble_eq_true rfl⟩ ?_
  refine j_putfieldF (fs' := [.ref (k + 1), .ref (k + 2), .ref (k + 3), .null, .null, .null, iv 0, iv 0, iv 0, iv 0, iv 0]) dX1_init_25 jf_X1_18 (fun q hq => by cases hq; exact ⟨rfl, rfl, rfl⟩) rfl (jHold_arr _ _) (fun k9 q9 => by cases q9; intro z; have q := (jup_s).symm.trans z; cases q) (jup_n (by omega) jup_s) (Nat.le_of_ble_eq_true rfl) rfl ?_
  refine j_aload_n dX1_init_28 rfl rfl ?_
  refine j_bipush dX1_init_29 (by decide +kernel) ?_
  refine j_newarray (t := 1) (k := k + 4) (n := 24) (f := fun _ => 0) rfl dX1_init_31 rfl (by decide) (jw_mem 133 (by decide +kernel) (by decide +kernel)) (by decide) (jup_n (by omega) (jup_n (by omega) (jup_n (by omega) (jup_n (by omega) (jup_n (by omega) (jup_n (by omega) hN4)))))) (by simp) (jfr_1 (by simp) (by simp)) ⟨Nat.le_of_ble_eq_true rfl, Nat.le_of_ble_eq_true rfl⟩ ?_
  refine j_putfieldF (fs' := [.ref (k + 1), .ref (k + 2), .ref (k + 3), .ref (k + 4), .null, .null, iv 0, iv 0, iv 0, iv 0, iv 0]) dX1_init_33 jf_X1_21 (fun q hq => by cases hq; exact ⟨rfl, rfl, rfl⟩) rfl (jHold_arr _ _) (fun k9 q9 => by cases q9; intro z; have q := (jup_s).symm.trans z; cases q) (jup_n (by omega) jup_s) (Nat.le_of_ble_eq_true rfl) rfl ?_
  refine j_aload_n dX1_init_36 rfl rfl ?_
  refine j_bipush dX1_init_37 (by decide +kernel) ?_
  refine j_newarray (t := 0) (k := k + 5) (n := 20) (f := fun _ => 0) rfl dX1_init_39 rfl (by decide) (jw_mem 132 (by decide +kernel) (by decide +kernel)) (by decide) (jup_n (by omega) (jup_n (by omega) (jup_n (by omega) (jup_n (by omega) (jup_n (by omega) (jup_n (by omega) (jup_n (by omega) (jup_n (by omega) hN5)))))))) (by simp) (jfr_1 (by simp) (by simp)) ⟨Nat.le_of_ble_eq_true rfl, Nat.le_of_ble_eq_true rfl⟩ ?_
  refine j_putfieldF (fs' := [.ref (k + 1), .ref (k + 2), .ref (k + 3), .ref (k + 4), .ref (k + 5), .null, iv 0, iv 0, iv 0, iv 0, iv 0]) dX1_init_41 jf_X1_25 (fun q hq => by cases hq; exact ⟨rfl, rfl, rfl⟩) rfl (jHold_arr _ _) (fun k9 q9 => by cases q9; intro z; have q := (jup_s).symm.trans z; cases q) (jup_n (by omega) jup_s) (Nat.le_of_ble_eq_true rfl) rfl ?_
  refine j_aload_n dX1_init_44 rfl rfl ?_
  refine j_bipush dX1_init_45 (by decide +kernel) ?_
  refine j_newarray (t := 0) (k := k + 6) (n := 20) (f := fun _ => 0) rfl dX1_init_47 rfl (by decide) (jw_mem 132 (by decide +kernel) (by decide +kernel)) (by decide) (jup_n (by omega) (jup_n (by omega) (jup_n (by omega) (jup_n (by omega) (jup_n (by omega) (jup_n (by omega) (jup_n (by omega) (jup_n (by omega) (jup_n (by omega) (jup_n (by omega) hN6)))))))))) (by simp) (jfr_1 (by simp) (by simp)) ⟨Nat.le_of_ble_eq_true rfl, Nat.le_of_ble_eq_true rfl⟩ ?_
  refine j_putfieldF (fs' := [.ref (k + 1), .ref (k + 2), .ref (k + 3), .ref (k + 4), .ref (k + 5), .ref (k + 6), iv 0, iv 0, iv 0, iv 0, iv 0]) dX1_init_49 jf_X1_28 (fun q hq => by cases hq; exact ⟨rfl, rfl, rfl⟩) rfl (jHold_arr _ _) (fun k9 q9 => by cases q9; intro z; have q := (jup_s).symm.trans z; cases q) (jup_n (by omega) jup_s) (Nat.le_of_ble_eq_true rfl) rfl ?_
  refine j_aload_n dX1_init_52 rfl rfl ?_
  refine j_iconst dX1_init_53 ?_
  refine j_putI (fs' := [.ref (k + 1), .ref (k + 2), .ref (k + 3), .ref (k + 4), .ref (k + 5), .ref (k + 6), iv (0), iv 0, iv 0, iv 0, iv 0]) dX1_init_54 jf_X1_31 (fun q hq => by cases hq; exact ⟨rfl, rfl⟩) (jHold_int _) jup_s (Nat.le_of_ble_eq_true rfl) rfl ?_
  refine j_aload_n dX1_init_57 rfl rfl ?_
  refine j_iconst dX1_init_58 ?_
  refine j_putI (fs' := [.ref (k + 1), .ref (k + 2), .ref (k + 3), .ref (k + 4), .ref (k + 5), .ref (k + 6), iv (0), iv (0), iv 0, iv 0, iv 0]) dX1_init_59 jf_X1_35 (fun q hq => by cases hq; exact ⟨rfl, rfl⟩) (jHold_int _) jup_s (Nat.le_of_ble_eq_true rfl) rfl ?_
  refine j_aload_n dX1_init_62 rfl rfl ?_
  refine j_iconst dX1_init_63 ?_
  refine j_putI (fs' := [.ref (k + 1), .ref (k + 2), .ref (k + 3), .ref (k + 4), .ref (k + 5), .ref (k + 6), iv (0), iv (0), iv (0), iv 0, iv 0]) dX1_init_64 jf_X1_38 (fun q hq => by cases hq; exact ⟨rfl, rfl⟩) (jHold_int _) jup_s (Nat.le_of_ble_eq_true rfl) rfl ?_
  refine j_aload_n dX1_init_67 rfl rfl ?_
  refine j_iconst dX1_init_68 ?_
  refine j_putI (fs' := [.ref (k + 1), .ref (k + 2), .ref (k + 3), .ref (k + 4), .ref (k + 5), .ref (k + 6), iv (0), iv (0), iv (0), iv (0), iv 0]) dX1_init_69 jf_X1_41 (fun q hq => by cases hq; exact ⟨rfl, rfl⟩) (jHold_int _) jup_s (Nat.le_of_ble_eq_true rfl) rfl ?_
  refine j_aload_n dX1_init_72 rfl rfl ?_
  refine j_iconst dX1_init_73 ?_
  refine j_putI (fs' := [.ref (k + 1), .ref (k + 2), .ref (k + 3), .ref (k + 4), .ref (k + 5), .ref (k + 6), iv (0), iv (0), iv (0), iv (0), iv (0)]) dX1_init_74 jf_X1_44 (fun q hq => by cases hq; exact ⟨rfl, rfl⟩) (jHold_int _) jup_s (Nat.le_of_ble_eq_true rfl) rfl ?_
  refine J.abs (S := sF) (k := k) (G := (fun _ _ => 0)) (n := 7) (h0 := h) ?_ ?_ (fun h2 hG hE => ?_)
  · refine ⟨jup_s, fun i p t n hi => ?_⟩
    match i, hi with
    | 0, hi => cases hi; exact (jup_n (by omega) (jup_n (by omega) (jup_n (by omega) (jup_n (by omega) (jup_n (by omega) (jup_n (by omega) (jup_n (by omega) (jup_n (by omega) (jup_n (by omega) (jup_n (by omega) (jup_n (by omega) (jup_n (by omega) (jup_n (by omega) (jup_n (by omega) (jup_n (by omega) (jup_n (by omega) jup_s))))))))))))))))
    | 1, hi => cases hi; exact (jup_n (by omega) (jup_n (by omega) (jup_n (by omega) (jup_n (by omega) (jup_n (by omega) (jup_n (by omega) (jup_n (by omega) (jup_n (by omega) (jup_n (by omega) (jup_n (by omega) (jup_n (by omega) (jup_n (by omega) (jup_n (by omega) (jup_n (by omega) jup_s))))))))))))))
    | 2, hi => cases hi; exact (jup_n (by omega) (jup_n (by omega) (jup_n (by omega) (jup_n (by omega) (jup_n (by omega) (jup_n (by omega) (jup_n (by omega) (jup_n (by omega) (jup_n (by omega) (jup_n (by omega) (jup_n (by omega) (jup_n (by omega) jup_s))))))))))))
    | 3, hi => cases hi; exact (jup_n (by omega) (jup_n (by omega) (jup_n (by omega) (jup_n (by omega) (jup_n (by omega) (jup_n (by omega) (jup_n (by omega) (jup_n (by omega) (jup_n (by omega) (jup_n (by omega) jup_s))))))))))
    | 4, hi => cases hi; exact (jup_n (by omega) (jup_n (by omega) (jup_n (by omega) (jup_n (by omega) (jup_n (by omega) (jup_n (by omega) (jup_n (by omega) (jup_n (by omega) jup_s))))))))
    | 5, hi => cases hi; exact (jup_n (by omega) (jup_n (by omega) (jup_n (by omega) (jup_n (by omega) (jup_n (by omega) (jup_n (by omega) jup_s))))))
    | 6, hi => cases hi
    | 7, hi => cases hi
    | 8, hi => cases hi
    | 9, hi => cases hi
    | 10, hi => cases hi
    | n9 + 11, hi => simp at hi
  · intro j hj
    simp only [jup]
    repeat rw [if_neg (by omega)]
  refine j_iconst dX1_init_77 ?_
  refine j_istore_n (L' := [(0, _), (1, _)]) dX1_init_78 rfl (by decide) rfl ?_
  refine jloop (P := fun z9 : Int × fS => ∀ h1 : jH, jOb sF k z9.2 h1 → jEx k 7 h h1 → J mX1_init (jR 2 6 136) [k + 1, k + 2, k + 3, k + 4, k + 5, k + 6] Z 79 [(0, .ref k), (1, iv z9.1)] [] h1 6 136) (fun z9 => 0 ≤ z9.1 ∧ z9.1 ≤ 24 ∧ (∀ j, 0 ≤ j → j < z9.1 → z9.2 0 j = -1 ∧ z9.2 1 j = -1) ∧ ∀ m, m ≠ 0 → m ≠ 1 → z9.2 m = fun _ => 0) (fun z9 => (24 - z9.1).toNat) ?_ (0, fun _ _ => 0) ?_ _ hG hE
  · rintro ⟨i, X⟩ hinv ih
    dsimp only at hinv ih ⊢
    intro h2 hG3 hE4
    obtain ⟨i1, i2, i3, i4⟩ := hinv
    refine j_iload_n dX1_init_79 rfl rfl ?_
    refine j_bipush dX1_init_80 (by decide +kernel) ?_
    refine j_icmp_ge (tgt := 105) dX1_init_82 (by decide) (by omega) (fun c5 => ?_) (fun c5 => ?_)
    · refine jo_re (S := sF) (i := 0) (p := 1) (t := 0) (n := 24) (g := fun _ => -1) okF hG3 rfl (fun j j0 j1 => (i3 j j0 (by omega)).1) (fun h8 hG8 hX8 => ?_)
      refine jo_re (S := sF) (i := 1) (p := 2) (t := 0) (n := 24) (g := fun _ => -1) okF hG8 rfl (fun j j0 j1 => (i3 j j0 (by omega)).2) (fun h9 hG9 hX9 => ?_)
      have e9 : gs (gs X 0 (fun _ => -1)) 1 (fun _ => -1) = kF0 := by
        funext m
        by_cases m1 : m = 1
        · rw [m1]; rfl
        · by_cases m0 : m = 0
          · rw [m0]; rfl
          · rw [gs_n m1, gs_n m0, i4 m m0 m1]; unfold kF0; rw [gs_n m1, gs_n m0]
      rw [e9] at hG9
      subst hZ
      exact j_return dX1_init_105 rfl ⟨rfl, hG9, (hE4.tr hX8).tr hX9⟩ (Nat.le_refl _) (Nat.le_refl _)
    · refine j_aload_n dX1_init_85 rfl rfl ?_
      refine j_getfield (v := .ref (k + 1)) dX1_init_86 jf_X1_9 hG3.1 rfl ?_
      refine j_iload_n dX1_init_89 rfl rfl ?_
      refine j_iconst dX1_init_90 ?_
      refine jo_ias (S := sF) (k := k) dX1_init_91 okF hG3 (i := 0) (p := 1) rfl (by omega) (by decide) (fun h6 hG6 hX6 => ?_)
      have hE7 := hE4.tr hX6
      refine j_aload_n dX1_init_92 rfl rfl ?_
      refine j_getfield (v := .ref (k + 2)) dX1_init_93 jf_X1_15 hG6.1 rfl ?_
      refine j_iload_n dX1_init_96 rfl rfl ?_
      refine j_iconst dX1_init_97 ?_
      refine jo_ias (S := sF) (k := k) dX1_init_98 okF hG6 (i := 1) (p := 2) rfl (by omega) (by decide) (fun h8 hG8 hX8 => ?_)
      have hE9 := hE7.tr hX8
      refine j_iinc (L' := [(0, _), (1, _)]) dX1_init_99 rfl (by decide) rfl ?_
      refine j_goto (tgt := 79) dX1_init_102 (by decide) ?_
      refine ih (i + 1, _) ⟨by show 0 ≤ i + 1; omega, by show i + 1 ≤ 24; omega, fun j j0 j1 => ?_, fun m m0 m1 => ?_⟩ (by show (24 - (i + 1)).toNat < (24 - i).toNat; omega) _ hG8 hE9
      · have j1 : j < i + 1 := j1
        show jfu (X 0) i (-1) j = -1 ∧ jfu (X 1) i (-1) j = -1
        by_cases hj : j = i
        · rw [hj, jfu_s, jfu_s]; exact ⟨rfl, rfl⟩
        · rw [jfu_n hj, jfu_n hj]; exact i3 j j0 (by omega)
      · exact (gs_n m1).trans ((gs_n m0).trans (i4 m m0 m1))
  · dsimp only
    exact ⟨by omega, by omega, fun j a b => by omega, fun _ _ _ => rfl⟩
/-- a copy is the same -/
def cpq (F2 X : fS) (i : Int) : Prop := ∀ j, 0 ≤ j → j < i → X 0 j = F2 0 j ∧ X 1 j = F2 1 j ∧ X 2 j = F2 2 j ∧ X 3 j = F2 3 j
set_option maxHeartbeats 4000000 in
/-- Families.copyFrom -/
theorem c1_copyFrom {k : Nat} {F : fS} {h : jH} (hF : jOb sF k F h) {k2 : Nat} {F2 : fS} (hd : k + 7 ≤ k2 ∨ k2 + 7 ≤ k) (h2 : jOb sF k2 F2 h) (hl : ∀ j, F2 3 j = 0 ∨ F2 3 j = 1) (hz : ∀ m x, F (m + 11) x = F2 (m + 11) x) : jM mX1_copyFrom 1 0 0 [] [.ref k, .ref k2] h (fun r h' => r = none ∧ jOb sF k F2 h' ∧ jEx k 7 h h') jno := by
  refine j_method (by decide +kernel) rfl (fun _ _ _ => trivial) (Nat.le_of_ble_eq_true rfl) ?_
  generalize hZ : jZ [] 0 0 _ _ = Z
  show J mX1_copyFrom (jR 1 0 0) [] Z 0 [(0, .ref k), (1, .ref k2)] [] h 0 0
  have hE0 : jEx k 7 h h := jEx.rf
  refine j_iconst dX1_copyFrom_0 ?_
  refine j_istore_n (L' := [(0, _), (1, _), (2, _)]) dX1_copyFrom_1 rfl (by decide) rfl ?_
  refine jloop (P := fun z9 : Int × fS => ∀ h1 : jH, jOb sF k z9.2 h1 → jOb sF k2 F2 h1 → jEx k 7 h h1 → J mX1_copyFrom (jR 1 0 0) [] Z 2 [(0, .ref k), (1, .ref k2), (2, iv z9.1)] [] h1 0 0) (fun z9 => 0 ≤ z9.1 ∧ z9.1 ≤ 24 ∧ cpq F2 z9.2 z9.1 ∧ ∀ m, 4 ≤ m → z9.2 m = F m) (fun z9 => (24 - z9.1).toNat) ?_ (0, F) ?_ _ hF h2 hE0
  · rintro ⟨i, X⟩ hinv ih
    dsimp only at hinv ih ⊢
    intro h2 hG3 hG4 hE5
    obtain ⟨i1, i2, i3, i4⟩ := hinv
    have hl9 := hl i
    refine j_iload_n dX1_copyFrom_2 rfl rfl ?_
    refine j_bipush dX1_copyFrom_3 (by decide +kernel) ?_
    refine j_icmp_ge (tgt := 62) dX1_copyFrom_5 (by decide) (by omega) (fun c6 => ?_) (fun c6 => ?_)
    · refine j_iconst dX1_copyFrom_62 ?_
      refine j_istore_n (L' := [(0, _), (1, _), (2, _)]) dX1_copyFrom_63 rfl (by decide) rfl ?_
      refine jloop (P := fun z9 : Int × fS => ∀ h7 : jH, jOb sF k z9.2 h7 → jOb sF k2 F2 h7 → jEx k 7 h h7 → J mX1_copyFrom (jR 1 0 0) [] Z 64 [(0, .ref k), (1, .ref k2), (2, iv z9.1)] [] h7 0 0) (fun z9 => 0 ≤ z9.1 ∧ z9.1 ≤ 20 ∧ (∀ j, 0 ≤ j → j < z9.1 → z9.2 4 j = F2 4 j ∧ z9.2 5 j = F2 5 j) ∧ ∀ m, m ≠ 4 → m ≠ 5 → z9.2 m = X m) (fun z9 => (20 - z9.1).toNat) ?_ (0, X) ?_ _ hG3 hG4 hE5
      · rintro ⟨q, Y⟩ hinv2 ih2
        dsimp only at hinv2 ih2 ⊢
        intro h8 hG9 hG10 hE11
        obtain ⟨q1, q2, q3, q4⟩ := hinv2
        refine j_iload_n dX1_copyFrom_64 rfl rfl ?_
        refine j_bipush dX1_copyFrom_65 (by decide +kernel) ?_
        refine j_icmp_ge (tgt := 100) dX1_copyFrom_67 (by decide) (by omega) (fun c12 => ?_) (fun c12 => ?_)
        · refine j_aload_n dX1_copyFrom_100 rfl rfl ?_
          refine j_aload_n dX1_copyFrom_101 rfl rfl ?_
          refine j_getfield (v := iv (F2 6 0)) dX1_copyFrom_102 jf_X1_31 hG10.1 rfl ?_
          refine jo_put (S := sF) dX1_copyFrom_105 jf_X1_31 (fun q hq => by cases hq; exact ⟨rfl, rfl⟩) (jHold_int _) okF hG9 rfl (fun h13 hG13 hX13 => ?_)
          have hG14 := hG10.ex okF hX13 (by show k2 + 7 ≤ k ∨ k + 7 ≤ k2; omega)
          have hE15 := hE11.tr hX13
          refine j_aload_n dX1_copyFrom_108 rfl rfl ?_
          refine j_aload_n dX1_copyFrom_109 rfl rfl ?_
          refine j_getfield (v := iv (F2 7 0)) dX1_copyFrom_110 jf_X1_35 hG14.1 rfl ?_
          refine jo_put (S := sF) dX1_copyFrom_113 jf_X1_35 (fun q hq => by cases hq; exact ⟨rfl, rfl⟩) (jHold_int _) okF hG13 rfl (fun h16 hG16 hX16 => ?_)
          have hG17 := hG14.ex okF hX16 (by show k2 + 7 ≤ k ∨ k + 7 ≤ k2; omega)
          have hE18 := hE15.tr hX16
          refine j_aload_n dX1_copyFrom_116 rfl rfl ?_
          refine j_aload_n dX1_copyFrom_117 rfl rfl ?_
          refine j_getfield (v := iv (F2 8 0)) dX1_copyFrom_118 jf_X1_38 hG17.1 rfl ?_
          refine jo_put (S := sF) dX1_copyFrom_121 jf_X1_38 (fun q hq => by cases hq; exact ⟨rfl, rfl⟩) (jHold_int _) okF hG16 rfl (fun h19 hG19 hX19 => ?_)
          have hG20 := hG17.ex okF hX19 (by show k2 + 7 ≤ k ∨ k + 7 ≤ k2; omega)
          have hE21 := hE18.tr hX19
          refine j_aload_n dX1_copyFrom_124 rfl rfl ?_
          refine j_aload_n dX1_copyFrom_125 rfl rfl ?_
          refine j_getfield (v := iv (F2 9 0)) dX1_copyFrom_126 jf_X1_41 hG20.1 rfl ?_
          refine jo_put (S := sF) dX1_copyFrom_129 jf_X1_41 (fun q hq => by cases hq; exact ⟨rfl, rfl⟩) (jHold_int _) okF hG19 rfl (fun h22 hG22 hX22 => ?_)
          have hG23 := hG20.ex okF hX22 (by show k2 + 7 ≤ k ∨ k + 7 ≤ k2; omega)
          have hE24 := hE21.tr hX22
          refine j_aload_n dX1_copyFrom_132 rfl rfl ?_
          refine j_aload_n dX1_copyFrom_133 rfl rfl ?_
          refine j_getfield (v := iv (F2 10 0)) dX1_copyFrom_134 jf_X1_44 hG23.1 rfl ?_
          refine jo_put (S := sF) dX1_copyFrom_137 jf_X1_44 (fun q hq => by cases hq; exact ⟨rfl, rfl⟩) (jHold_int _) okF hG22 rfl (fun h25 hG25 hX25 => ?_)
          have hG26 := hG23.ex okF hX25 (by show k2 + 7 ≤ k ∨ k + 7 ≤ k2; omega)
          have hE27 := hE24.tr hX25
          refine jo_re (S := sF) (i := 0) (p := 1) (t := 0) (n := 24) (g := F2 0) okF hG25 rfl (fun j j0 j1 => (congrFun (q4 0 (by omega) (by omega)) j).trans (i3 j j0 (by omega)).1) (fun h90 hG90 hX90 => ?_)
          refine jo_re (S := sF) (i := 1) (p := 2) (t := 0) (n := 24) (g := F2 1) okF hG90 rfl (fun j j0 j1 => (congrFun (q4 1 (by omega) (by omega)) j).trans (i3 j j0 (by omega)).2.1) (fun h91 hG91 hX91 => ?_)
          refine jo_re (S := sF) (i := 2) (p := 3) (t := 0) (n := 24) (g := F2 2) okF hG91 rfl (fun j j0 j1 => (congrFun (q4 2 (by omega) (by omega)) j).trans (i3 j j0 (by omega)).2.2.1) (fun h92 hG92 hX92 => ?_)
          refine jo_re (S := sF) (i := 3) (p := 4) (t := 1) (n := 24) (g := F2 3) okF hG92 rfl (fun j j0 j1 => (congrFun (q4 3 (by omega) (by omega)) j).trans (i3 j j0 (by omega)).2.2.2) (fun h93 hG93 hX93 => ?_)
          refine jo_re (S := sF) (i := 4) (p := 5) (t := 0) (n := 20) (g := F2 4) okF hG93 rfl (fun j j0 j1 => (q3 j j0 (by omega)).1) (fun h94 hG94 hX94 => ?_)
          refine jo_re (S := sF) (i := 5) (p := 6) (t := 0) (n := 20) (g := F2 5) okF hG94 rfl (fun j j0 j1 => (q3 j j0 (by omega)).2) (fun h95 hG95 hX95 => ?_)
          have hfin : jOb sF k F2 h95 := hG95.eqv (fun m => by
            match m with
            | 0 => rfl
            | 1 => rfl
            | 2 => rfl
            | 3 => rfl
            | 4 => rfl
            | 5 => rfl
            | 6 => rfl
            | 7 => rfl
            | 8 => rfl
            | 9 => rfl
            | 10 => rfl
            | m + 11 => unfold gn; rw [gs_n (show m + 11 ≠ 5 by omega), gs_n (show m + 11 ≠ 4 by omega), gs_n (show m + 11 ≠ 3 by omega), gs_n (show m + 11 ≠ 2 by omega), gs_n (show m + 11 ≠ 1 by omega), gs_n (show m + 11 ≠ 0 by omega), gs_n (show m + 11 ≠ 10 by omega), gs_n (show m + 11 ≠ 9 by omega), gs_n (show m + 11 ≠ 8 by omega), gs_n (show m + 11 ≠ 7 by omega), gs_n (show m + 11 ≠ 6 by omega), q4 _ (by omega) (by omega), i4 _ (by omega)]; exact (hz m 0).symm) (fun m p t n hm => by
            match m, hm with
            | 0, hm => rfl
            | 1, hm => rfl
            | 2, hm => rfl
            | 3, hm => rfl
            | 4, hm => rfl
            | 5, hm => rfl
            | 6, hm => cases hm
            | 7, hm => cases hm
            | 8, hm => cases hm
            | 9, hm => cases hm
            | 10, hm => cases hm
            | m + 11, hm => simp at hm)
          subst hZ
          exact j_return dX1_copyFrom_140 rfl ⟨rfl, hfin, ((((((hE27.tr hX90).tr hX91).tr hX92).tr hX93).tr hX94).tr hX95)⟩ (Nat.le_refl _) (Nat.le_refl _)
        · refine j_aload_n dX1_copyFrom_70 rfl rfl ?_
          refine j_getfield (v := .ref (k + 5)) dX1_copyFrom_71 jf_X1_25 hG9.1 rfl ?_
          refine j_iload_n dX1_copyFrom_74 rfl rfl ?_
          refine j_aload_n dX1_copyFrom_75 rfl rfl ?_
          refine j_getfield (v := .ref (k2 + 5)) dX1_copyFrom_76 jf_X1_25 hG10.1 rfl ?_
          refine j_iload_n dX1_copyFrom_79 rfl rfl ?_
          refine j_iaload (f := F2 4) dX1_copyFrom_80 (hG10.a 4 5 0 20 rfl) (by omega) (by decide) ?_
          refine jo_ias (S := sF) (k := k) dX1_copyFrom_81 okF hG9 (i := 4) (p := 5) rfl (by omega) (by decide) (fun h28 hG28 hX28 => ?_)
          have hG29 := hG10.ex okF hX28 (by show k2 + 7 ≤ k ∨ k + 7 ≤ k2; omega)
          have hE30 := hE11.tr hX28
          refine j_aload_n dX1_copyFrom_82 rfl rfl ?_
          refine j_getfield (v := .ref (k + 6)) dX1_copyFrom_83 jf_X1_28 hG28.1 rfl ?_
          refine j_iload_n dX1_copyFrom_86 rfl rfl ?_
          refine j_aload_n dX1_copyFrom_87 rfl rfl ?_
          refine j_getfield (v := .ref (k2 + 6)) dX1_copyFrom_88 jf_X1_28 hG29.1 rfl ?_
          refine j_iload_n dX1_copyFrom_91 rfl rfl ?_
          refine j_iaload (f := F2 5) dX1_copyFrom_92 (hG29.a 5 6 0 20 rfl) (by omega) (by decide) ?_
          refine jo_ias (S := sF) (k := k) dX1_copyFrom_93 okF hG28 (i := 5) (p := 6) rfl (by omega) (by decide) (fun h31 hG31 hX31 => ?_)
          have hG32 := hG29.ex okF hX31 (by show k2 + 7 ≤ k ∨ k + 7 ≤ k2; omega)
          have hE33 := hE30.tr hX31
          refine j_iinc (L' := [(0, _), (1, _), (2, _)]) dX1_copyFrom_94 rfl (by decide) rfl ?_
          refine j_goto (tgt := 64) dX1_copyFrom_97 (by decide) ?_
          refine ih2 (q + 1, _) ⟨by show 0 ≤ q + 1; omega, by show q + 1 ≤ 20; omega, fun j j0 j1 => ?_, fun m m0 m1 => ?_⟩ (by show (20 - (q + 1)).toNat < (20 - q).toNat; omega) _ hG31 hG32 hE33
          · have j1 : j < q + 1 := j1
            show jfu (Y 4) q (F2 4 q) j = _ ∧ jfu (Y 5) q (F2 5 q) j = _
            by_cases hj : j = q
            · rw [hj, jfu_s, jfu_s]; exact ⟨rfl, rfl⟩
            · rw [jfu_n hj, jfu_n hj]; exact q3 j j0 (by omega)
          · exact (gs_n m1).trans ((gs_n m0).trans (q4 m m0 m1))
      · dsimp only
        exact ⟨by omega, by omega, fun j a b => by omega, fun _ _ _ => rfl⟩
    · refine j_aload_n dX1_copyFrom_8 rfl rfl ?_
      refine j_getfield (v := .ref (k + 1)) dX1_copyFrom_9 jf_X1_9 hG3.1 rfl ?_
      refine j_iload_n dX1_copyFrom_12 rfl rfl ?_
      refine j_aload_n dX1_copyFrom_13 rfl rfl ?_
      refine j_getfield (v := .ref (k2 + 1)) dX1_copyFrom_14 jf_X1_9 hG4.1 rfl ?_
      refine j_iload_n dX1_copyFrom_17 rfl rfl ?_
      refine j_iaload (f := F2 0) dX1_copyFrom_18 (hG4.a 0 1 0 24 rfl) (by omega) (by decide) ?_
      refine jo_ias (S := sF) (k := k) dX1_copyFrom_19 okF hG3 (i := 0) (p := 1) rfl (by omega) (by decide) (fun h34 hG34 hX34 => ?_)
      have hG35 := hG4.ex okF hX34 (by show k2 + 7 ≤ k ∨ k + 7 ≤ k2; omega)
      have hE36 := hE5.tr hX34
      refine j_aload_n dX1_copyFrom_20 rfl rfl ?_
      refine j_getfield (v := .ref (k + 2)) dX1_copyFrom_21 jf_X1_15 hG34.1 rfl ?_
      refine j_iload_n dX1_copyFrom_24 rfl rfl ?_
      refine j_aload_n dX1_copyFrom_25 rfl rfl ?_
      refine j_getfield (v := .ref (k2 + 2)) dX1_copyFrom_26 jf_X1_15 hG35.1 rfl ?_
      refine j_iload_n dX1_copyFrom_29 rfl rfl ?_
      refine j_iaload (f := F2 1) dX1_copyFrom_30 (hG35.a 1 2 0 24 rfl) (by omega) (by decide) ?_
      refine jo_ias (S := sF) (k := k) dX1_copyFrom_31 okF hG34 (i := 1) (p := 2) rfl (by omega) (by decide) (fun h37 hG37 hX37 => ?_)
      have hG38 := hG35.ex okF hX37 (by show k2 + 7 ≤ k ∨ k + 7 ≤ k2; omega)
      have hE39 := hE36.tr hX37
      refine j_aload_n dX1_copyFrom_32 rfl rfl ?_
      refine j_getfield (v := .ref (k + 3)) dX1_copyFrom_33 jf_X1_18 hG37.1 rfl ?_
      refine j_iload_n dX1_copyFrom_36 rfl rfl ?_
      refine j_aload_n dX1_copyFrom_37 rfl rfl ?_
      refine j_getfield (v := .ref (k2 + 3)) dX1_copyFrom_38 jf_X1_18 hG38.1 rfl ?_
      refine j_iload_n dX1_copyFrom_41 rfl rfl ?_
      refine j_iaload (f := F2 2) dX1_copyFrom_42 (hG38.a 2 3 0 24 rfl) (by omega) (by decide) ?_
      refine jo_ias (S := sF) (k := k) dX1_copyFrom_43 okF hG37 (i := 2) (p := 3) rfl (by omega) (by decide) (fun h40 hG40 hX40 => ?_)
      have hG41 := hG38.ex okF hX40 (by show k2 + 7 ≤ k ∨ k + 7 ≤ k2; omega)
      have hE42 := hE39.tr hX40
      refine j_aload_n dX1_copyFrom_44 rfl rfl ?_
      refine j_getfield (v := .ref (k + 4)) dX1_copyFrom_45 jf_X1_21 hG40.1 rfl ?_
      refine j_iload_n dX1_copyFrom_48 rfl rfl ?_
      refine j_aload_n dX1_copyFrom_49 rfl rfl ?_
      refine j_getfield (v := .ref (k2 + 4)) dX1_copyFrom_50 jf_X1_21 hG41.1 rfl ?_
      refine j_iload_n dX1_copyFrom_53 rfl rfl ?_
      refine j_zaload (f := F2 3) dX1_copyFrom_54 (hG41.a 3 4 1 24 rfl) (by omega) (by decide) ?_
      refine jo_zas (S := sF) (k := k) dX1_copyFrom_55 okF hG40 (i := 3) (p := 4) rfl (by omega) (by omega) (by decide) (fun h43 hG43 hX43 => ?_)
      have hG44 := hG41.ex okF hX43 (by show k2 + 7 ≤ k ∨ k + 7 ≤ k2; omega)
      have hE45 := hE42.tr hX43
      refine j_iinc (L' := [(0, _), (1, _), (2, _)]) dX1_copyFrom_56 rfl (by decide) rfl ?_
      refine j_goto (tgt := 2) dX1_copyFrom_59 (by decide) ?_
      refine ih (i + 1, _) ⟨by show 0 ≤ i + 1; omega, by show i + 1 ≤ 24; omega, fun j j0 j1 => ?_, fun m m0 => ?_⟩ (by show (24 - (i + 1)).toNat < (24 - i).toNat; omega) _ hG43 hG44 hE45
      · have j1 : j < i + 1 := j1
        show jfu (X 0) i (F2 0 i) j = _ ∧ jfu (X 1) i (F2 1 i) j = _ ∧ jfu (X 2) i (F2 2 i) j = _ ∧ jfu (X 3) i (F2 3 i) j = _
        by_cases hj : j = i
        · rw [hj, jfu_s, jfu_s, jfu_s, jfu_s]; exact ⟨rfl, rfl, rfl, rfl⟩
        · rw [jfu_n hj, jfu_n hj, jfu_n hj, jfu_n hj]; exact i3 j j0 (by omega)
      · exact (gs_n (by omega)).trans ((gs_n (by omega)).trans ((gs_n (by omega)).trans ((gs_n (by omega)).trans (i4 m m0))))
  · dsimp only
    exact ⟨by omega, by omega, fun j a b => by omega, fun _ _ => rfl⟩
