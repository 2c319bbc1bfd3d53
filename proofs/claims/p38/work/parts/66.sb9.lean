theorem cb_ck3 {h : jH} {i n : Int} (hi : 0 ≤ i ∧ i < n ∧ n ≤ 1000) {kk : Nat} {v : Value} (hv : v = .null ∨ v = .ref kk) : jM mJ3_checkIndex_8e157 0 0 0 [] [iv i, iv n, v] h (jRet (iv i) h) jno := by
  rcases hv with rfl | rfl
  all_goals
  refine j_method (by decide +kernel) rfl (fun _ _ _ => trivial) (Nat.le_of_ble_eq_true rfl) ?_
  generalize hZ : jZ [] 0 0 _ _ = Z
  show J mJ3_checkIndex_8e157 (jR 0 0 0) [] Z 0 [(0, iv i), (1, iv n), (2, _)] [] h 0 0
  refine j_iload_n dJ3_checkIndex_8e157_0 rfl rfl ?_
  refine j_if_lt (tgt := 9) dJ3_checkIndex_8e157_1 (by decide) (by omega) (fun c => False.elim (by omega)) (fun c1 => ?_)
  refine j_iload_n dJ3_checkIndex_8e157_4 rfl rfl ?_
  refine j_iload_n dJ3_checkIndex_8e157_5 rfl rfl ?_
  refine j_icmp_lt (tgt := 16) dJ3_checkIndex_8e157_6 (by decide) (by omega) (fun c2 => ?_) (fun c => False.elim (by omega))
  refine j_iload_n dJ3_checkIndex_8e157_16 rfl rfl ?_
  subst hZ
  exact j_ireturn dJ3_checkIndex_8e157_17 rfl rfl ⟨rfl, rfl⟩ (Nat.le_refl _) (Nat.le_refl _)
theorem cb_ck0 {h : jH} {i n : Int} (hi : 0 ≤ i ∧ i < n ∧ n ≤ 1000) {kk : Nat} (hN : h kk = none) : jM mJ0_checkIndex_df160 1 0 0 [kk] [iv i, iv n] h (fun r h' => r = none ∧ h = h') jno := by
  refine j_method (by decide +kernel) rfl (fun _ _ _ => trivial) (Nat.le_of_ble_eq_true rfl) ?_
  generalize hZ : jZ [kk] 0 0 _ _ = Z
  show J mJ0_checkIndex_df160 (jR 1 0 0) [kk] Z 0 [(0, iv i), (1, iv n)] [] h 0 0
  refine j_iload_n dJ0_checkIndex_df160_0 rfl rfl ?_
  refine j_iload_n dJ0_checkIndex_df160_1 rfl rfl ?_
  refine j_getstR (k := kk) (jw_mem 962 (by decide +kernel) (by decide +kernel)) dJ0_checkIndex_df160_2 hN List.mem_cons_self (jfr_1 (by simp [iv]) (by simp [iv])) (fun v hv => ?_)
  refine j_callS (cb_ck3 hi hv) dJ0_checkIndex_df160_5 jc_J0_1059 jmS_J3_checkIndex_8e157 rfl rfl rfl (by simp) jfr_nil (Nat.le_of_ble_eq_true rfl) ⟨Nat.le_of_ble_eq_true rfl, Nat.le_of_ble_eq_true rfl⟩ ⟨Nat.le_of_ble_eq_true rfl, Nat.le_of_ble_eq_true rfl⟩ (fun r h1 hp9 => ?_) (fun E h9 q => q.elim)
  obtain ⟨rfl, rfl⟩ := hp9
  show J mJ0_checkIndex_df160 (jR 1 0 0) [kk] Z 8 _ (iv i :: []) _ _ _
  refine j_pop dJ0_checkIndex_df160_8 rfl ?_
  subst hZ
  exact j_return dJ0_checkIndex_df160_9 rfl ⟨rfl, rfl⟩ (Nat.le_refl _) (Nat.le_refl _)
set_option maxHeartbeats 4000000 in
/-- J5_charAt_5068e -/
theorem cb_charAt {k p n : Nat} {G : fS} {h : jH} (hpn : (p = 1 ∧ n = 16) ∨ (p = 2 ∧ n = 34)) (hG : jOb (sB p n) k G h) (hc0 : G 1 0 = 0) (hb : ∀ j, 0 ≤ G 0 j ∧ G 0 j < 128) {i : Int} (hi : 0 ≤ i ∧ i < G 3 0 ∧ G 3 0 ≤ n) {kk : Nat} (hN : h kk = none) (hkk : kk ≠ k ∧ kk ≠ k + p) : jM mJ5_charAt_5068e 2 0 0 [kk] [.ref k, iv i] h (jRet (iv (G 0 i)) h) jno := by
  refine j_method (by decide +kernel) rfl (fun _ _ _ => trivial) (Nat.le_of_ble_eq_true rfl) ?_
  generalize hZ : jZ [kk] 0 0 _ _ = Z
  show J mJ5_charAt_5068e (jR 2 0 0) [kk] Z 0 [(0, .ref k), (1, iv i)] [] h 0 0
  refine j_aload_n dJ5_charAt_5068e_0 rfl rfl ?_
  refine j_getfield (v := iv (G 1 0)) dJ5_charAt_5068e_1 jf_J5_22 hG.1 rfl ?_
  refine j_istore_n (L' := [(0, _), (1, _), (2, _)]) dJ5_charAt_5068e_4 rfl (by decide) rfl ?_
  refine j_aload_n dJ5_charAt_5068e_5 rfl rfl ?_
  refine j_getfield (v := .ref (k + p)) dJ5_charAt_5068e_6 jf_J5_15 hG.1 rfl ?_
  refine j_astore_n (L' := [(0, _), (1, _), (2, _), (3, _)]) dJ5_charAt_5068e_9 rfl (by decide) rfl ?_
  refine j_aload_n dJ5_charAt_5068e_10 rfl rfl ?_
  refine j_getfield (v := iv (G 3 0)) dJ5_charAt_5068e_11 jf_J5_79 hG.1 rfl ?_
  refine j_aload_n dJ5_charAt_5068e_14 rfl rfl ?_
  refine j_arraylength dJ5_charAt_5068e_15 (hG.a 0 p 3 n rfl) (by omega) ?_
  refine j_iload_n dJ5_charAt_5068e_16 rfl rfl ?_
  refine j_ishr (z := n) dJ5_charAt_5068e_17 (by rw [hc0]; exact jz_shr0 _) ?_
  refine j_mmin (jw_mem 1215 (by decide +kernel) (by decide +kernel)) (jw_mem 940 (by decide +kernel) (by decide +kernel)) (jw_mem 56 (by decide +kernel) (by decide +kernel)) (jw_mem 941 (by decide +kernel) (by decide +kernel)) (by omega) dJ5_charAt_5068e_18 (by decide) (by decide) (Nat.le_of_ble_eq_true rfl) ?_
  refine j_istore (L' := [(0, _), (1, _), (2, _), (3, _), (4, _)]) dJ5_charAt_5068e_21 (by decide) rfl ?_
  refine j_iload_n dJ5_charAt_5068e_23 rfl rfl ?_
  refine j_iload dJ5_charAt_5068e_24 rfl ?_
  refine j_callS (cb_ck0 (i := i) (n := min (G 3 0) n) (by omega) hN) dJ5_charAt_5068e_26 jc_J5_144 jmS_J0_checkIndex_df160 rfl rfl rfl (fun _ z => z) (jfr_1 (by intro q hq e; simp only [List.mem_cons, List.not_mem_nil, or_false] at hq; (repeat' (rcases hq with hq | hq)); all_goals (first | (cases e; done) | (cases e; omega))) (by simp [iv])) (Nat.le_of_ble_eq_true rfl) ⟨Nat.le_of_ble_eq_true rfl, Nat.le_of_ble_eq_true rfl⟩ ⟨Nat.le_of_ble_eq_true rfl, Nat.le_of_ble_eq_true rfl⟩ (fun r h1 hp9 => ?_) (fun E h9 q => q.elim)
  obtain ⟨rfl, rfl⟩ := hp9
  refine j_iload_n dJ5_charAt_5068e_29 rfl rfl ?_
  refine j_if_ne (tgt := 42) dJ5_charAt_5068e_30 (by decide) (by omega) (fun c2 => (by omega)) (fun c2 => ?_)
  refine j_aload_n dJ5_charAt_5068e_33 rfl rfl ?_
  refine j_iload_n dJ5_charAt_5068e_34 rfl rfl ?_
  refine j_baload (f := G 0) dJ5_charAt_5068e_35 (hG.a 0 p 3 n rfl) (by omega) (by omega) ?_
  refine j_sipush dJ5_charAt_5068e_36 (by decide +kernel) ?_
  refine j_iand (z := (G 0) i) dJ5_charAt_5068e_39 (jz_and255 (by have := hb i; omega)) ?_
  refine j_i2c (v := (G 0) i) dJ5_charAt_5068e_40 (jz_i2c (by have := hb i; omega)) ?_
  subst hZ
  exact j_ireturn dJ5_charAt_5068e_41 rfl (jn_char (by have := hb i; omega)) (jRet.i (by first | rfl | (exfalso; omega))) (Nat.le_refl _) (Nat.le_refl _)
theorem jcu_J4_329 : jCa RJ4 329 mJ5_charAt_5068e 1 := ⟨(jw_mem 1212 (by decide +kernel) (by decide +kernel)), ⟨by decide +kernel, by decide +kernel⟩, by decide +kernel⟩
set_option maxHeartbeats 4000000 in
/-- J4_charAt_5068e -/
theorem cb4_charAt {k p n : Nat} {G : fS} {h : jH} (hpn : (p = 1 ∧ n = 16) ∨ (p = 2 ∧ n = 34)) (hG : jOb (sB p n) k G h) (hc0 : G 1 0 = 0) (hb : ∀ j, 0 ≤ G 0 j ∧ G 0 j < 128) {i : Int} (hi : 0 ≤ i ∧ i < G 3 0 ∧ G 3 0 ≤ n) {kk : Nat} (hN : h kk = none) (hkk : kk ≠ k ∧ kk ≠ k + p) : jM mJ4_charAt_5068e 3 0 0 [kk] [.ref k, iv i] h (jRet (iv (G 0 i)) h) jno := by
  refine j_method (by decide +kernel) rfl (fun _ _ _ => trivial) (Nat.le_of_ble_eq_true rfl) ?_
  generalize hZ : jZ [kk] 0 0 _ _ = Z
  show J mJ4_charAt_5068e (jR 3 0 0) [kk] Z 0 [(0, .ref k), (1, iv i)] [] h 0 0
  refine j_aload_n dJ4_charAt_5068e_0 rfl rfl ?_
  refine j_iload_n dJ4_charAt_5068e_1 rfl rfl ?_
  refine j_callSU (cb_charAt hpn hG hc0 hb hi hN hkk) dJ4_charAt_5068e_2 rfl jcu_J4_329 jmU_J5_charAt_5068e rfl rfl hG.1 rfl (fun _ z => z) (jfr_1 (by intro q hq e; simp only [List.mem_cons, List.not_mem_nil, or_false] at hq; (repeat' (rcases hq with hq | hq)); all_goals (first | (cases e; done) | (cases e; omega))) (by simp [iv])) (Nat.le_of_ble_eq_true rfl) ⟨Nat.le_of_ble_eq_true rfl, Nat.le_of_ble_eq_true rfl⟩ ⟨Nat.le_of_ble_eq_true rfl, Nat.le_of_ble_eq_true rfl⟩ (fun r h1 hp9 => ?_)
  obtain ⟨rfl, rfl⟩ := hp9
  subst hZ
  exact j_ireturn dJ4_charAt_5068e_5 rfl (jn_char (by have := hb i; omega)) (jRet.i rfl) (Nat.le_refl _) (Nat.le_refl _)
theorem cb_init {k : Nat} {h : jH} (hk : h k = some (jO 6 [.null, iv 0, iv 0, iv 0])) (hN1 : h (k + 1) = none) (hN2 : h (k + 2) = none) : jM mJ5_init_d00df 2 1 16 [k + 1] [.ref k, iv 16] h (fun r h' => r = none ∧ jSB k 0 (fun _ => 0) h' ∧ jEx k 3 h h') jno := by
  refine j_method (by decide +kernel) rfl (fun _ _ _ => trivial) (Nat.le_of_ble_eq_true rfl) ?_
  generalize hZ : jZ [k + 1] 1 16 _ _ = Z
  show J mJ5_init_d00df (jR 2 1 16) [k + 1] Z 0 [(0, .ref k), (1, iv 16)] [] h 0 0
  refine j_aload_n dJ5_init_d00df_0 rfl rfl ?_
  refine j_objInit dJ5_init_d00df_1 (jw_mem 200 (by decide +kernel) (by decide +kernel)) (jw_mem 84 (by decide +kernel) (by decide +kernel)) (jw_mem 85 (by decide +kernel) (by decide +kernel)) (by decide) (Nat.le_of_ble_eq_true rfl) ?_
  refine j_compact (jw_mem 201 (by decide +kernel) (by decide +kernel)) dJ5_init_d00df_4 ?_
  refine j_if_eq (tgt := 25) dJ5_init_d00df_7 (by decide) (by omega) (fun c => absurd c (by decide)) (fun c1 => ?_)
  refine j_aload_n dJ5_init_d00df_10 rfl rfl ?_
  refine j_iload_n dJ5_init_d00df_11 rfl rfl ?_
  refine j_newarray (t := 3) (k := k + 1) (n := 16) (f := fun _ => 0) rfl dJ5_init_d00df_12 rfl (by decide) (jw_mem 224 (by decide +kernel) (by decide +kernel)) (by decide) hN1 List.mem_cons_self (jfr_1 (by simp [iv]) (by simp [iv])) ⟨Nat.le_of_ble_eq_true rfl, Nat.le_of_ble_eq_true rfl⟩ ?_
  refine j_putfield (fs' := [.ref (k + 1), iv 0, iv 0, iv 0]) dJ5_init_d00df_14 jf_J5_15 (fun q hq => by cases hq; exact ⟨rfl, rfl⟩) (jHold_arr _ _) (fun k9 q9 => by cases q9; rw [jup_s]; intro z; cases z) (jup_n (by omega) hk) (Nat.le_of_ble_eq_true rfl) rfl ?_
  refine j_aload_n dJ5_init_d00df_17 rfl rfl ?_
  refine j_iconst dJ5_init_d00df_18 ?_
  refine j_putI (fs' := [.ref (k + 1), iv 0, iv 0, iv 0]) dJ5_init_d00df_19 jf_J5_22 (fun q hq => by cases hq; exact ⟨rfl, rfl⟩) (jHold_byte (by omega)) jup_s (Nat.le_of_ble_eq_true rfl) rfl ?_
  refine j_goto (tgt := 38) dJ5_init_d00df_22 (by decide) ?_
  subst hZ
  refine j_return dJ5_init_d00df_38 rfl ⟨rfl, ⟨1, 16, fun _ _ => 0, .inl ⟨rfl, rfl, ?_⟩, ⟨?_, fun i p t n hi => ?_⟩, rfl, rfl, fun _ _ _ => rfl, fun _ => ⟨Int.le_refl _, by show (0 : Int) < 128; decide⟩, Int.le_refl _, by decide⟩, fun j hj => ?_⟩ (Nat.le_refl _) (Nat.le_refl _)
  · exact jup_n (by omega) (jup_n (by omega) (jup_n (by omega) hN2))
  · exact jup_s
  · match i, hi with
    | 0, hi => cases hi; exact jup_n (by omega) (jup_n (by omega) jup_s)
    | 1, hi => cases hi
    | 2, hi => cases hi
    | 3, hi => cases hi
    | i + 4, hi => simp at hi
  · exact jup_n (by omega) (jup_n (by omega) (jup_n (by omega) rfl))
theorem cb4_init {k : Nat} {h : jH} (hk : h k = some (jO 6 [.null, iv 0, iv 0, iv 0])) (hN1 : h (k + 1) = none) (hN2 : h (k + 2) = none) : jM mJ4_init_da8c8 3 1 16 [k + 1] [.ref k] h (fun r h' => r = none ∧ jSB k 0 (fun _ => 0) h' ∧ jEx k 3 h h') jno := by
  refine j_method (by decide +kernel) rfl (fun _ _ _ => trivial) (Nat.le_of_ble_eq_true rfl) ?_
  generalize hZ : jZ [k + 1] 1 16 _ _ = Z
  show J mJ4_init_da8c8 (jR 3 1 16) [k + 1] Z 0 [(0, .ref k)] [] h 0 0
  refine j_aload_n dJ4_init_da8c8_0 rfl rfl ?_
  refine j_bipush dJ4_init_da8c8_1 (by decide +kernel) ?_
  refine j_callI (cb_init hk hN1 hN2) dJ4_init_da8c8_3 jc_J4_1 jmI_J5_init_d00df rfl rfl rfl rfl rfl (fun _ z => z) (jfr_1 (by simp) (by simp)) (Nat.le_of_ble_eq_true rfl) ⟨Nat.le_of_ble_eq_true rfl, Nat.le_of_ble_eq_true rfl⟩ ⟨Nat.le_of_ble_eq_true rfl, Nat.le_of_ble_eq_true rfl⟩ (fun r h1 hp9 => ?_)
  obtain ⟨rfl, a1, a2⟩ := hp9
  subst hZ
  exact j_return dJ4_init_da8c8_6 rfl ⟨rfl, a1, a2⟩ (Nat.le_refl _) (Nat.le_refl _)
