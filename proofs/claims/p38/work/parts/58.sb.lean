/-- StringBuilder: its row, coder, maybeLatin1, count -/
abbrev sB (p n : Nat) : jSc := (6, p + 1, [(1, p, 3, n), (0, 0, 0, 0), (0, 0, 0, 0), (0, 0, 0, 0)])
theorem okB {p n : Nat} (h : (p = 1 ∧ n = 16) ∨ (p = 2 ∧ n = 34)) : jSok (sB p n) := by
  have key : ∀ i p' t n' : Nat, (sB p n).2.2[i]? = some (1, p', t, n') → i = 0 ∧ p' = p := fun i p' t n' hi => by
    match i, hi with
    | 0, hi => cases hi; exact ⟨rfl, rfl⟩
    | 1, hi => cases hi
    | 2, hi => cases hi
    | 3, hi => cases hi
    | i + 4, hi => simp at hi
  refine ⟨fun i p' t n' hi => ?_, fun i j p' t n' t' n'' hi hj => (key _ _ _ _ hi).1.trans (key _ _ _ _ hj).1.symm, by show 1 ≤ p + 1; omega⟩
  have := (key _ _ _ _ hi).2
  show 1 ≤ p' ∧ p' < p + 1
  omega
theorem jz_shl0 (x : Int) : Int32.ofInt x <<< (Int32.ofInt 0 &&& 31) = Int32.ofInt x := by
  rw [show (Int32.ofInt 0 &&& 31) = 0 by decide]
  exact Int32.shiftLeft_zero
theorem jz_shr0 (x : Int) : Int32.ofInt x >>> (Int32.ofInt 0 &&& 31) = Int32.ofInt x := by
  rw [show (Int32.ofInt 0 &&& 31) = 0 by decide]
  exact Int32.shiftRight_zero
section JO9
variable {M : jMe} {R : Room} {nw : List Nat} {Z : jFin} {pc pc' : Nat} {L L' : List (Nat × Value)} {st st' : List Value} {h h' : jH} {nc ns nc' ns' mc ms : Nat}
variable {S : jSc} {k : Nat} {G : fS}
theorem jo_bas {i p n : Nat} {x v : Int} (hd : decode M.2.1 pc = .ok (.bastore, 1)) (hs : jSok S) (hG : jOb S k G h) (hi : S.2.2[i]? = some (1, p, 3, n)) (hx : 0 ≤ x ∧ x < n) (hv : -128 ≤ v ∧ v < 128) (hn : n ≤ 2147483647)
    (kk : ∀ h2, jOb S k (gs G i (jfu (G i) x v)) h2 → jEx k S.2.1 h h2 → J M R nw Z (pc + 1) L st h2 nc ns) : J M R nw Z pc L (iv v :: iv x :: .ref (k + p) :: st) h nc ns :=
  j_bastore hd (hG.a i p 3 n hi) hx hv hn (kk _ (hG.arr hs hi) (jEx_up (by have := hs.1 i p 3 n hi; omega)))
end JO9
theorem jmU_J5_setLength_d00df : jmU mJ5_setLength_d00df := ⟨(jw_mem 1124 (by decide +kernel) (by decide +kernel)), (jw_mem 1415 (by decide +kernel) (by decide +kernel)), (jw_mem 52 (by decide +kernel) (by decide +kernel)), (jw_mem 1125 (by decide +kernel) (by decide +kernel)), rfl, by decide, .inr (.inr trivial)⟩
theorem jmU_J5_append_3fe6f : jmU mJ5_append_3fe6f := ⟨(jw_mem 1180 (by decide +kernel) (by decide +kernel)), (jw_mem 1416 (by decide +kernel) (by decide +kernel)), (jw_mem 52 (by decide +kernel) (by decide +kernel)), (jw_mem 1181 (by decide +kernel) (by decide +kernel)), rfl, by decide, .inr (.inr trivial)⟩
theorem jmU_J5_append_c97b9 : jmU mJ5_append_c97b9 := ⟨(jw_mem 1024 (by decide +kernel) (by decide +kernel)), (jw_mem 1414 (by decide +kernel) (by decide +kernel)), (jw_mem 52 (by decide +kernel) (by decide +kernel)), (jw_mem 1025 (by decide +kernel) (by decide +kernel)), rfl, by decide, .inr (.inr trivial)⟩
theorem jmU_J5_ensureCapacityInternal_d00df : jmU mJ5_ensureCapacityInternal_d00df := ⟨(jw_mem 914 (by decide +kernel) (by decide +kernel)), (jw_mem 1409 (by decide +kernel) (by decide +kernel)), (jw_mem 52 (by decide +kernel) (by decide +kernel)), (jw_mem 915 (by decide +kernel) (by decide +kernel)), rfl, by decide, .inr (.inr trivial)⟩
theorem jmU_J5_newCapacity_0f7a4 : jmU mJ5_newCapacity_0f7a4 := ⟨(jw_mem 918 (by decide +kernel) (by decide +kernel)), (jw_mem 1410 (by decide +kernel) (by decide +kernel)), (jw_mem 52 (by decide +kernel) (by decide +kernel)), (jw_mem 919 (by decide +kernel) (by decide +kernel)), rfl, by decide, .inr (.inr trivial)⟩
theorem jmU_J5_isLatin1_aae02 : jmU mJ5_isLatin1_aae02 := ⟨(jw_mem 946 (by decide +kernel) (by decide +kernel)), (jw_mem 947 (by decide +kernel) (by decide +kernel)), (jw_mem 52 (by decide +kernel) (by decide +kernel)), (jw_mem 949 (by decide +kernel) (by decide +kernel)), rfl, by decide, .inr (.inr trivial)⟩
theorem jmU_J5_length_8abf5 : jmU mJ5_length_8abf5 := ⟨(jw_mem 1064 (by decide +kernel) (by decide +kernel)), (jw_mem 1065 (by decide +kernel) (by decide +kernel)), (jw_mem 52 (by decide +kernel) (by decide +kernel)), (jw_mem 1070 (by decide +kernel) (by decide +kernel)), rfl, by decide, .inr (.inr trivial)⟩
theorem jmU_J5_charAt_5068e : jmU mJ5_charAt_5068e := ⟨(jw_mem 1213 (by decide +kernel) (by decide +kernel)), (jw_mem 1418 (by decide +kernel) (by decide +kernel)), (jw_mem 52 (by decide +kernel) (by decide +kernel)), (jw_mem 1214 (by decide +kernel) (by decide +kernel)), rfl, by decide, .inr (.inr trivial)⟩
set_option maxHeartbeats 4000000 in
/-- J5_isLatin1_aae02 -/
theorem cb_isLatin1 {k p n : Nat} {G : fS} {h : jH} (hpn : (p = 1 ∧ n = 16) ∨ (p = 2 ∧ n = 34)) (hG : jOb (sB p n) k G h) (hc0 : G 1 0 = 0)  : jM mJ5_isLatin1_aae02 1 0 0 [] [.ref k] h (jRet (iv 1) h) jno := by
  refine j_method (by decide +kernel) rfl (fun _ _ _ => trivial) (Nat.le_of_ble_eq_true rfl) ?_
  generalize hZ : jZ [] 0 0 _ _ = Z
  show J mJ5_isLatin1_aae02 (jR 1 0 0) [] Z 0 [(0, .ref k)] [] h 0 0
  refine j_compact (jw_mem 201 (by decide +kernel) (by decide +kernel)) dJ5_isLatin1_aae02_0 ?_
  refine j_if_eq (tgt := 17) dJ5_isLatin1_aae02_3 (by decide) (by omega) (fun c1 => absurd c1 (by decide)) (fun c1 => ?_)
  refine j_aload_n dJ5_isLatin1_aae02_6 rfl rfl ?_
  refine j_getfield (v := iv (G 1 0)) dJ5_isLatin1_aae02_7 jf_J5_22 hG.1 rfl ?_
  refine j_if_ne (tgt := 17) dJ5_isLatin1_aae02_10 (by decide) (by omega) (fun c2 => ?_) (fun c2 => ?_)
  · refine j_iconst dJ5_isLatin1_aae02_17 ?_
    subst hZ
    exact j_ireturn dJ5_isLatin1_aae02_18 rfl rfl (jRet.i (by first | rfl | (exfalso; omega))) (Nat.le_refl _) (Nat.le_refl _)
  · refine j_iconst dJ5_isLatin1_aae02_13 ?_
    refine j_goto (tgt := 18) dJ5_isLatin1_aae02_14 (by decide) ?_
    subst hZ
    exact j_ireturn dJ5_isLatin1_aae02_18 rfl rfl (jRet.i (by first | rfl | (exfalso; omega))) (Nat.le_refl _) (Nat.le_refl _)
set_option maxHeartbeats 4000000 in
/-- J1_canEncode_fc78d -/
theorem cb_canEncode  {h : jH} {c : Int} (hc : 0 ≤ c ∧ c < 128) : jM mJ1_canEncode_fc78d 1 0 0 [] [iv c] h (jRet (iv 1) h) jno := by
  refine j_method (by decide +kernel) rfl (fun _ _ _ => trivial) (Nat.le_of_ble_eq_true rfl) ?_
  generalize hZ : jZ [] 0 0 _ _ = Z
  show J mJ1_canEncode_fc78d (jR 1 0 0) [] Z 0 [(0, iv c)] [] h 0 0
  refine j_iload_n dJ1_canEncode_fc78d_0 rfl rfl ?_
  refine j_sipush dJ1_canEncode_fc78d_1 (by decide +kernel) ?_
  refine j_icmp_gt (tgt := 11) dJ1_canEncode_fc78d_4 (by decide) (by omega) (fun c1 => ?_) (fun c1 => ?_)
  · refine j_iconst dJ1_canEncode_fc78d_11 ?_
    subst hZ
    exact j_ireturn dJ1_canEncode_fc78d_12 rfl rfl (jRet.i (by first | rfl | (exfalso; omega))) (Nat.le_refl _) (Nat.le_refl _)
  · refine j_iconst dJ1_canEncode_fc78d_7 ?_
    refine j_goto (tgt := 12) dJ1_canEncode_fc78d_8 (by decide) ?_
    subst hZ
    exact j_ireturn dJ1_canEncode_fc78d_12 rfl rfl (jRet.i (by first | rfl | (exfalso; omega))) (Nat.le_refl _) (Nat.le_refl _)
set_option maxHeartbeats 4000000 in
/-- J8_newLength_cabcc -/
theorem cb_newLength  {h : jH} {a x y : Int} (ha : 0 ≤ a ∧ a ≤ 1000 ∧ 0 < x ∧ x ≤ 1000 ∧ 0 ≤ y ∧ y ≤ 1000) : jM mJ8_newLength_cabcc 2 0 0 [] [iv a, iv x, iv y] h (jRet (iv (a + max x y)) h) jno := by
  refine j_method (by decide +kernel) rfl (fun _ _ _ => trivial) (Nat.le_of_ble_eq_true rfl) ?_
  generalize hZ : jZ [] 0 0 _ _ = Z
  show J mJ8_newLength_cabcc (jR 2 0 0) [] Z 0 [(0, iv a), (1, iv x), (2, iv y)] [] h 0 0
  refine j_iload_n dJ8_newLength_cabcc_0 rfl rfl ?_
  refine j_iload_n dJ8_newLength_cabcc_1 rfl rfl ?_
  refine j_iload_n dJ8_newLength_cabcc_2 rfl rfl ?_
  refine j_mmax (jw_mem 923 (by decide +kernel) (by decide +kernel)) (jw_mem 306 (by decide +kernel) (by decide +kernel)) (jw_mem 56 (by decide +kernel) (by decide +kernel)) (jw_mem 307 (by decide +kernel) (by decide +kernel)) (by omega) dJ8_newLength_cabcc_3 (by decide) (by decide) (Nat.le_of_ble_eq_true rfl) ?_
  refine j_iadd dJ8_newLength_cabcc_6 ?_
  refine j_istore_n (L' := [(0, _), (1, _), (2, _), (3, _)]) dJ8_newLength_cabcc_7 rfl (by decide) rfl ?_
  refine j_iconst dJ8_newLength_cabcc_8 ?_
  refine j_iload_n dJ8_newLength_cabcc_9 rfl rfl ?_
  refine j_icmp_ge (tgt := 21) dJ8_newLength_cabcc_10 (by decide) (by omega) (fun c1 => (by omega)) (fun c1 => ?_)
  refine j_iload_n dJ8_newLength_cabcc_13 rfl rfl ?_
  refine j_ldcI (n := 2147483639) dJ8_newLength_cabcc_14 (jw_mem 924 (by decide +kernel) (by decide +kernel)) ?_
  refine j_icmp_gt (tgt := 21) dJ8_newLength_cabcc_16 (by decide) (by omega) (fun c2 => (by omega)) (fun c2 => ?_)
  refine j_iload_n dJ8_newLength_cabcc_19 rfl rfl ?_
  subst hZ
  exact j_ireturn dJ8_newLength_cabcc_20 rfl rfl (jRet.i rfl) (Nat.le_refl _) (Nat.le_refl _)
set_option maxHeartbeats 4000000 in
/-- J5_newCapacity_0f7a4 -/
theorem cb_newCapacity {k : Nat} {G : fS} {h : jH} (hG : jOb (sB 1 16) k G h) (hc0 : G 1 0 = 0) {m : Int} (hm : 16 < m ∧ m ≤ 34) : jM mJ5_newCapacity_0f7a4 3 0 0 [] [.ref k, iv m] h (jRet (iv 34) h) jno := by
  refine j_method (by decide +kernel) rfl (fun _ _ _ => trivial) (Nat.le_of_ble_eq_true rfl) ?_
  generalize hZ : jZ [] 0 0 _ _ = Z
  show J mJ5_newCapacity_0f7a4 (jR 3 0 0) [] Z 0 [(0, .ref k), (1, iv m)] [] h 0 0
  refine j_aload_n dJ5_newCapacity_0f7a4_0 rfl rfl ?_
  refine j_getfield (v := .ref (k + 1)) dJ5_newCapacity_0f7a4_1 jf_J5_15 hG.1 rfl ?_
  refine j_arraylength dJ5_newCapacity_0f7a4_4 (hG.a 0 1 3 16 rfl) (by decide) ?_
  refine j_istore_n (L' := [(0, _), (1, _), (2, _)]) dJ5_newCapacity_0f7a4_5 rfl (by decide) rfl ?_
  refine j_iload_n dJ5_newCapacity_0f7a4_6 rfl rfl ?_
  refine j_aload_n dJ5_newCapacity_0f7a4_7 rfl rfl ?_
  refine j_getfield (v := iv (G 1 0)) dJ5_newCapacity_0f7a4_8 jf_J5_22 hG.1 rfl ?_
  refine j_ishl (z := m) dJ5_newCapacity_0f7a4_11 (by rw [hc0]; exact jz_shl0 _) ?_
  refine j_istore_n (L' := [(0, _), (1, _), (2, _), (3, _)]) dJ5_newCapacity_0f7a4_12 rfl (by decide) rfl ?_
  refine j_iload_n dJ5_newCapacity_0f7a4_13 rfl rfl ?_
  refine j_iload_n dJ5_newCapacity_0f7a4_14 rfl rfl ?_
  refine j_isub dJ5_newCapacity_0f7a4_15 ?_
  refine j_istore (L' := [(0, _), (1, _), (2, _), (3, _), (4, _)]) dJ5_newCapacity_0f7a4_16 (by decide) rfl ?_
  refine j_iload_n dJ5_newCapacity_0f7a4_18 rfl rfl ?_
  refine j_iload dJ5_newCapacity_0f7a4_19 rfl ?_
  refine j_iload_n dJ5_newCapacity_0f7a4_21 rfl rfl ?_
  refine j_iconst dJ5_newCapacity_0f7a4_22 ?_
  refine j_aload_n dJ5_newCapacity_0f7a4_23 rfl rfl ?_
  refine j_getfield (v := iv (G 1 0)) dJ5_newCapacity_0f7a4_24 jf_J5_22 hG.1 rfl ?_
  refine j_ishl (z := 2) dJ5_newCapacity_0f7a4_27 (by rw [hc0]; exact jz_shl0 _) ?_
  refine j_iadd dJ5_newCapacity_0f7a4_28 ?_
  refine j_callS (cb_newLength (a := 16) (x := m - 16) (y := 16 + 2) (by omega)) dJ5_newCapacity_0f7a4_29 jc_J5_114 jmS_J8_newLength_cabcc rfl rfl rfl (by simp) jfr_nil (Nat.le_of_ble_eq_true rfl) ⟨Nat.le_of_ble_eq_true rfl, Nat.le_of_ble_eq_true rfl⟩ ⟨Nat.le_of_ble_eq_true rfl, Nat.le_of_ble_eq_true rfl⟩ (fun r h1 hp9 => ?_) (fun E h9 q => q.elim)
  obtain ⟨rfl, rfl⟩ := hp9
  refine j_istore (L' := [(0, _), (1, _), (2, _), (3, _), (4, _), (5, _)]) dJ5_newCapacity_0f7a4_32 (by decide) rfl ?_
  refine j_iload dJ5_newCapacity_0f7a4_34 rfl ?_
  refine j_ldcI (n := 2147483647) dJ5_newCapacity_0f7a4_36 (jw_mem 928 (by decide +kernel) (by decide +kernel)) ?_
  refine j_icmp_ne (tgt := 51) dJ5_newCapacity_0f7a4_38 (by decide) (by omega) (fun c2 => ?_) (fun c2 => (by omega))
  refine j_iload dJ5_newCapacity_0f7a4_51 rfl ?_
  refine j_aload_n dJ5_newCapacity_0f7a4_53 rfl rfl ?_
  refine j_getfield (v := iv (G 1 0)) dJ5_newCapacity_0f7a4_54 jf_J5_22 hG.1 rfl ?_
  refine j_ishr (z := 16 + max (m - 16) (16 + 2)) dJ5_newCapacity_0f7a4_57 (by rw [hc0]; exact jz_shr0 _) ?_
  subst hZ
  exact j_ireturn dJ5_newCapacity_0f7a4_58 rfl rfl (jRet.i (by omega)) (Nat.le_refl _) (Nat.le_refl _)
theorem jOb_off {k : Nat} {G : fS} {h : jH} {c : jC} (hG : jOb (sB 1 16) k G h) : jOb (sB 1 16) k G (jup h (k + 2) c) :=
  ⟨jup_n (by omega) hG.1, fun i p t n hi => by
    match i, hi with
    | 0, hi => cases hi; exact jup_n (by omega) (hG.a 0 1 3 16 rfl)
    | 1, hi => cases hi
    | 2, hi => cases hi
    | 3, hi => cases hi
    | i + 4, hi => simp at hi⟩
set_option maxHeartbeats 4000000 in
/-- J7_copyOf_9075b -/
theorem cb_copyOf {k : Nat} {G : fS} {h : jH} (hG : jOb (sB 1 16) k G h) (hN : h (k + 2) = none) (hb : ∀ j, 0 ≤ G 0 j ∧ G 0 j < 128) : jM mJ7_copyOf_9075b 2 1 34 [k + 2] [.ref (k + 1), iv 34] h (fun r h' => r = some (.ref (k + 2)) ∧ h' (k + 2) = some (jA 3 34 (jcpy (G 0) (fun _ => 0) 0 0 (min 16 34))) ∧ jEx (k + 2) 1 h h') jno := by
  refine j_method (by decide +kernel) rfl (fun _ _ _ => trivial) (Nat.le_of_ble_eq_true rfl) ?_
  generalize hZ : jZ [k + 2] 1 34 _ _ = Z
  show J mJ7_copyOf_9075b (jR 2 1 34) [k + 2] Z 0 [(0, .ref (k + 1)), (1, iv 34)] [] h 0 0
  refine j_iload_n dJ7_copyOf_9075b_0 rfl rfl ?_
  refine j_aload_n dJ7_copyOf_9075b_1 rfl rfl ?_
  refine j_arraylength dJ7_copyOf_9075b_2 (hG.a 0 1 3 16 rfl) (by decide) ?_
  refine j_icmp_ne (tgt := 14) dJ7_copyOf_9075b_3 (by decide) (by omega) (fun c1 => ?_) (fun c1 => absurd c1 (by decide))
  refine j_iload_n dJ7_copyOf_9075b_14 rfl rfl ?_
  refine j_newarray (t := 3) (k := k + 2) (n := 34) (f := fun _ => 0) rfl dJ7_copyOf_9075b_15 rfl (by decide) (jw_mem 224 (by decide +kernel) (by decide +kernel)) (by decide) hN (by simp) (jfr_1 (by simp [iv]) (by simp [iv])) ⟨Nat.le_of_ble_eq_true rfl, Nat.le_of_ble_eq_true rfl⟩ ?_
  have hGn := jOb_off (c := jA 3 34 fun _ => 0) hG
  refine j_astore_n (L' := [(0, _), (1, _), (2, _)]) dJ7_copyOf_9075b_17 rfl (by decide) rfl ?_
  refine j_aload_n dJ7_copyOf_9075b_18 rfl rfl ?_
  refine j_iconst dJ7_copyOf_9075b_19 ?_
  refine j_aload_n dJ7_copyOf_9075b_20 rfl rfl ?_
  refine j_iconst dJ7_copyOf_9075b_21 ?_
  refine j_aload_n dJ7_copyOf_9075b_22 rfl rfl ?_
  refine j_arraylength dJ7_copyOf_9075b_23 (hGn.a 0 1 3 16 rfl) (by decide) ?_
  refine j_iload_n dJ7_copyOf_9075b_24 rfl rfl ?_
  refine j_mmin (jw_mem 939 (by decide +kernel) (by decide +kernel)) (jw_mem 940 (by decide +kernel) (by decide +kernel)) (jw_mem 56 (by decide +kernel) (by decide +kernel)) (jw_mem 941 (by decide +kernel) (by decide +kernel)) (by omega) dJ7_copyOf_9075b_25 (by decide) (by decide) (Nat.le_of_ble_eq_true rfl) ?_
  refine j_copyT (t := 3) (n0 := 16) (n1 := 34) (by decide) dJ7_copyOf_9075b_28 (jw_mem 942 (by decide +kernel) (by decide +kernel)) (jw_mem 944 (by decide +kernel) (by decide +kernel)) (jw_mem 943 (by decide +kernel) (by decide +kernel)) (jw_mem 68 (by decide +kernel) (by decide +kernel)) (hGn.a 0 1 3 16 rfl) jup_s (by omega) (fun x => jfit_byte (by have := hb x; omega)) (by decide) (by decide) ?_
  refine j_aload_n dJ7_copyOf_9075b_31 rfl rfl ?_
  subst hZ
  exact j_areturn dJ7_copyOf_9075b_32 rfl (.inr ⟨_, rfl⟩) ⟨rfl, jup_s, fun j hj => jup_n (by omega) (jup_n (by omega) rfl)⟩ (by decide) (by decide)
theorem jcpy_b {f : Int → Int} {n : Int} (hb : ∀ j, 0 ≤ f j ∧ f j < 128) : ∀ j, 0 ≤ jcpy f (fun _ => 0) 0 0 n j ∧ jcpy f (fun _ => 0) 0 0 n j < 128 := fun j => by
  unfold jcpy
  split
  · exact hb _
  · exact ⟨Int.le_refl _, by show (0 : Int) < 128; decide⟩
theorem jOb_of {k : Nat} {G : fS} {h h' : jH} (hG : jOb (sB 1 16) k G h) (hE : jEx (k + 2) 1 h h') : jOb (sB 1 16) k G h' :=
  ⟨(hE k (by omega)).trans hG.1, fun i p t n hi => by
    match i, hi with
    | 0, hi => cases hi; exact (hE (k + 1) (by omega)).trans (hG.a 0 1 3 16 rfl)
    | 1, hi => cases hi
    | 2, hi => cases hi
    | 3, hi => cases hi
    | i + 4, hi => simp at hi⟩
theorem jOb_gr {k : Nat} {G : fS} {h : jH} {f : Int → Int} (hN : h (k + 2) = some (jA 3 34 f)) : jOb (sB 2 34) k (gs G 0 f) (jup h k (jO 6 [.ref (k + 2), iv (G 1 0), iv (G 2 0), iv (G 3 0)])) :=
  ⟨jup_s, fun i p t n hi => by
    match i, hi with
    | 0, hi => cases hi; exact jup_n (by omega) hN
    | 1, hi => cases hi
    | 2, hi => cases hi
    | 3, hi => cases hi
    | i + 4, hi => simp at hi⟩
/-- the places of the row -/
def sbP (k p n : Nat) (h : jH) : Prop := (p = 1 ∧ n = 16 ∧ h (k + 2) = none) ∨ (p = 2 ∧ n = 34)
theorem sbP.o {k p n : Nat} {h : jH} (q : sbP k p n h) : (p = 1 ∧ n = 16) ∨ (p = 2 ∧ n = 34) := q.elim (fun z => .inl ⟨z.1, z.2.1⟩) .inr
theorem jcu_J5_104 : jCa RJ5 104 mJ5_newCapacity_0f7a4 1 := ⟨(jw_mem 916 (by decide +kernel) (by decide +kernel)), ⟨by decide +kernel, by decide +kernel⟩, by decide +kernel⟩
set_option maxHeartbeats 4000000 in
/-- J5_ensureCapacityInternal_d00df -/
theorem cb_ensure {k p n : Nat} {G : fS} {h : jH} (hq : sbP k p n h) (hG : jOb (sB p n) k G h) (hc0 : G 1 0 = 0) (hb : ∀ j, 0 ≤ G 0 j ∧ G 0 j < 128) {m : Int} (hm : 0 ≤ m ∧ m ≤ 34) : jM mJ5_ensureCapacityInternal_d00df 4 1 34 [k + 2] [.ref k, iv m] h (fun r h' => r = none ∧ ∃ p' n' f, sbP k p' n' h' ∧ jOb (sB p' n') k (gs G 0 f) h' ∧ (∀ j : Int, 0 ≤ j → j < (n : Int) → f j = G 0 j) ∧ (∀ j, 0 ≤ f j ∧ f j < 128) ∧ m ≤ n' ∧ jEx k 3 h h') jno := by
  refine j_method (by decide +kernel) rfl (fun _ _ _ => trivial) (Nat.le_of_ble_eq_true rfl) ?_
  generalize hZ : jZ [k + 2] 1 34 _ _ = Z
  show J mJ5_ensureCapacityInternal_d00df (jR 4 1 34) [k + 2] Z 0 [(0, .ref k), (1, iv m)] [] h 0 0
  have hpn := hq.o
  have hE0 : jEx k 3 h h := jEx.rf
  refine j_aload_n dJ5_ensureCapacityInternal_d00df_0 rfl rfl ?_
  refine j_getfield (v := .ref (k + p)) dJ5_ensureCapacityInternal_d00df_1 jf_J5_15 hG.1 rfl ?_
  refine j_arraylength dJ5_ensureCapacityInternal_d00df_4 (hG.a 0 p 3 n rfl) (by decide) ?_
  refine j_aload_n dJ5_ensureCapacityInternal_d00df_5 rfl rfl ?_
  refine j_getfield (v := iv (G 1 0)) dJ5_ensureCapacityInternal_d00df_6 jf_J5_22 hG.1 rfl ?_
  refine j_ishr (z := n) dJ5_ensureCapacityInternal_d00df_9 (by rw [hc0]; exact jz_shr0 _) ?_
  refine j_istore_n (L' := [(0, _), (1, _), (2, _)]) dJ5_ensureCapacityInternal_d00df_10 rfl (by decide) rfl ?_
  refine j_iload_n dJ5_ensureCapacityInternal_d00df_11 rfl rfl ?_
  refine j_iload_n dJ5_ensureCapacityInternal_d00df_12 rfl rfl ?_
  refine j_isub dJ5_ensureCapacityInternal_d00df_13 ?_
  refine j_if_le (tgt := 38) dJ5_ensureCapacityInternal_d00df_14 (by decide) (by omega) (fun c1 => ?_) (fun c1 => ?_)
  · subst hZ
    exact j_return dJ5_ensureCapacityInternal_d00df_38 rfl ⟨rfl, p, n, G 0, hq, (by rw [gs_id rfl]; exact hG), fun _ _ _ => rfl, hb, by omega, hE0⟩ (by omega) (by omega)
  · obtain ⟨rfl, rfl, hN⟩ : p = 1 ∧ n = 16 ∧ h (k + 2) = none := hq.elim id (fun z => by omega)
    refine j_aload_n dJ5_ensureCapacityInternal_d00df_17 rfl rfl ?_
    refine j_aload_n dJ5_ensureCapacityInternal_d00df_18 rfl rfl ?_
    refine j_getfield (v := .ref (k + 1)) dJ5_ensureCapacityInternal_d00df_19 jf_J5_15 hG.1 rfl ?_
    refine j_aload_n dJ5_ensureCapacityInternal_d00df_22 rfl rfl ?_
    refine j_iload_n dJ5_ensureCapacityInternal_d00df_23 rfl rfl ?_
    refine j_callU (cb_newCapacity hG hc0 (by omega)) dJ5_ensureCapacityInternal_d00df_24 jcu_J5_104 jmU_J5_newCapacity_0f7a4 (.inl (jw_mem2 1 (by decide +kernel) (by decide +kernel))) rfl rfl hG.1 rfl (by simp) jfr_nil (Nat.le_of_ble_eq_true rfl) ⟨Nat.le_of_ble_eq_true rfl, Nat.le_of_ble_eq_true rfl⟩ ⟨Nat.le_of_ble_eq_true rfl, Nat.le_of_ble_eq_true rfl⟩ (fun r h2 hp9 => ?_)
    obtain ⟨rfl, rfl⟩ := hp9
    refine j_aload_n dJ5_ensureCapacityInternal_d00df_27 rfl rfl ?_
    refine j_getfield (v := iv (G 1 0)) dJ5_ensureCapacityInternal_d00df_28 jf_J5_22 hG.1 rfl ?_
    refine j_ishl (z := 34) dJ5_ensureCapacityInternal_d00df_31 (by rw [hc0]; exact jz_shl0 _) ?_
    refine j_callS (cb_copyOf hG hN hb) dJ5_ensureCapacityInternal_d00df_32 jc_J5_108 jmS_J7_copyOf_9075b rfl rfl rfl (by simp) (jfr_1 (by simp [iv]) (by simp)) (Nat.le_of_ble_eq_true rfl) ⟨Nat.le_of_ble_eq_true rfl, Nat.le_of_ble_eq_true rfl⟩ ⟨Nat.le_of_ble_eq_true rfl, Nat.le_of_ble_eq_true rfl⟩ (fun r h3 hp9 => ?_) (fun E h9 q => q.elim)
    obtain ⟨rfl, hN2, hE2⟩ := hp9
    have hG2 := jOb_of hG hE2
    refine j_putfield (fs' := [.ref (k + 2), iv (G 1 0), iv (G 2 0), iv (G 3 0)]) dJ5_ensureCapacityInternal_d00df_35 jf_J5_15 (fun q hq => by cases hq; exact ⟨rfl, rfl⟩) (jHold_arr _ _) (fun k9 q9 => by cases q9; rw [hN2]; intro z; cases z) hG2.1 (Nat.le_of_ble_eq_true rfl) rfl ?_
    subst hZ
    exact j_return dJ5_ensureCapacityInternal_d00df_38 rfl ⟨rfl, 2, 34, _, .inr ⟨rfl, rfl⟩, jOb_gr hN2, fun j j0 j1 => (if_pos (by omega)).trans (congrArg (G 0) (by omega)), jcpy_b hb, by omega, fun j hj => jup_n (by omega) (hE2 j (by omega))⟩ (by omega) (by omega)
