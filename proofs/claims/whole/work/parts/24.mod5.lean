def mTx (G : fS) : Prop := (0 ≤ G 17 0 ∧ G 17 0 ≤ 60) ∧ (0 ≤ G 16 0 ∧ G 16 0 ≤ 60) ∧ (G 18 0 = 0 ∨ G 18 0 = 1) ∧ ∀ j, 0 ≤ G 15 j ∧ G 15 j < 65536
theorem mTx.at {G : fS} {a : Int} (h : mTx G) (ha : 0 ≤ a ∧ a ≤ 60) : mTx (gn G 17 a) := ⟨ha, h.2.1, h.2.2.1, h.2.2.2⟩
theorem mTx.wr {G : fS} {w : Int} (h : mTx G) (hw : w = 0 ∨ w = 1) : mTx (gn G 18 w) := ⟨h.1, h.2.1, hw, h.2.2.2⟩
def m_sign (G : fS) (lo hi : Int) : Int × fS := if (bi (G 18 0 = 0 ∧ G 17 0 < G 16 0 ∧ lo ≤ (G 15) (G 17 0) ∧ (G 15) (G 17 0) ≤ hi)) = 0 then (0, gn G 18 1) else (((G 15) (((G 17 0) + 1) - 1)) - lo, gn (gn G 18 0) 17 ((G 17 0) + 1))
set_option maxHeartbeats 4000000 in
/-- reference: sign -/
theorem c5_sign {k : Nat} {G : fS} {h : jH} (hG : jOb sM k G h) {lo hi : Int} (hl : 0 ≤ lo ∧ lo < 65536) (hh : 0 ≤ hi ∧ hi < 65536) (hT : mTx G) : jM mX5_sign 2 0 0 [] [.ref k, iv lo, iv hi] h (jWi sM k (m_sign G lo hi) h) jno := by
  refine j_method (by decide +kernel) rfl (fun _ _ _ => trivial) (Nat.le_of_ble_eq_true rfl) ?_
  generalize hZ : jZ [] 0 0 _ _ = Z
  show J mX5_sign (jR 2 0 0) [] Z 0 [(0, .ref k), (1, iv lo), (2, iv hi)] [] h 0 0
  obtain ⟨t1, t2, t3, t4⟩ := id hT
  have t9 := t4 (G 17 0)
  have hE0 : jEx k 10 h h := jEx.rf
  refine j_aload_n dX5_sign_0 rfl rfl ?_
  refine j_aload_n dX5_sign_1 rfl rfl ?_
  refine j_iload_n dX5_sign_2 rfl rfl ?_
  refine j_iload_n dX5_sign_3 rfl rfl ?_
  refine j_callV (c5_isHere hG (by omega) (by omega) hT.1 hT.2.1 hT.2.2.1 hT.2.2.2) dX5_sign_4 jc_X5_213 jmV_X5_isHere rfl rfl hG.1 rfl rfl (by simp) jfr_nil (Nat.le_of_ble_eq_true rfl) ⟨Nat.le_of_ble_eq_true rfl, Nat.le_of_ble_eq_true rfl⟩ ⟨Nat.le_of_ble_eq_true rfl, Nat.le_of_ble_eq_true rfl⟩ (fun r h1 hp9 => ?_) (fun E h9 q => q.elim)
  obtain ⟨rfl, rfl⟩ := hp9
  refine j_if_ne (tgt := 14) dX5_sign_7 (by decide) (bi_r32 _) (fun c2 => ?_) (fun c2 => ?_)
  · have qc2 := bi_nz c2
    refine j_iconst dX5_sign_14 ?_
    refine jo_put (S := sM) dX5_sign_15 jf_X5_207 (fun q hq => by cases hq; exact ⟨rfl, rfl⟩) (jHold_bool (by omega)) okM hG rfl (fun h3 hG3 hX3 => ?_)
    have hE4 := hE0.tr hX3
    have hT5 : mTx (gn G 18 0) := mTx.wr hT (by omega)
    refine j_aload_n dX5_sign_18 rfl rfl ?_
    refine j_getfield (v := iv 0) dX5_sign_19 jf_X5_207 hG3.1 rfl ?_
    refine j_if_eq (tgt := 27) dX5_sign_22 (by decide) (by omega) (fun c6 => ?_) (fun c6 => absurd (by decide) c6)
    refine j_aload_n dX5_sign_27 rfl rfl ?_
    refine j_dup dX5_sign_28 rfl ?_
    refine j_getfield (v := iv (G 17 0)) dX5_sign_29 jf_X5_210 hG3.1 rfl ?_
    refine j_iconst dX5_sign_32 ?_
    refine j_iadd dX5_sign_33 ?_
    refine jo_put (S := sM) dX5_sign_34 jf_X5_210 (fun q hq => by cases hq; exact ⟨rfl, rfl⟩) (jHold_int _) okM hG3 rfl (fun h7 hG7 hX7 => ?_)
    have hE8 := hE4.tr hX7
    have hT9 : mTx (gn (gn G 18 0) 17 ((G 17 0) + 1)) := mTx.at hT5 (by omega)
    refine j_aload_n dX5_sign_37 rfl rfl ?_
    refine j_getfield (v := .ref (k + 8)) dX5_sign_38 jf_X5_32 hG7.1 rfl ?_
    refine j_aload_n dX5_sign_41 rfl rfl ?_
    refine j_getfield (v := iv ((G 17 0) + 1)) dX5_sign_42 jf_X5_210 hG7.1 rfl ?_
    refine j_iconst dX5_sign_45 ?_
    refine j_isub dX5_sign_46 ?_
    refine j_caload (f := G 15) dX5_sign_47 (hG7.a 15 8 2 60 rfl) (by have := t4 (G 17 0 + 1 - 1); omega) (by decide) ?_
    refine j_iload_n dX5_sign_48 rfl rfl ?_
    refine j_isub dX5_sign_49 ?_
    subst hZ
    exact j_ireturn dX5_sign_50 rfl rfl (jWi.i (if_neg c2) hG7 hE8) (Nat.le_refl _) (Nat.le_refl _)
  · have qc2 := bi_z c2
    refine j_iconst dX5_sign_10 ?_
    refine j_goto (tgt := 15) dX5_sign_11 (by decide) ?_
    refine jo_put (S := sM) dX5_sign_15 jf_X5_207 (fun q hq => by cases hq; exact ⟨rfl, rfl⟩) (jHold_bool (by omega)) okM hG rfl (fun h10 hG10 hX10 => ?_)
    have hE11 := hE0.tr hX10
    have hT12 : mTx (gn G 18 1) := mTx.wr hT (by omega)
    refine j_aload_n dX5_sign_18 rfl rfl ?_
    refine j_getfield (v := iv 1) dX5_sign_19 jf_X5_207 hG10.1 rfl ?_
    refine j_if_eq (tgt := 27) dX5_sign_22 (by decide) (by omega) (fun c13 => absurd c13 (by decide)) (fun c13 => ?_)
    refine j_iconst dX5_sign_25 ?_
    subst hZ
    exact j_ireturn dX5_sign_26 rfl rfl (jWi.i (if_pos c2) hG10 hE11) (Nat.le_refl _) (Nat.le_refl _)
theorem mTx_sign {G : fS} {lo hi : Int} (h : mTx G) : mTx (m_sign G lo hi).2 := by
  obtain ⟨h1, h2, h3, h4⟩ := id h
  unfold m_sign
  split
  · exact h.wr (Or.inr rfl)
  · rename_i q
    have q2 := bi_nz q
    exact (h.wr (Or.inl rfl)).at (by omega)
def m_number2 (G : fS) : Int × fS := if (G 18 0) = 0 then if (bi (((m_sign G 48 57).2) 18 0 = 0 ∧ ((m_sign G 48 57).2) 17 0 < ((m_sign G 48 57).2) 16 0 ∧ 48 ≤ (((m_sign G 48 57).2) 15) (((m_sign G 48 57).2) 17 0) ∧ (((m_sign G 48 57).2) 15) (((m_sign G 48 57).2) 17 0) ≤ 57)) = 0 then ((m_sign G 48 57).1, (m_sign G 48 57).2) else ((10 * ((m_sign G 48 57).1)) + ((m_sign ((m_sign G 48 57).2) 48 57).1), (m_sign ((m_sign G 48 57).2) 48 57).2) else if (bi (G 18 0 = 0 ∧ G 17 0 < G 16 0 ∧ 48 ≤ (G 15) (G 17 0) ∧ (G 15) (G 17 0) ≤ 57)) = 0 then (0, G) else ((10 * 0) + ((m_sign G 48 57).1), (m_sign G 48 57).2)
set_option maxHeartbeats 4000000 in
/-- reference: number, 2 digits -/
theorem c5_number2 {k : Nat} {G : fS} {h : jH} (hG : jOb sM k G h) (hT : mTx G) : jM mX5_number 3 0 0 [] [.ref k, iv 2] h (jWi sM k (m_number2 G) h) jno := by
  refine j_method (by decide +kernel) rfl (fun _ _ _ => trivial) (Nat.le_of_ble_eq_true rfl) ?_
  generalize hZ : jZ [] 0 0 _ _ = Z
  show J mX5_number (jR 3 0 0) [] Z 0 [(0, .ref k), (1, iv 2)] [] h 0 0
  obtain ⟨t1, t2, t3, t4⟩ := id hT
  have t9 := t4 (G 17 0)
  have hE0 : jEx k 10 h h := jEx.rf
  refine j_aload_n dX5_number_0 rfl rfl ?_
  refine j_getfield (v := iv (G 18 0)) dX5_number_1 jf_X5_207 hG.1 rfl ?_
  refine j_if_eq (tgt := 11) dX5_number_4 (by decide) (by omega) (fun c1 => ?_) (fun c1 => ?_)
  · refine j_aload_n dX5_number_11 rfl rfl ?_
    refine j_bipush dX5_number_12 (by decide +kernel) ?_
    refine j_bipush dX5_number_14 (by decide +kernel) ?_
    refine j_callV (c5_sign hG (by omega) (by omega) hT) dX5_number_16 jc_X5_217 jmV_X5_sign rfl rfl hG.1 rfl rfl (by simp) jfr_nil (Nat.le_of_ble_eq_true rfl) ⟨Nat.le_of_ble_eq_true rfl, Nat.le_of_ble_eq_true rfl⟩ ⟨Nat.le_of_ble_eq_true rfl, Nat.le_of_ble_eq_true rfl⟩ (fun r h3 hp9 => ?_) (fun E h9 q => q.elim)
    obtain ⟨rfl, hG4, hX5⟩ := hp9
    have hE6 := hE0.tr hX5
    have hT2 := mTx_sign (lo := 48) (hi := 57) hT
    have u1 := hT2.1
    have u2 := hT2.2.1
    have u3 := hT2.2.2.1
    refine j_istore_n (L' := [(0, _), (1, _), (2, _)]) dX5_number_19 rfl (by decide) rfl ?_
    refine j_iconst dX5_number_20 ?_
    refine j_istore_n (L' := [(0, _), (1, _), (2, _), (3, _)]) dX5_number_21 rfl (by decide) rfl ?_
    refine j_iload_n dX5_number_22 rfl rfl ?_
    refine j_iload_n dX5_number_23 rfl rfl ?_
    refine j_icmp_ge (tgt := 58) dX5_number_24 (by decide) (by omega) (fun c7 => absurd c7 (by decide)) (fun c7 => ?_)
    refine j_aload_n dX5_number_27 rfl rfl ?_
    refine j_bipush dX5_number_28 (by decide +kernel) ?_
    refine j_bipush dX5_number_30 (by decide +kernel) ?_
    refine j_callV (c5_isHere hG4 (by omega) (by omega) hT2.1 hT2.2.1 hT2.2.2.1 hT2.2.2.2) dX5_number_32 jc_X5_213 jmV_X5_isHere rfl rfl hG4.1 rfl rfl (by simp) jfr_nil (Nat.le_of_ble_eq_true rfl) ⟨Nat.le_of_ble_eq_true rfl, Nat.le_of_ble_eq_true rfl⟩ ⟨Nat.le_of_ble_eq_true rfl, Nat.le_of_ble_eq_true rfl⟩ (fun r h8 hp9 => ?_) (fun E h9 q => q.elim)
    obtain ⟨rfl, rfl⟩ := hp9
    refine j_if_eq (tgt := 58) dX5_number_35 (by decide) (bi_r32 _) (fun c9 => ?_) (fun c9 => ?_)
    · have qc9 := bi_z c9
      refine j_iload_n dX5_number_58 rfl rfl ?_
      subst hZ
      exact j_ireturn dX5_number_59 rfl rfl (jWi.i ((if_pos c1).trans (if_pos c9)) hG4 hE6) (Nat.le_refl _) (Nat.le_refl _)
    · have qc9 := bi_nz c9
      refine j_bipush dX5_number_38 (by decide +kernel) ?_
      refine j_iload_n dX5_number_40 rfl rfl ?_
      refine j_imul dX5_number_41 ?_
      refine j_aload_n dX5_number_42 rfl rfl ?_
      refine j_bipush dX5_number_43 (by decide +kernel) ?_
      refine j_bipush dX5_number_45 (by decide +kernel) ?_
      refine j_callV (c5_sign hG4 (by omega) (by omega) hT2) dX5_number_47 jc_X5_217 jmV_X5_sign rfl rfl hG4.1 rfl rfl (by simp) jfr_nil (Nat.le_of_ble_eq_true rfl) ⟨Nat.le_of_ble_eq_true rfl, Nat.le_of_ble_eq_true rfl⟩ ⟨Nat.le_of_ble_eq_true rfl, Nat.le_of_ble_eq_true rfl⟩ (fun r h11 hp9 => ?_) (fun E h9 q => q.elim)
      obtain ⟨rfl, hG12, hX13⟩ := hp9
      have hE14 := hE6.tr hX13
      have hT10 := mTx_sign (lo := 48) (hi := 57) hT2
      have u1 := hT10.1
      have u2 := hT10.2.1
      have u3 := hT10.2.2.1
      refine j_iadd dX5_number_50 ?_
      refine j_istore_n (L' := [(0, _), (1, _), (2, _), (3, _)]) dX5_number_51 rfl (by decide) rfl ?_
      refine j_iinc (L' := [(0, _), (1, _), (2, _), (3, _)]) dX5_number_52 rfl (by decide) rfl ?_
      refine j_goto (tgt := 22) dX5_number_55 (by decide) ?_
      refine j_iload_n dX5_number_22 rfl rfl ?_
      refine j_iload_n dX5_number_23 rfl rfl ?_
      refine j_icmp_ge (tgt := 58) dX5_number_24 (by decide) (by omega) (fun c15 => ?_) (fun c15 => absurd (by decide) c15)
      refine j_iload_n dX5_number_58 rfl rfl ?_
      subst hZ
      exact j_ireturn dX5_number_59 rfl rfl (jWi.i ((if_pos c1).trans (if_neg c9)) hG12 hE14) (Nat.le_refl _) (Nat.le_refl _)
  · refine j_iconst dX5_number_7 ?_
    refine j_goto (tgt := 19) dX5_number_8 (by decide) ?_
    refine j_istore_n (L' := [(0, _), (1, _), (2, _)]) dX5_number_19 rfl (by decide) rfl ?_
    refine j_iconst dX5_number_20 ?_
    refine j_istore_n (L' := [(0, _), (1, _), (2, _), (3, _)]) dX5_number_21 rfl (by decide) rfl ?_
    refine j_iload_n dX5_number_22 rfl rfl ?_
    refine j_iload_n dX5_number_23 rfl rfl ?_
    refine j_icmp_ge (tgt := 58) dX5_number_24 (by decide) (by omega) (fun c16 => absurd c16 (by decide)) (fun c16 => ?_)
    refine j_aload_n dX5_number_27 rfl rfl ?_
    refine j_bipush dX5_number_28 (by decide +kernel) ?_
    refine j_bipush dX5_number_30 (by decide +kernel) ?_
    refine j_callV (c5_isHere hG (by omega) (by omega) hT.1 hT.2.1 hT.2.2.1 hT.2.2.2) dX5_number_32 jc_X5_213 jmV_X5_isHere rfl rfl hG.1 rfl rfl (by simp) jfr_nil (Nat.le_of_ble_eq_true rfl) ⟨Nat.le_of_ble_eq_true rfl, Nat.le_of_ble_eq_true rfl⟩ ⟨Nat.le_of_ble_eq_true rfl, Nat.le_of_ble_eq_true rfl⟩ (fun r h17 hp9 => ?_) (fun E h9 q => q.elim)
    obtain ⟨rfl, rfl⟩ := hp9
    refine j_if_eq (tgt := 58) dX5_number_35 (by decide) (bi_r32 _) (fun c18 => ?_) (fun c18 => ?_)
    · have qc18 := bi_z c18
      refine j_iload_n dX5_number_58 rfl rfl ?_
      subst hZ
      exact j_ireturn dX5_number_59 rfl rfl (jWi.i ((if_neg c1).trans (if_pos c18)) hG hE0) (Nat.le_refl _) (Nat.le_refl _)
    · have qc18 := bi_nz c18
      refine j_bipush dX5_number_38 (by decide +kernel) ?_
      refine j_iload_n dX5_number_40 rfl rfl ?_
      refine j_imul dX5_number_41 ?_
      refine j_aload_n dX5_number_42 rfl rfl ?_
      refine j_bipush dX5_number_43 (by decide +kernel) ?_
      refine j_bipush dX5_number_45 (by decide +kernel) ?_
      refine j_callV (c5_sign hG (by omega) (by omega) hT) dX5_number_47 jc_X5_217 jmV_X5_sign rfl rfl hG.1 rfl rfl (by simp) jfr_nil (Nat.le_of_ble_eq_true rfl) ⟨Nat.le_of_ble_eq_true rfl, Nat.le_of_ble_eq_true rfl⟩ ⟨Nat.le_of_ble_eq_true rfl, Nat.le_of_ble_eq_true rfl⟩ (fun r h20 hp9 => ?_) (fun E h9 q => q.elim)
      obtain ⟨rfl, hG21, hX22⟩ := hp9
      have hE23 := hE0.tr hX22
      have hT19 := mTx_sign (lo := 48) (hi := 57) hT
      have u1 := hT19.1
      have u2 := hT19.2.1
      have u3 := hT19.2.2.1
      refine j_iadd dX5_number_50 ?_
      refine j_istore_n (L' := [(0, _), (1, _), (2, _), (3, _)]) dX5_number_51 rfl (by decide) rfl ?_
      refine j_iinc (L' := [(0, _), (1, _), (2, _), (3, _)]) dX5_number_52 rfl (by decide) rfl ?_
      refine j_goto (tgt := 22) dX5_number_55 (by decide) ?_
      refine j_iload_n dX5_number_22 rfl rfl ?_
      refine j_iload_n dX5_number_23 rfl rfl ?_
      refine j_icmp_ge (tgt := 58) dX5_number_24 (by decide) (by omega) (fun c24 => ?_) (fun c24 => absurd (by decide) c24)
      refine j_iload_n dX5_number_58 rfl rfl ?_
      subst hZ
      exact j_ireturn dX5_number_59 rfl rfl (jWi.i ((if_neg c1).trans (if_neg c18)) hG21 hE23) (Nat.le_refl _) (Nat.le_refl _)
theorem mTx_number2 {G : fS} (h : mTx G) : mTx (m_number2 G).2 := by
  have a1 := mTx_sign (lo := 48) (hi := 57) h
  have a2 := mTx_sign (lo := 48) (hi := 57) a1
  have a3 := mTx_sign (lo := 48) (hi := 57) a2
  unfold m_number2
  repeat' split
  all_goals first | exact h | exact a1 | exact a2 | exact a3
def m_number3 (G : fS) : Int × fS := if (G 18 0) = 0 then if (bi (((m_sign G 48 57).2) 18 0 = 0 ∧ ((m_sign G 48 57).2) 17 0 < ((m_sign G 48 57).2) 16 0 ∧ 48 ≤ (((m_sign G 48 57).2) 15) (((m_sign G 48 57).2) 17 0) ∧ (((m_sign G 48 57).2) 15) (((m_sign G 48 57).2) 17 0) ≤ 57)) = 0 then ((m_sign G 48 57).1, (m_sign G 48 57).2) else if (bi (((m_sign ((m_sign G 48 57).2) 48 57).2) 18 0 = 0 ∧ ((m_sign ((m_sign G 48 57).2) 48 57).2) 17 0 < ((m_sign ((m_sign G 48 57).2) 48 57).2) 16 0 ∧ 48 ≤ (((m_sign ((m_sign G 48 57).2) 48 57).2) 15) (((m_sign ((m_sign G 48 57).2) 48 57).2) 17 0) ∧ (((m_sign ((m_sign G 48 57).2) 48 57).2) 15) (((m_sign ((m_sign G 48 57).2) 48 57).2) 17 0) ≤ 57)) = 0 then ((10 * ((m_sign G 48 57).1)) + ((m_sign ((m_sign G 48 57).2) 48 57).1), (m_sign ((m_sign G 48 57).2) 48 57).2) else ((10 * ((10 * ((m_sign G 48 57).1)) + ((m_sign ((m_sign G 48 57).2) 48 57).1))) + ((m_sign ((m_sign ((m_sign G 48 57).2) 48 57).2) 48 57).1), (m_sign ((m_sign ((m_sign G 48 57).2) 48 57).2) 48 57).2) else if (bi (G 18 0 = 0 ∧ G 17 0 < G 16 0 ∧ 48 ≤ (G 15) (G 17 0) ∧ (G 15) (G 17 0) ≤ 57)) = 0 then (0, G) else if (bi (((m_sign G 48 57).2) 18 0 = 0 ∧ ((m_sign G 48 57).2) 17 0 < ((m_sign G 48 57).2) 16 0 ∧ 48 ≤ (((m_sign G 48 57).2) 15) (((m_sign G 48 57).2) 17 0) ∧ (((m_sign G 48 57).2) 15) (((m_sign G 48 57).2) 17 0) ≤ 57)) = 0 then ((10 * 0) + ((m_sign G 48 57).1), (m_sign G 48 57).2) else ((10 * ((10 * 0) + ((m_sign G 48 57).1))) + ((m_sign ((m_sign G 48 57).2) 48 57).1), (m_sign ((m_sign G 48 57).2) 48 57).2)
set_option maxHeartbeats 4000000 in
/-- reference: number, 3 digits -/
theorem c5_number3 {k : Nat} {G : fS} {h : jH} (hG : jOb sM k G h) (hT : mTx G) : jM mX5_number 3 0 0 [] [.ref k, iv 3] h (jWi sM k (m_number3 G) h) jno := by
  refine j_method (by decide +kernel) rfl (fun _ _ _ => trivial) (Nat.le_of_ble_eq_true rfl) ?_
  generalize hZ : jZ [] 0 0 _ _ = Z
  show J mX5_number (jR 3 0 0) [] Z 0 [(0, .ref k), (1, iv 3)] [] h 0 0
  obtain ⟨t1, t2, t3, t4⟩ := id hT
  have t9 := t4 (G 17 0)
  have hE0 : jEx k 10 h h := jEx.rf
  refine j_aload_n dX5_number_0 rfl rfl ?_
  refine j_getfield (v := iv (G 18 0)) dX5_number_1 jf_X5_207 hG.1 rfl ?_
  refine j_if_eq (tgt := 11) dX5_number_4 (by decide) (by omega) (fun c1 => ?_) (fun c1 => ?_)
  · refine j_aload_n dX5_number_11 rfl rfl ?_
    refine j_bipush dX5_number_12 (by decide +kernel) ?_
    refine j_bipush dX5_number_14 (by decide +kernel) ?_
    refine j_callV (c5_sign hG (by omega) (by omega) hT) dX5_number_16 jc_X5_217 jmV_X5_sign rfl rfl hG.1 rfl rfl (by simp) jfr_nil (Nat.le_of_ble_eq_true rfl) ⟨Nat.le_of_ble_eq_true rfl, Nat.le_of_ble_eq_true rfl⟩ ⟨Nat.le_of_ble_eq_true rfl, Nat.le_of_ble_eq_true rfl⟩ (fun r h3 hp9 => ?_) (fun E h9 q => q.elim)
    obtain ⟨rfl, hG4, hX5⟩ := hp9
    have hE6 := hE0.tr hX5
    have hT2 := mTx_sign (lo := 48) (hi := 57) hT
    have u1 := hT2.1
    have u2 := hT2.2.1
    have u3 := hT2.2.2.1
    refine j_istore_n (L' := [(0, _), (1, _), (2, _)]) dX5_number_19 rfl (by decide) rfl ?_
    refine j_iconst dX5_number_20 ?_
    refine j_istore_n (L' := [(0, _), (1, _), (2, _), (3, _)]) dX5_number_21 rfl (by decide) rfl ?_
    refine j_iload_n dX5_number_22 rfl rfl ?_
    refine j_iload_n dX5_number_23 rfl rfl ?_
    refine j_icmp_ge (tgt := 58) dX5_number_24 (by decide) (by omega) (fun c7 => absurd c7 (by decide)) (fun c7 => ?_)
    refine j_aload_n dX5_number_27 rfl rfl ?_
    refine j_bipush dX5_number_28 (by decide +kernel) ?_
    refine j_bipush dX5_number_30 (by decide +kernel) ?_
    refine j_callV (c5_isHere hG4 (by omega) (by omega) hT2.1 hT2.2.1 hT2.2.2.1 hT2.2.2.2) dX5_number_32 jc_X5_213 jmV_X5_isHere rfl rfl hG4.1 rfl rfl (by simp) jfr_nil (Nat.le_of_ble_eq_true rfl) ⟨Nat.le_of_ble_eq_true rfl, Nat.le_of_ble_eq_true rfl⟩ ⟨Nat.le_of_ble_eq_true rfl, Nat.le_of_ble_eq_true rfl⟩ (fun r h8 hp9 => ?_) (fun E h9 q => q.elim)
    obtain ⟨rfl, rfl⟩ := hp9
    refine j_if_eq (tgt := 58) dX5_number_35 (by decide) (bi_r32 _) (fun c9 => ?_) (fun c9 => ?_)
    · have qc9 := bi_z c9
      refine j_iload_n dX5_number_58 rfl rfl ?_
      subst hZ
      exact j_ireturn dX5_number_59 rfl rfl (jWi.i ((if_pos c1).trans (if_pos c9)) hG4 hE6) (Nat.le_refl _) (Nat.le_refl _)
    · have qc9 := bi_nz c9
      refine j_bipush dX5_number_38 (by decide +kernel) ?_
      refine j_iload_n dX5_number_40 rfl rfl ?_
      refine j_imul dX5_number_41 ?_
      refine j_aload_n dX5_number_42 rfl rfl ?_
      refine j_bipush dX5_number_43 (by decide +kernel) ?_
      refine j_bipush dX5_number_45 (by decide +kernel) ?_
      refine j_callV (c5_sign hG4 (by omega) (by omega) hT2) dX5_number_47 jc_X5_217 jmV_X5_sign rfl rfl hG4.1 rfl rfl (by simp) jfr_nil (Nat.le_of_ble_eq_true rfl) ⟨Nat.le_of_ble_eq_true rfl, Nat.le_of_ble_eq_true rfl⟩ ⟨Nat.le_of_ble_eq_true rfl, Nat.le_of_ble_eq_true rfl⟩ (fun r h11 hp9 => ?_) (fun E h9 q => q.elim)
      obtain ⟨rfl, hG12, hX13⟩ := hp9
      have hE14 := hE6.tr hX13
      have hT10 := mTx_sign (lo := 48) (hi := 57) hT2
      have u1 := hT10.1
      have u2 := hT10.2.1
      have u3 := hT10.2.2.1
      refine j_iadd dX5_number_50 ?_
      refine j_istore_n (L' := [(0, _), (1, _), (2, _), (3, _)]) dX5_number_51 rfl (by decide) rfl ?_
      refine j_iinc (L' := [(0, _), (1, _), (2, _), (3, _)]) dX5_number_52 rfl (by decide) rfl ?_
      refine j_goto (tgt := 22) dX5_number_55 (by decide) ?_
      refine j_iload_n dX5_number_22 rfl rfl ?_
      refine j_iload_n dX5_number_23 rfl rfl ?_
      refine j_icmp_ge (tgt := 58) dX5_number_24 (by decide) (by omega) (fun c15 => absurd c15 (by decide)) (fun c15 => ?_)
      refine j_aload_n dX5_number_27 rfl rfl ?_
      refine j_bipush dX5_number_28 (by decide +kernel) ?_
      refine j_bipush dX5_number_30 (by decide +kernel) ?_
      refine j_callV (c5_isHere hG12 (by omega) (by omega) hT10.1 hT10.2.1 hT10.2.2.1 hT10.2.2.2) dX5_number_32 jc_X5_213 jmV_X5_isHere rfl rfl hG12.1 rfl rfl (by simp) jfr_nil (Nat.le_of_ble_eq_true rfl) ⟨Nat.le_of_ble_eq_true rfl, Nat.le_of_ble_eq_true rfl⟩ ⟨Nat.le_of_ble_eq_true rfl, Nat.le_of_ble_eq_true rfl⟩ (fun r h16 hp9 => ?_) (fun E h9 q => q.elim)
      obtain ⟨rfl, rfl⟩ := hp9
      refine j_if_eq (tgt := 58) dX5_number_35 (by decide) (bi_r32 _) (fun c17 => ?_) (fun c17 => ?_)
      · have qc17 := bi_z c17
        refine j_iload_n dX5_number_58 rfl rfl ?_
        subst hZ
        exact j_ireturn dX5_number_59 rfl rfl (jWi.i ((if_pos c1).trans ((if_neg c9).trans (if_pos c17))) hG12 hE14) (Nat.le_refl _) (Nat.le_refl _)
      · have qc17 := bi_nz c17
        refine j_bipush dX5_number_38 (by decide +kernel) ?_
        refine j_iload_n dX5_number_40 rfl rfl ?_
        refine j_imul dX5_number_41 ?_
        refine j_aload_n dX5_number_42 rfl rfl ?_
        refine j_bipush dX5_number_43 (by decide +kernel) ?_
        refine j_bipush dX5_number_45 (by decide +kernel) ?_
        refine j_callV (c5_sign hG12 (by omega) (by omega) hT10) dX5_number_47 jc_X5_217 jmV_X5_sign rfl rfl hG12.1 rfl rfl (by simp) jfr_nil (Nat.le_of_ble_eq_true rfl) ⟨Nat.le_of_ble_eq_true rfl, Nat.le_of_ble_eq_true rfl⟩ ⟨Nat.le_of_ble_eq_true rfl, Nat.le_of_ble_eq_true rfl⟩ (fun r h19 hp9 => ?_) (fun E h9 q => q.elim)
        obtain ⟨rfl, hG20, hX21⟩ := hp9
        have hE22 := hE14.tr hX21
        have hT18 := mTx_sign (lo := 48) (hi := 57) hT10
        have u1 := hT18.1
        have u2 := hT18.2.1
        have u3 := hT18.2.2.1
        refine j_iadd dX5_number_50 ?_
        refine j_istore_n (L' := [(0, _), (1, _), (2, _), (3, _)]) dX5_number_51 rfl (by decide) rfl ?_
        refine j_iinc (L' := [(0, _), (1, _), (2, _), (3, _)]) dX5_number_52 rfl (by decide) rfl ?_
        refine j_goto (tgt := 22) dX5_number_55 (by decide) ?_
        refine j_iload_n dX5_number_22 rfl rfl ?_
        refine j_iload_n dX5_number_23 rfl rfl ?_
        refine j_icmp_ge (tgt := 58) dX5_number_24 (by decide) (by omega) (fun c23 => ?_) (fun c23 => absurd (by decide) c23)
        refine j_iload_n dX5_number_58 rfl rfl ?_
        subst hZ
        exact j_ireturn dX5_number_59 rfl rfl (jWi.i ((if_pos c1).trans ((if_neg c9).trans (if_neg c17))) hG20 hE22) (Nat.le_refl _) (Nat.le_refl _)
  · refine j_iconst dX5_number_7 ?_
    refine j_goto (tgt := 19) dX5_number_8 (by decide) ?_
    refine j_istore_n (L' := [(0, _), (1, _), (2, _)]) dX5_number_19 rfl (by decide) rfl ?_
    refine j_iconst dX5_number_20 ?_
    refine j_istore_n (L' := [(0, _), (1, _), (2, _), (3, _)]) dX5_number_21 rfl (by decide) rfl ?_
    refine j_iload_n dX5_number_22 rfl rfl ?_
    refine j_iload_n dX5_number_23 rfl rfl ?_
    refine j_icmp_ge (tgt := 58) dX5_number_24 (by decide) (by omega) (fun c24 => absurd c24 (by decide)) (fun c24 => ?_)
    refine j_aload_n dX5_number_27 rfl rfl ?_
    refine j_bipush dX5_number_28 (by decide +kernel) ?_
    refine j_bipush dX5_number_30 (by decide +kernel) ?_
    refine j_callV (c5_isHere hG (by omega) (by omega) hT.1 hT.2.1 hT.2.2.1 hT.2.2.2) dX5_number_32 jc_X5_213 jmV_X5_isHere rfl rfl hG.1 rfl rfl (by simp) jfr_nil (Nat.le_of_ble_eq_true rfl) ⟨Nat.le_of_ble_eq_true rfl, Nat.le_of_ble_eq_true rfl⟩ ⟨Nat.le_of_ble_eq_true rfl, Nat.le_of_ble_eq_true rfl⟩ (fun r h25 hp9 => ?_) (fun E h9 q => q.elim)
    obtain ⟨rfl, rfl⟩ := hp9
    refine j_if_eq (tgt := 58) dX5_number_35 (by decide) (bi_r32 _) (fun c26 => ?_) (fun c26 => ?_)
    · have qc26 := bi_z c26
      refine j_iload_n dX5_number_58 rfl rfl ?_
      subst hZ
      exact j_ireturn dX5_number_59 rfl rfl (jWi.i ((if_neg c1).trans (if_pos c26)) hG hE0) (Nat.le_refl _) (Nat.le_refl _)
    · have qc26 := bi_nz c26
      refine j_bipush dX5_number_38 (by decide +kernel) ?_
      refine j_iload_n dX5_number_40 rfl rfl ?_
      refine j_imul dX5_number_41 ?_
      refine j_aload_n dX5_number_42 rfl rfl ?_
      refine j_bipush dX5_number_43 (by decide +kernel) ?_
      refine j_bipush dX5_number_45 (by decide +kernel) ?_
      refine j_callV (c5_sign hG (by omega) (by omega) hT) dX5_number_47 jc_X5_217 jmV_X5_sign rfl rfl hG.1 rfl rfl (by simp) jfr_nil (Nat.le_of_ble_eq_true rfl) ⟨Nat.le_of_ble_eq_true rfl, Nat.le_of_ble_eq_true rfl⟩ ⟨Nat.le_of_ble_eq_true rfl, Nat.le_of_ble_eq_true rfl⟩ (fun r h28 hp9 => ?_) (fun E h9 q => q.elim)
      obtain ⟨rfl, hG29, hX30⟩ := hp9
      have hE31 := hE0.tr hX30
      have hT27 := mTx_sign (lo := 48) (hi := 57) hT
      have u1 := hT27.1
      have u2 := hT27.2.1
      have u3 := hT27.2.2.1
      refine j_iadd dX5_number_50 ?_
      refine j_istore_n (L' := [(0, _), (1, _), (2, _), (3, _)]) dX5_number_51 rfl (by decide) rfl ?_
      refine j_iinc (L' := [(0, _), (1, _), (2, _), (3, _)]) dX5_number_52 rfl (by decide) rfl ?_
      refine j_goto (tgt := 22) dX5_number_55 (by decide) ?_
      refine j_iload_n dX5_number_22 rfl rfl ?_
      refine j_iload_n dX5_number_23 rfl rfl ?_
      refine j_icmp_ge (tgt := 58) dX5_number_24 (by decide) (by omega) (fun c32 => absurd c32 (by decide)) (fun c32 => ?_)
      refine j_aload_n dX5_number_27 rfl rfl ?_
      refine j_bipush dX5_number_28 (by decide +kernel) ?_
      refine j_bipush dX5_number_30 (by decide +kernel) ?_
      refine j_callV (c5_isHere hG29 (by omega) (by omega) hT27.1 hT27.2.1 hT27.2.2.1 hT27.2.2.2) dX5_number_32 jc_X5_213 jmV_X5_isHere rfl rfl hG29.1 rfl rfl (by simp) jfr_nil (Nat.le_of_ble_eq_true rfl) ⟨Nat.le_of_ble_eq_true rfl, Nat.le_of_ble_eq_true rfl⟩ ⟨Nat.le_of_ble_eq_true rfl, Nat.le_of_ble_eq_true rfl⟩ (fun r h33 hp9 => ?_) (fun E h9 q => q.elim)
      obtain ⟨rfl, rfl⟩ := hp9
      refine j_if_eq (tgt := 58) dX5_number_35 (by decide) (bi_r32 _) (fun c34 => ?_) (fun c34 => ?_)
      · have qc34 := bi_z c34
        refine j_iload_n dX5_number_58 rfl rfl ?_
        subst hZ
        exact j_ireturn dX5_number_59 rfl rfl (jWi.i ((if_neg c1).trans ((if_neg c26).trans (if_pos c34))) hG29 hE31) (Nat.le_refl _) (Nat.le_refl _)
      · have qc34 := bi_nz c34
        refine j_bipush dX5_number_38 (by decide +kernel) ?_
        refine j_iload_n dX5_number_40 rfl rfl ?_
        refine j_imul dX5_number_41 ?_
        refine j_aload_n dX5_number_42 rfl rfl ?_
        refine j_bipush dX5_number_43 (by decide +kernel) ?_
        refine j_bipush dX5_number_45 (by decide +kernel) ?_
        refine j_callV (c5_sign hG29 (by omega) (by omega) hT27) dX5_number_47 jc_X5_217 jmV_X5_sign rfl rfl hG29.1 rfl rfl (by simp) jfr_nil (Nat.le_of_ble_eq_true rfl) ⟨Nat.le_of_ble_eq_true rfl, Nat.le_of_ble_eq_true rfl⟩ ⟨Nat.le_of_ble_eq_true rfl, Nat.le_of_ble_eq_true rfl⟩ (fun r h36 hp9 => ?_) (fun E h9 q => q.elim)
        obtain ⟨rfl, hG37, hX38⟩ := hp9
        have hE39 := hE31.tr hX38
        have hT35 := mTx_sign (lo := 48) (hi := 57) hT27
        have u1 := hT35.1
        have u2 := hT35.2.1
        have u3 := hT35.2.2.1
        refine j_iadd dX5_number_50 ?_
        refine j_istore_n (L' := [(0, _), (1, _), (2, _), (3, _)]) dX5_number_51 rfl (by decide) rfl ?_
        refine j_iinc (L' := [(0, _), (1, _), (2, _), (3, _)]) dX5_number_52 rfl (by decide) rfl ?_
        refine j_goto (tgt := 22) dX5_number_55 (by decide) ?_
        refine j_iload_n dX5_number_22 rfl rfl ?_
        refine j_iload_n dX5_number_23 rfl rfl ?_
        refine j_icmp_ge (tgt := 58) dX5_number_24 (by decide) (by omega) (fun c40 => ?_) (fun c40 => absurd (by decide) c40)
        refine j_iload_n dX5_number_58 rfl rfl ?_
        subst hZ
        exact j_ireturn dX5_number_59 rfl rfl (jWi.i ((if_neg c1).trans ((if_neg c26).trans (if_neg c34))) hG37 hE39) (Nat.le_refl _) (Nat.le_refl _)
theorem mTx_number3 {G : fS} (h : mTx G) : mTx (m_number3 G).2 := by
  have a1 := mTx_sign (lo := 48) (hi := 57) h
  have a2 := mTx_sign (lo := 48) (hi := 57) a1
  have a3 := mTx_sign (lo := 48) (hi := 57) a2
  unfold m_number3
  repeat' split
  all_goals first | exact h | exact a1 | exact a2 | exact a3
def m_readOrder (G : fS) : fS := if (G 18 0) = 0 then if (G 16 0) ≤ (G 17 0) then gn G 18 1 else if ((G 15) (G 17 0)) = 103 then if (((m_number2 (gs (gn G 17 ((G 17 0) + 1)) 20 (jfu (G 20) (3 * (G 21 0)) ((G 15) (G 17 0))))).2) 18 0) = 0 then gn (gs ((m_number2 ((m_sign (gs ((m_number2 (gs (gn G 17 ((G 17 0) + 1)) 20 (jfu (G 20) (3 * (G 21 0)) ((G 15) (G 17 0))))).2) 20 (jfu (((m_number2 (gs (gn G 17 ((G 17 0) + 1)) 20 (jfu (G 20) (3 * (G 21 0)) ((G 15) (G 17 0))))).2) 20) ((3 * (G 21 0)) + 1) ((m_number2 (gs (gn G 17 ((G 17 0) + 1)) 20 (jfu (G 20) (3 * (G 21 0)) ((G 15) (G 17 0))))).1))) 60 60).2)).2) 20 (jfu (((m_number2 ((m_sign (gs ((m_number2 (gs (gn G 17 ((G 17 0) + 1)) 20 (jfu (G 20) (3 * (G 21 0)) ((G 15) (G 17 0))))).2) 20 (jfu (((m_number2 (gs (gn G 17 ((G 17 0) + 1)) 20 (jfu (G 20) (3 * (G 21 0)) ((G 15) (G 17 0))))).2) 20) ((3 * (G 21 0)) + 1) ((m_number2 (gs (gn G 17 ((G 17 0) + 1)) 20 (jfu (G 20) (3 * (G 21 0)) ((G 15) (G 17 0))))).1))) 60 60).2)).2) 20) ((3 * (G 21 0)) + 2) ((m_number2 ((m_sign (gs ((m_number2 (gs (gn G 17 ((G 17 0) + 1)) 20 (jfu (G 20) (3 * (G 21 0)) ((G 15) (G 17 0))))).2) 20 (jfu (((m_number2 (gs (gn G 17 ((G 17 0) + 1)) 20 (jfu (G 20) (3 * (G 21 0)) ((G 15) (G 17 0))))).2) 20) ((3 * (G 21 0)) + 1) ((m_number2 (gs (gn G 17 ((G 17 0) + 1)) 20 (jfu (G 20) (3 * (G 21 0)) ((G 15) (G 17 0))))).1))) 60 60).2)).1))) 21 ((((m_number2 ((m_sign (gs ((m_number2 (gs (gn G 17 ((G 17 0) + 1)) 20 (jfu (G 20) (3 * (G 21 0)) ((G 15) (G 17 0))))).2) 20 (jfu (((m_number2 (gs (gn G 17 ((G 17 0) + 1)) 20 (jfu (G 20) (3 * (G 21 0)) ((G 15) (G 17 0))))).2) 20) ((3 * (G 21 0)) + 1) ((m_number2 (gs (gn G 17 ((G 17 0) + 1)) 20 (jfu (G 20) (3 * (G 21 0)) ((G 15) (G 17 0))))).1))) 60 60).2)).2) 21 0) + 1) else gn (gs ((m_number2 (gs (gn G 17 ((G 17 0) + 1)) 20 (jfu (G 20) (3 * (G 21 0)) ((G 15) (G 17 0))))).2) 20 (jfu (((m_number2 (gs (gn G 17 ((G 17 0) + 1)) 20 (jfu (G 20) (3 * (G 21 0)) ((G 15) (G 17 0))))).2) 20) ((3 * (G 21 0)) + 1) ((m_number2 (gs (gn G 17 ((G 17 0) + 1)) 20 (jfu (G 20) (3 * (G 21 0)) ((G 15) (G 17 0))))).1))) 21 ((((m_number2 (gs (gn G 17 ((G 17 0) + 1)) 20 (jfu (G 20) (3 * (G 21 0)) ((G 15) (G 17 0))))).2) 21 0) + 1) else if ((G 15) (G 17 0)) = 109 then if (((m_number2 (gs (gn G 17 ((G 17 0) + 1)) 20 (jfu (G 20) (3 * (G 21 0)) ((G 15) (G 17 0))))).2) 18 0) = 0 then gn (gs ((m_number2 ((m_sign (gs ((m_number2 (gs (gn G 17 ((G 17 0) + 1)) 20 (jfu (G 20) (3 * (G 21 0)) ((G 15) (G 17 0))))).2) 20 (jfu (((m_number2 (gs (gn G 17 ((G 17 0) + 1)) 20 (jfu (G 20) (3 * (G 21 0)) ((G 15) (G 17 0))))).2) 20) ((3 * (G 21 0)) + 1) ((m_number2 (gs (gn G 17 ((G 17 0) + 1)) 20 (jfu (G 20) (3 * (G 21 0)) ((G 15) (G 17 0))))).1))) 43 43).2)).2) 20 (jfu (((m_number2 ((m_sign (gs ((m_number2 (gs (gn G 17 ((G 17 0) + 1)) 20 (jfu (G 20) (3 * (G 21 0)) ((G 15) (G 17 0))))).2) 20 (jfu (((m_number2 (gs (gn G 17 ((G 17 0) + 1)) 20 (jfu (G 20) (3 * (G 21 0)) ((G 15) (G 17 0))))).2) 20) ((3 * (G 21 0)) + 1) ((m_number2 (gs (gn G 17 ((G 17 0) + 1)) 20 (jfu (G 20) (3 * (G 21 0)) ((G 15) (G 17 0))))).1))) 43 43).2)).2) 20) ((3 * (G 21 0)) + 2) ((m_number2 ((m_sign (gs ((m_number2 (gs (gn G 17 ((G 17 0) + 1)) 20 (jfu (G 20) (3 * (G 21 0)) ((G 15) (G 17 0))))).2) 20 (jfu (((m_number2 (gs (gn G 17 ((G 17 0) + 1)) 20 (jfu (G 20) (3 * (G 21 0)) ((G 15) (G 17 0))))).2) 20) ((3 * (G 21 0)) + 1) ((m_number2 (gs (gn G 17 ((G 17 0) + 1)) 20 (jfu (G 20) (3 * (G 21 0)) ((G 15) (G 17 0))))).1))) 43 43).2)).1))) 21 ((((m_number2 ((m_sign (gs ((m_number2 (gs (gn G 17 ((G 17 0) + 1)) 20 (jfu (G 20) (3 * (G 21 0)) ((G 15) (G 17 0))))).2) 20 (jfu (((m_number2 (gs (gn G 17 ((G 17 0) + 1)) 20 (jfu (G 20) (3 * (G 21 0)) ((G 15) (G 17 0))))).2) 20) ((3 * (G 21 0)) + 1) ((m_number2 (gs (gn G 17 ((G 17 0) + 1)) 20 (jfu (G 20) (3 * (G 21 0)) ((G 15) (G 17 0))))).1))) 43 43).2)).2) 21 0) + 1) else gn (gs ((m_number2 (gs (gn G 17 ((G 17 0) + 1)) 20 (jfu (G 20) (3 * (G 21 0)) ((G 15) (G 17 0))))).2) 20 (jfu (((m_number2 (gs (gn G 17 ((G 17 0) + 1)) 20 (jfu (G 20) (3 * (G 21 0)) ((G 15) (G 17 0))))).2) 20) ((3 * (G 21 0)) + 1) ((m_number2 (gs (gn G 17 ((G 17 0) + 1)) 20 (jfu (G 20) (3 * (G 21 0)) ((G 15) (G 17 0))))).1))) 21 ((((m_number2 (gs (gn G 17 ((G 17 0) + 1)) 20 (jfu (G 20) (3 * (G 21 0)) ((G 15) (G 17 0))))).2) 21 0) + 1) else if ((G 15) (G 17 0)) = 113 then if (((m_number2 (gs (gn G 17 ((G 17 0) + 1)) 20 (jfu (G 20) (3 * (G 21 0)) ((G 15) (G 17 0))))).2) 18 0) = 0 then gn (gs ((m_number2 ((m_sign (gs ((m_number2 (gs (gn G 17 ((G 17 0) + 1)) 20 (jfu (G 20) (3 * (G 21 0)) ((G 15) (G 17 0))))).2) 20 (jfu (((m_number2 (gs (gn G 17 ((G 17 0) + 1)) 20 (jfu (G 20) (3 * (G 21 0)) ((G 15) (G 17 0))))).2) 20) ((3 * (G 21 0)) + 1) ((m_number2 (gs (gn G 17 ((G 17 0) + 1)) 20 (jfu (G 20) (3 * (G 21 0)) ((G 15) (G 17 0))))).1))) 45 45).2)).2) 20 (jfu (((m_number2 ((m_sign (gs ((m_number2 (gs (gn G 17 ((G 17 0) + 1)) 20 (jfu (G 20) (3 * (G 21 0)) ((G 15) (G 17 0))))).2) 20 (jfu (((m_number2 (gs (gn G 17 ((G 17 0) + 1)) 20 (jfu (G 20) (3 * (G 21 0)) ((G 15) (G 17 0))))).2) 20) ((3 * (G 21 0)) + 1) ((m_number2 (gs (gn G 17 ((G 17 0) + 1)) 20 (jfu (G 20) (3 * (G 21 0)) ((G 15) (G 17 0))))).1))) 45 45).2)).2) 20) ((3 * (G 21 0)) + 2) ((m_number2 ((m_sign (gs ((m_number2 (gs (gn G 17 ((G 17 0) + 1)) 20 (jfu (G 20) (3 * (G 21 0)) ((G 15) (G 17 0))))).2) 20 (jfu (((m_number2 (gs (gn G 17 ((G 17 0) + 1)) 20 (jfu (G 20) (3 * (G 21 0)) ((G 15) (G 17 0))))).2) 20) ((3 * (G 21 0)) + 1) ((m_number2 (gs (gn G 17 ((G 17 0) + 1)) 20 (jfu (G 20) (3 * (G 21 0)) ((G 15) (G 17 0))))).1))) 45 45).2)).1))) 21 ((((m_number2 ((m_sign (gs ((m_number2 (gs (gn G 17 ((G 17 0) + 1)) 20 (jfu (G 20) (3 * (G 21 0)) ((G 15) (G 17 0))))).2) 20 (jfu (((m_number2 (gs (gn G 17 ((G 17 0) + 1)) 20 (jfu (G 20) (3 * (G 21 0)) ((G 15) (G 17 0))))).2) 20) ((3 * (G 21 0)) + 1) ((m_number2 (gs (gn G 17 ((G 17 0) + 1)) 20 (jfu (G 20) (3 * (G 21 0)) ((G 15) (G 17 0))))).1))) 45 45).2)).2) 21 0) + 1) else gn (gs ((m_number2 (gs (gn G 17 ((G 17 0) + 1)) 20 (jfu (G 20) (3 * (G 21 0)) ((G 15) (G 17 0))))).2) 20 (jfu (((m_number2 (gs (gn G 17 ((G 17 0) + 1)) 20 (jfu (G 20) (3 * (G 21 0)) ((G 15) (G 17 0))))).2) 20) ((3 * (G 21 0)) + 1) ((m_number2 (gs (gn G 17 ((G 17 0) + 1)) 20 (jfu (G 20) (3 * (G 21 0)) ((G 15) (G 17 0))))).1))) 21 ((((m_number2 (gs (gn G 17 ((G 17 0) + 1)) 20 (jfu (G 20) (3 * (G 21 0)) ((G 15) (G 17 0))))).2) 21 0) + 1) else if ((G 15) (G 17 0)) = 101 then if (((m_number2 (gs (gn G 17 ((G 17 0) + 1)) 20 (jfu (G 20) (3 * (G 21 0)) ((G 15) (G 17 0))))).2) 18 0) = 0 then gn (gs ((m_number3 ((m_sign (gs ((m_number2 (gs (gn G 17 ((G 17 0) + 1)) 20 (jfu (G 20) (3 * (G 21 0)) ((G 15) (G 17 0))))).2) 20 (jfu (((m_number2 (gs (gn G 17 ((G 17 0) + 1)) 20 (jfu (G 20) (3 * (G 21 0)) ((G 15) (G 17 0))))).2) 20) ((3 * (G 21 0)) + 1) ((m_number2 (gs (gn G 17 ((G 17 0) + 1)) 20 (jfu (G 20) (3 * (G 21 0)) ((G 15) (G 17 0))))).1))) 61 61).2)).2) 20 (jfu (((m_number3 ((m_sign (gs ((m_number2 (gs (gn G 17 ((G 17 0) + 1)) 20 (jfu (G 20) (3 * (G 21 0)) ((G 15) (G 17 0))))).2) 20 (jfu (((m_number2 (gs (gn G 17 ((G 17 0) + 1)) 20 (jfu (G 20) (3 * (G 21 0)) ((G 15) (G 17 0))))).2) 20) ((3 * (G 21 0)) + 1) ((m_number2 (gs (gn G 17 ((G 17 0) + 1)) 20 (jfu (G 20) (3 * (G 21 0)) ((G 15) (G 17 0))))).1))) 61 61).2)).2) 20) ((3 * (G 21 0)) + 2) ((m_number3 ((m_sign (gs ((m_number2 (gs (gn G 17 ((G 17 0) + 1)) 20 (jfu (G 20) (3 * (G 21 0)) ((G 15) (G 17 0))))).2) 20 (jfu (((m_number2 (gs (gn G 17 ((G 17 0) + 1)) 20 (jfu (G 20) (3 * (G 21 0)) ((G 15) (G 17 0))))).2) 20) ((3 * (G 21 0)) + 1) ((m_number2 (gs (gn G 17 ((G 17 0) + 1)) 20 (jfu (G 20) (3 * (G 21 0)) ((G 15) (G 17 0))))).1))) 61 61).2)).1))) 21 ((((m_number3 ((m_sign (gs ((m_number2 (gs (gn G 17 ((G 17 0) + 1)) 20 (jfu (G 20) (3 * (G 21 0)) ((G 15) (G 17 0))))).2) 20 (jfu (((m_number2 (gs (gn G 17 ((G 17 0) + 1)) 20 (jfu (G 20) (3 * (G 21 0)) ((G 15) (G 17 0))))).2) 20) ((3 * (G 21 0)) + 1) ((m_number2 (gs (gn G 17 ((G 17 0) + 1)) 20 (jfu (G 20) (3 * (G 21 0)) ((G 15) (G 17 0))))).1))) 61 61).2)).2) 21 0) + 1) else gn (gs ((m_number2 (gs (gn G 17 ((G 17 0) + 1)) 20 (jfu (G 20) (3 * (G 21 0)) ((G 15) (G 17 0))))).2) 20 (jfu (((m_number2 (gs (gn G 17 ((G 17 0) + 1)) 20 (jfu (G 20) (3 * (G 21 0)) ((G 15) (G 17 0))))).2) 20) ((3 * (G 21 0)) + 1) ((m_number2 (gs (gn G 17 ((G 17 0) + 1)) 20 (jfu (G 20) (3 * (G 21 0)) ((G 15) (G 17 0))))).1))) 21 ((((m_number2 (gs (gn G 17 ((G 17 0) + 1)) 20 (jfu (G 20) (3 * (G 21 0)) ((G 15) (G 17 0))))).2) 21 0) + 1) else if ((G 15) (G 17 0)) = 102 then gn (gs (gs (gn G 17 ((G 17 0) + 1)) 20 (jfu (G 20) (3 * (G 21 0)) ((G 15) (G 17 0)))) 20 (jfu (jfu (G 20) (3 * (G 21 0)) ((G 15) (G 17 0))) ((3 * (G 21 0)) + 1) 0)) 21 ((G 21 0) + 1) else if ((G 15) (G 17 0)) = 98 then gn (gs ((m_number2 (gs (gn G 17 ((G 17 0) + 1)) 20 (jfu (G 20) (3 * (G 21 0)) ((G 15) (G 17 0))))).2) 20 (jfu (((m_number2 (gs (gn G 17 ((G 17 0) + 1)) 20 (jfu (G 20) (3 * (G 21 0)) ((G 15) (G 17 0))))).2) 20) ((3 * (G 21 0)) + 1) ((m_number2 (gs (gn G 17 ((G 17 0) + 1)) 20 (jfu (G 20) (3 * (G 21 0)) ((G 15) (G 17 0))))).1))) 21 ((((m_number2 (gs (gn G 17 ((G 17 0) + 1)) 20 (jfu (G 20) (3 * (G 21 0)) ((G 15) (G 17 0))))).2) 21 0) + 1) else if ((G 15) (G 17 0)) = 99 then gn (gs ((m_number2 (gs (gn G 17 ((G 17 0) + 1)) 20 (jfu (G 20) (3 * (G 21 0)) ((G 15) (G 17 0))))).2) 20 (jfu (((m_number2 (gs (gn G 17 ((G 17 0) + 1)) 20 (jfu (G 20) (3 * (G 21 0)) ((G 15) (G 17 0))))).2) 20) ((3 * (G 21 0)) + 1) ((m_number2 (gs (gn G 17 ((G 17 0) + 1)) 20 (jfu (G 20) (3 * (G 21 0)) ((G 15) (G 17 0))))).1))) 21 ((((m_number2 (gs (gn G 17 ((G 17 0) + 1)) 20 (jfu (G 20) (3 * (G 21 0)) ((G 15) (G 17 0))))).2) 21 0) + 1) else if ((G 15) (G 17 0)) = 112 then gn (gs ((m_number2 (gs (gn G 17 ((G 17 0) + 1)) 20 (jfu (G 20) (3 * (G 21 0)) ((G 15) (G 17 0))))).2) 20 (jfu (((m_number2 (gs (gn G 17 ((G 17 0) + 1)) 20 (jfu (G 20) (3 * (G 21 0)) ((G 15) (G 17 0))))).2) 20) ((3 * (G 21 0)) + 1) ((m_number2 (gs (gn G 17 ((G 17 0) + 1)) 20 (jfu (G 20) (3 * (G 21 0)) ((G 15) (G 17 0))))).1))) 21 ((((m_number2 (gs (gn G 17 ((G 17 0) + 1)) 20 (jfu (G 20) (3 * (G 21 0)) ((G 15) (G 17 0))))).2) 21 0) + 1) else if ((G 15) (G 17 0)) = 100 then gn (gs ((m_number2 (gs (gn G 17 ((G 17 0) + 1)) 20 (jfu (G 20) (3 * (G 21 0)) ((G 15) (G 17 0))))).2) 20 (jfu (((m_number2 (gs (gn G 17 ((G 17 0) + 1)) 20 (jfu (G 20) (3 * (G 21 0)) ((G 15) (G 17 0))))).2) 20) ((3 * (G 21 0)) + 1) ((m_number2 (gs (gn G 17 ((G 17 0) + 1)) 20 (jfu (G 20) (3 * (G 21 0)) ((G 15) (G 17 0))))).1))) 21 ((((m_number2 (gs (gn G 17 ((G 17 0) + 1)) 20 (jfu (G 20) (3 * (G 21 0)) ((G 15) (G 17 0))))).2) 21 0) + 1) else gn G 18 1 else G
set_option maxHeartbeats 16000000 in
/-- reference: readOrder -/
theorem c5_readOrder {k : Nat} {G : fS} {h : jH} (hG : jOb sM k G h) (ho : 0 ≤ G 21 0 ∧ G 21 0 < 60) (hT : mTx G) : jM mX5_readOrder 4 0 0 [] [.ref k] h (jWv sM k (m_readOrder G) h) jno := by
  refine j_method (by decide +kernel) rfl (fun _ _ _ => trivial) (Nat.le_of_ble_eq_true rfl) ?_
  generalize hZ : jZ [] 0 0 _ _ = Z
  show J mX5_readOrder (jR 4 0 0) [] Z 0 [(0, .ref k)] [] h 0 0
  obtain ⟨t1, t2, t3, t4⟩ := id hT
  have t9 := t4 (G 17 0)
  have hE0 : jEx k 10 h h := jEx.rf
  refine j_aload_n dX5_readOrder_0 rfl rfl ?_
  refine j_getfield (v := iv (G 18 0)) dX5_readOrder_1 jf_X5_207 hG.1 rfl ?_
  refine j_if_eq (tgt := 8) dX5_readOrder_4 (by decide) (by omega) (fun c1 => ?_) (fun c1 => ?_)
  · refine j_aload_n dX5_readOrder_8 rfl rfl ?_
    refine j_getfield (v := iv (G 17 0)) dX5_readOrder_9 jf_X5_210 hG.1 rfl ?_
    refine j_aload_n dX5_readOrder_12 rfl rfl ?_
    refine j_getfield (v := iv (G 16 0)) dX5_readOrder_13 jf_X5_204 hG.1 rfl ?_
    refine j_icmp_ge (tgt := 31) dX5_readOrder_16 (by decide) (by omega) (fun c2 => ?_) (fun c2 => ?_)
    · refine j_iconst dX5_readOrder_31 ?_
      refine j_istore_n (L' := [(0, _), (1, _)]) dX5_readOrder_32 rfl (by decide) rfl ?_
      refine j_iload_n dX5_readOrder_33 rfl rfl ?_
      refine j_bipush dX5_readOrder_34 (by decide +kernel) ?_
      refine j_icmp_ne (tgt := 44) dX5_readOrder_36 (by decide) (by omega) (fun c3 => ?_) (fun c3 => absurd c3 (by decide))
      refine j_iload_n dX5_readOrder_44 rfl rfl ?_
      refine j_bipush dX5_readOrder_45 (by decide +kernel) ?_
      refine j_icmp_ne (tgt := 55) dX5_readOrder_47 (by decide) (by omega) (fun c4 => ?_) (fun c4 => absurd c4 (by decide))
      refine j_iload_n dX5_readOrder_55 rfl rfl ?_
      refine j_bipush dX5_readOrder_56 (by decide +kernel) ?_
      refine j_icmp_ne (tgt := 66) dX5_readOrder_58 (by decide) (by omega) (fun c5 => ?_) (fun c5 => absurd c5 (by decide))
      refine j_iload_n dX5_readOrder_66 rfl rfl ?_
      refine j_bipush dX5_readOrder_67 (by decide +kernel) ?_
      refine j_icmp_ne (tgt := 77) dX5_readOrder_69 (by decide) (by omega) (fun c6 => ?_) (fun c6 => absurd c6 (by decide))
      refine j_bipush dX5_readOrder_77 (by decide +kernel) ?_
      refine j_istore_n (L' := [(0, _), (1, _), (2, _)]) dX5_readOrder_79 rfl (by decide) rfl ?_
      refine j_iload_n dX5_readOrder_80 rfl rfl ?_
      refine j_bipush dX5_readOrder_81 (by decide +kernel) ?_
      refine j_icmp_eq (tgt := 116) dX5_readOrder_83 (by decide) (by omega) (fun c7 => absurd c7 (by decide)) (fun c7 => ?_)
      refine j_iload_n dX5_readOrder_86 rfl rfl ?_
      refine j_bipush dX5_readOrder_87 (by decide +kernel) ?_
      refine j_icmp_eq (tgt := 116) dX5_readOrder_89 (by decide) (by omega) (fun c8 => absurd c8 (by decide)) (fun c8 => ?_)
      refine j_iload_n dX5_readOrder_92 rfl rfl ?_
      refine j_bipush dX5_readOrder_93 (by decide +kernel) ?_
      refine j_icmp_eq (tgt := 116) dX5_readOrder_95 (by decide) (by omega) (fun c9 => absurd c9 (by decide)) (fun c9 => ?_)
      refine j_iload_n dX5_readOrder_98 rfl rfl ?_
      refine j_bipush dX5_readOrder_99 (by decide +kernel) ?_
      refine j_icmp_eq (tgt := 116) dX5_readOrder_101 (by decide) (by omega) (fun c10 => absurd c10 (by decide)) (fun c10 => ?_)
      refine j_iload_n dX5_readOrder_104 rfl rfl ?_
      refine j_bipush dX5_readOrder_105 (by decide +kernel) ?_
      refine j_icmp_eq (tgt := 116) dX5_readOrder_107 (by decide) (by omega) (fun c11 => absurd c11 (by decide)) (fun c11 => ?_)
      refine j_iload_n dX5_readOrder_110 rfl rfl ?_
      refine j_bipush dX5_readOrder_111 (by decide +kernel) ?_
      refine j_icmp_eq (tgt := 120) dX5_readOrder_113 (by decide) (by omega) (fun c12 => ?_) (fun c12 => absurd (by decide) c12)
      refine j_iconst dX5_readOrder_120 ?_
      refine j_istore_n (L' := [(0, _), (1, _), (2, _), (3, _)]) dX5_readOrder_121 rfl (by decide) rfl ?_
      refine j_iload_n dX5_readOrder_122 rfl rfl ?_
      refine j_if_ne (tgt := 132) dX5_readOrder_123 (by decide) (by omega) (fun c13 => (c13 rfl).elim) (fun c13 => ?_)
      refine j_aload_n dX5_readOrder_126 rfl rfl ?_
      refine j_iconst dX5_readOrder_127 ?_
      refine jo_put (S := sM) dX5_readOrder_128 jf_X5_207 (fun q hq => by cases hq; exact ⟨rfl, rfl⟩) (jHold_bool (by omega)) okM hG rfl (fun h14 hG14 hX14 => ?_)
      have hE15 := hE0.tr hX14
      have hT16 : mTx (gn G 18 1) := mTx.wr hT (by omega)
      subst hZ
      exact j_return dX5_readOrder_131 rfl (jWv.i ((if_pos c1).trans (if_pos c2)) hG14 hE15) (Nat.le_refl _) (Nat.le_refl _)
    · refine j_aload_n dX5_readOrder_19 rfl rfl ?_
      refine j_getfield (v := .ref (k + 8)) dX5_readOrder_20 jf_X5_32 hG.1 rfl ?_
      refine j_aload_n dX5_readOrder_23 rfl rfl ?_
      refine j_getfield (v := iv (G 17 0)) dX5_readOrder_24 jf_X5_210 hG.1 rfl ?_
      refine j_caload (f := G 15) dX5_readOrder_27 (hG.a 15 8 2 60 rfl) (by omega) (by decide) ?_
      refine j_goto (tgt := 32) dX5_readOrder_28 (by decide) ?_
      refine j_istore_n (L' := [(0, _), (1, _)]) dX5_readOrder_32 rfl (by decide) rfl ?_
      refine j_iload_n dX5_readOrder_33 rfl rfl ?_
      refine j_bipush dX5_readOrder_34 (by decide +kernel) ?_
      refine j_icmp_ne (tgt := 44) dX5_readOrder_36 (by decide) (by omega) (fun c17 => ?_) (fun c17 => ?_)
      · refine j_iload_n dX5_readOrder_44 rfl rfl ?_
        refine j_bipush dX5_readOrder_45 (by decide +kernel) ?_
        refine j_icmp_ne (tgt := 55) dX5_readOrder_47 (by decide) (by omega) (fun c18 => ?_) (fun c18 => ?_)
        · refine j_iload_n dX5_readOrder_55 rfl rfl ?_
          refine j_bipush dX5_readOrder_56 (by decide +kernel) ?_
          refine j_icmp_ne (tgt := 66) dX5_readOrder_58 (by decide) (by omega) (fun c19 => ?_) (fun c19 => ?_)
          · refine j_iload_n dX5_readOrder_66 rfl rfl ?_
            refine j_bipush dX5_readOrder_67 (by decide +kernel) ?_
            refine j_icmp_ne (tgt := 77) dX5_readOrder_69 (by decide) (by omega) (fun c20 => ?_) (fun c20 => ?_)
            · refine j_bipush dX5_readOrder_77 (by decide +kernel) ?_
              refine j_istore_n (L' := [(0, _), (1, _), (2, _)]) dX5_readOrder_79 rfl (by decide) rfl ?_
              refine j_iload_n dX5_readOrder_80 rfl rfl ?_
              refine j_bipush dX5_readOrder_81 (by decide +kernel) ?_
              refine j_icmp_eq (tgt := 116) dX5_readOrder_83 (by decide) (by omega) (fun c21 => ?_) (fun c21 => ?_)
              · refine j_iconst dX5_readOrder_116 ?_
                refine j_goto (tgt := 121) dX5_readOrder_117 (by decide) ?_
                refine j_istore_n (L' := [(0, _), (1, _), (2, _), (3, _)]) dX5_readOrder_121 rfl (by decide) rfl ?_
                refine j_iload_n dX5_readOrder_122 rfl rfl ?_
                refine j_if_ne (tgt := 132) dX5_readOrder_123 (by decide) (by omega) (fun c22 => ?_) (fun c22 => absurd c22 (by decide))
                refine j_aload_n dX5_readOrder_132 rfl rfl ?_
                refine j_dup dX5_readOrder_133 rfl ?_
                refine j_getfield (v := iv (G 17 0)) dX5_readOrder_134 jf_X5_210 hG.1 rfl ?_
                refine j_iconst dX5_readOrder_137 ?_
                refine j_iadd dX5_readOrder_138 ?_
                refine jo_put (S := sM) dX5_readOrder_139 jf_X5_210 (fun q hq => by cases hq; exact ⟨rfl, rfl⟩) (jHold_int _) okM hG rfl (fun h23 hG23 hX23 => ?_)
                have hE24 := hE0.tr hX23
                have hT25 : mTx (gn G 17 ((G 17 0) + 1)) := mTx.at hT (by omega)
                refine j_iconst dX5_readOrder_142 ?_
                refine j_aload_n dX5_readOrder_143 rfl rfl ?_
                refine j_getfield (v := iv (G 21 0)) dX5_readOrder_144 jf_X5_221 hG23.1 rfl ?_
                refine j_imul dX5_readOrder_147 ?_
                refine j_istore (L' := [(0, _), (1, _), (2, _), (3, _), (4, _)]) dX5_readOrder_148 (by decide) rfl ?_
                refine j_aload_n dX5_readOrder_150 rfl rfl ?_
                refine j_getfield (v := .ref (k + 9)) dX5_readOrder_151 jf_X5_39 hG23.1 rfl ?_
                refine j_iload dX5_readOrder_154 rfl ?_
                refine j_iload_n dX5_readOrder_156 rfl rfl ?_
                refine jo_ias (S := sM) (k := k) dX5_readOrder_157 okM hG23 (i := 20) (p := 9) rfl (by omega) (by decide) (fun h26 hG26 hX26 => ?_)
                have hE27 := hE24.tr hX26
                have hT28 : mTx (gs (gn G 17 ((G 17 0) + 1)) 20 (jfu (G 20) (3 * (G 21 0)) ((G 15) (G 17 0)))) := hT25
                refine j_aload_n dX5_readOrder_158 rfl rfl ?_
                refine j_getfield (v := .ref (k + 9)) dX5_readOrder_159 jf_X5_39 hG26.1 rfl ?_
                refine j_iload dX5_readOrder_162 rfl ?_
                refine j_iconst dX5_readOrder_164 ?_
                refine j_iadd dX5_readOrder_165 ?_
                refine j_iload_n dX5_readOrder_166 rfl rfl ?_
                refine j_bipush dX5_readOrder_167 (by decide +kernel) ?_
                refine j_icmp_ne (tgt := 176) dX5_readOrder_169 (by decide) (by omega) (fun c29 => (False.elim (by omega))) (fun c29 => ?_)
                refine j_iconst dX5_readOrder_172 ?_
                refine j_goto (tgt := 181) dX5_readOrder_173 (by decide) ?_
                refine jo_ias (S := sM) (k := k) dX5_readOrder_181 okM hG26 (i := 20) (p := 9) rfl (by omega) (by decide) (fun h30 hG30 hX30 => ?_)
                have hE31 := hE27.tr hX30
                have hT32 : mTx (gs (gs (gn G 17 ((G 17 0) + 1)) 20 (jfu (G 20) (3 * (G 21 0)) ((G 15) (G 17 0)))) 20 (jfu (jfu (G 20) (3 * (G 21 0)) ((G 15) (G 17 0))) ((3 * (G 21 0)) + 1) 0)) := hT28
                refine j_iload_n dX5_readOrder_182 rfl rfl ?_
                refine j_bipush dX5_readOrder_183 (by decide +kernel) ?_
                refine j_icmp_eq (tgt := 227) dX5_readOrder_185 (by decide) (by omega) (fun c33 => ?_) (fun c33 => absurd (by decide) c33)
                refine j_aload_n dX5_readOrder_227 rfl rfl ?_
                refine j_dup dX5_readOrder_228 rfl ?_
                refine j_getfield (v := iv (G 21 0)) dX5_readOrder_229 jf_X5_221 hG30.1 rfl ?_
                refine j_iconst dX5_readOrder_232 ?_
                refine j_iadd dX5_readOrder_233 ?_
                refine jo_put (S := sM) dX5_readOrder_234 jf_X5_221 (fun q hq => by cases hq; exact ⟨rfl, rfl⟩) (jHold_int _) okM hG30 rfl (fun h34 hG34 hX34 => ?_)
                have hE35 := hE31.tr hX34
                have hT36 : mTx (gn (gs (gs (gn G 17 ((G 17 0) + 1)) 20 (jfu (G 20) (3 * (G 21 0)) ((G 15) (G 17 0)))) 20 (jfu (jfu (G 20) (3 * (G 21 0)) ((G 15) (G 17 0))) ((3 * (G 21 0)) + 1) 0)) 21 ((G 21 0) + 1)) := hT32
                subst hZ
                exact j_return dX5_readOrder_237 rfl (jWv.i ((if_pos c1).trans ((if_neg c2).trans ((if_neg c17).trans ((if_neg c18).trans ((if_neg c19).trans ((if_neg c20).trans (if_pos c21))))))) hG34 hE35) (Nat.le_refl _) (Nat.le_refl _)
              · refine j_iload_n dX5_readOrder_86 rfl rfl ?_
                refine j_bipush dX5_readOrder_87 (by decide +kernel) ?_
                refine j_icmp_eq (tgt := 116) dX5_readOrder_89 (by decide) (by omega) (fun c37 => ?_) (fun c37 => ?_)
                · refine j_iconst dX5_readOrder_116 ?_
                  refine j_goto (tgt := 121) dX5_readOrder_117 (by decide) ?_
                  refine j_istore_n (L' := [(0, _), (1, _), (2, _), (3, _)]) dX5_readOrder_121 rfl (by decide) rfl ?_
                  refine j_iload_n dX5_readOrder_122 rfl rfl ?_
                  refine j_if_ne (tgt := 132) dX5_readOrder_123 (by decide) (by omega) (fun c38 => ?_) (fun c38 => absurd c38 (by decide))
                  refine j_aload_n dX5_readOrder_132 rfl rfl ?_
                  refine j_dup dX5_readOrder_133 rfl ?_
                  refine j_getfield (v := iv (G 17 0)) dX5_readOrder_134 jf_X5_210 hG.1 rfl ?_
                  refine j_iconst dX5_readOrder_137 ?_
                  refine j_iadd dX5_readOrder_138 ?_
                  refine jo_put (S := sM) dX5_readOrder_139 jf_X5_210 (fun q hq => by cases hq; exact ⟨rfl, rfl⟩) (jHold_int _) okM hG rfl (fun h39 hG39 hX39 => ?_)
                  have hE40 := hE0.tr hX39
                  have hT41 : mTx (gn G 17 ((G 17 0) + 1)) := mTx.at hT (by omega)
                  refine j_iconst dX5_readOrder_142 ?_
                  refine j_aload_n dX5_readOrder_143 rfl rfl ?_
                  refine j_getfield (v := iv (G 21 0)) dX5_readOrder_144 jf_X5_221 hG39.1 rfl ?_
                  refine j_imul dX5_readOrder_147 ?_
                  refine j_istore (L' := [(0, _), (1, _), (2, _), (3, _), (4, _)]) dX5_readOrder_148 (by decide) rfl ?_
                  refine j_aload_n dX5_readOrder_150 rfl rfl ?_
                  refine j_getfield (v := .ref (k + 9)) dX5_readOrder_151 jf_X5_39 hG39.1 rfl ?_
                  refine j_iload dX5_readOrder_154 rfl ?_
                  refine j_iload_n dX5_readOrder_156 rfl rfl ?_
                  refine jo_ias (S := sM) (k := k) dX5_readOrder_157 okM hG39 (i := 20) (p := 9) rfl (by omega) (by decide) (fun h42 hG42 hX42 => ?_)
                  have hE43 := hE40.tr hX42
                  have hT44 : mTx (gs (gn G 17 ((G 17 0) + 1)) 20 (jfu (G 20) (3 * (G 21 0)) ((G 15) (G 17 0)))) := hT41
                  refine j_aload_n dX5_readOrder_158 rfl rfl ?_
                  refine j_getfield (v := .ref (k + 9)) dX5_readOrder_159 jf_X5_39 hG42.1 rfl ?_
                  refine j_iload dX5_readOrder_162 rfl ?_
                  refine j_iconst dX5_readOrder_164 ?_
                  refine j_iadd dX5_readOrder_165 ?_
                  refine j_iload_n dX5_readOrder_166 rfl rfl ?_
                  refine j_bipush dX5_readOrder_167 (by decide +kernel) ?_
                  refine j_icmp_ne (tgt := 176) dX5_readOrder_169 (by decide) (by omega) (fun c45 => ?_) (fun c45 => (False.elim (by omega)))
                  refine j_aload_n dX5_readOrder_176 rfl rfl ?_
                  refine j_iconst dX5_readOrder_177 ?_
                  refine j_callV (c5_number2 hG42 hT44) dX5_readOrder_178 jc_X5_224 jmV_X5_number rfl rfl hG42.1 rfl rfl (by simp) jfr_nil (Nat.le_of_ble_eq_true rfl) ⟨Nat.le_of_ble_eq_true rfl, Nat.le_of_ble_eq_true rfl⟩ ⟨Nat.le_of_ble_eq_true rfl, Nat.le_of_ble_eq_true rfl⟩ (fun r h47 hp9 => ?_) (fun E h9 q => q.elim)
                  obtain ⟨rfl, hG48, hX49⟩ := hp9
                  have hE50 := hE43.tr hX49
                  have hT46 := mTx_number2 hT44
                  have u1 := hT46.1
                  have u2 := hT46.2.1
                  have u3 := hT46.2.2.1
                  refine jo_ias (S := sM) (k := k) dX5_readOrder_181 okM hG48 (i := 20) (p := 9) rfl (by omega) (by decide) (fun h51 hG51 hX51 => ?_)
                  have hE52 := hE50.tr hX51
                  have hT53 : mTx (gs ((m_number2 (gs (gn G 17 ((G 17 0) + 1)) 20 (jfu (G 20) (3 * (G 21 0)) ((G 15) (G 17 0))))).2) 20 (jfu (((m_number2 (gs (gn G 17 ((G 17 0) + 1)) 20 (jfu (G 20) (3 * (G 21 0)) ((G 15) (G 17 0))))).2) 20) ((3 * (G 21 0)) + 1) ((m_number2 (gs (gn G 17 ((G 17 0) + 1)) 20 (jfu (G 20) (3 * (G 21 0)) ((G 15) (G 17 0))))).1))) := hT46
                  refine j_iload_n dX5_readOrder_182 rfl rfl ?_
                  refine j_bipush dX5_readOrder_183 (by decide +kernel) ?_
                  refine j_icmp_eq (tgt := 227) dX5_readOrder_185 (by decide) (by omega) (fun c54 => ?_) (fun c54 => absurd (by decide) c54)
                  refine j_aload_n dX5_readOrder_227 rfl rfl ?_
                  refine j_dup dX5_readOrder_228 rfl ?_
                  refine j_getfield (v := iv (((m_number2 (gs (gn G 17 ((G 17 0) + 1)) 20 (jfu (G 20) (3 * (G 21 0)) ((G 15) (G 17 0))))).2) 21 0)) dX5_readOrder_229 jf_X5_221 hG51.1 rfl ?_
                  refine j_iconst dX5_readOrder_232 ?_
                  refine j_iadd dX5_readOrder_233 ?_
                  refine jo_put (S := sM) dX5_readOrder_234 jf_X5_221 (fun q hq => by cases hq; exact ⟨rfl, rfl⟩) (jHold_int _) okM hG51 rfl (fun h55 hG55 hX55 => ?_)
                  have hE56 := hE52.tr hX55
                  have hT57 : mTx (gn (gs ((m_number2 (gs (gn G 17 ((G 17 0) + 1)) 20 (jfu (G 20) (3 * (G 21 0)) ((G 15) (G 17 0))))).2) 20 (jfu (((m_number2 (gs (gn G 17 ((G 17 0) + 1)) 20 (jfu (G 20) (3 * (G 21 0)) ((G 15) (G 17 0))))).2) 20) ((3 * (G 21 0)) + 1) ((m_number2 (gs (gn G 17 ((G 17 0) + 1)) 20 (jfu (G 20) (3 * (G 21 0)) ((G 15) (G 17 0))))).1))) 21 ((((m_number2 (gs (gn G 17 ((G 17 0) + 1)) 20 (jfu (G 20) (3 * (G 21 0)) ((G 15) (G 17 0))))).2) 21 0) + 1)) := hT53
                  subst hZ
                  exact j_return dX5_readOrder_237 rfl (jWv.i ((if_pos c1).trans ((if_neg c2).trans ((if_neg c17).trans ((if_neg c18).trans ((if_neg c19).trans ((if_neg c20).trans ((if_neg c21).trans (if_pos c37)))))))) hG55 hE56) (Nat.le_refl _) (Nat.le_refl _)
                · refine j_iload_n dX5_readOrder_92 rfl rfl ?_
                  refine j_bipush dX5_readOrder_93 (by decide +kernel) ?_
                  refine j_icmp_eq (tgt := 116) dX5_readOrder_95 (by decide) (by omega) (fun c58 => ?_) (fun c58 => ?_)
                  · refine j_iconst dX5_readOrder_116 ?_
                    refine j_goto (tgt := 121) dX5_readOrder_117 (by decide) ?_
                    refine j_istore_n (L' := [(0, _), (1, _), (2, _), (3, _)]) dX5_readOrder_121 rfl (by decide) rfl ?_
                    refine j_iload_n dX5_readOrder_122 rfl rfl ?_
                    refine j_if_ne (tgt := 132) dX5_readOrder_123 (by decide) (by omega) (fun c59 => ?_) (fun c59 => absurd c59 (by decide))
                    refine j_aload_n dX5_readOrder_132 rfl rfl ?_
                    refine j_dup dX5_readOrder_133 rfl ?_
                    refine j_getfield (v := iv (G 17 0)) dX5_readOrder_134 jf_X5_210 hG.1 rfl ?_
                    refine j_iconst dX5_readOrder_137 ?_
                    refine j_iadd dX5_readOrder_138 ?_
                    refine jo_put (S := sM) dX5_readOrder_139 jf_X5_210 (fun q hq => by cases hq; exact ⟨rfl, rfl⟩) (jHold_int _) okM hG rfl (fun h60 hG60 hX60 => ?_)
                    have hE61 := hE0.tr hX60
                    have hT62 : mTx (gn G 17 ((G 17 0) + 1)) := mTx.at hT (by omega)
                    refine j_iconst dX5_readOrder_142 ?_
                    refine j_aload_n dX5_readOrder_143 rfl rfl ?_
                    refine j_getfield (v := iv (G 21 0)) dX5_readOrder_144 jf_X5_221 hG60.1 rfl ?_
                    refine j_imul dX5_readOrder_147 ?_
                    refine j_istore (L' := [(0, _), (1, _), (2, _), (3, _), (4, _)]) dX5_readOrder_148 (by decide) rfl ?_
                    refine j_aload_n dX5_readOrder_150 rfl rfl ?_
                    refine j_getfield (v := .ref (k + 9)) dX5_readOrder_151 jf_X5_39 hG60.1 rfl ?_
                    refine j_iload dX5_readOrder_154 rfl ?_
                    refine j_iload_n dX5_readOrder_156 rfl rfl ?_
                    refine jo_ias (S := sM) (k := k) dX5_readOrder_157 okM hG60 (i := 20) (p := 9) rfl (by omega) (by decide) (fun h63 hG63 hX63 => ?_)
                    have hE64 := hE61.tr hX63
                    have hT65 : mTx (gs (gn G 17 ((G 17 0) + 1)) 20 (jfu (G 20) (3 * (G 21 0)) ((G 15) (G 17 0)))) := hT62
                    refine j_aload_n dX5_readOrder_158 rfl rfl ?_
                    refine j_getfield (v := .ref (k + 9)) dX5_readOrder_159 jf_X5_39 hG63.1 rfl ?_
                    refine j_iload dX5_readOrder_162 rfl ?_
                    refine j_iconst dX5_readOrder_164 ?_
                    refine j_iadd dX5_readOrder_165 ?_
                    refine j_iload_n dX5_readOrder_166 rfl rfl ?_
                    refine j_bipush dX5_readOrder_167 (by decide +kernel) ?_
                    refine j_icmp_ne (tgt := 176) dX5_readOrder_169 (by decide) (by omega) (fun c66 => ?_) (fun c66 => (False.elim (by omega)))
                    refine j_aload_n dX5_readOrder_176 rfl rfl ?_
                    refine j_iconst dX5_readOrder_177 ?_
                    refine j_callV (c5_number2 hG63 hT65) dX5_readOrder_178 jc_X5_224 jmV_X5_number rfl rfl hG63.1 rfl rfl (by simp) jfr_nil (Nat.le_of_ble_eq_true rfl) ⟨Nat.le_of_ble_eq_true rfl, Nat.le_of_ble_eq_true rfl⟩ ⟨Nat.le_of_ble_eq_true rfl, Nat.le_of_ble_eq_true rfl⟩ (fun r h68 hp9 => ?_) (fun E h9 q => q.elim)
                    obtain ⟨rfl, hG69, hX70⟩ := hp9
                    have hE71 := hE64.tr hX70
                    have hT67 := mTx_number2 hT65
                    have u1 := hT67.1
                    have u2 := hT67.2.1
                    have u3 := hT67.2.2.1
                    refine jo_ias (S := sM) (k := k) dX5_readOrder_181 okM hG69 (i := 20) (p := 9) rfl (by omega) (by decide) (fun h72 hG72 hX72 => ?_)
                    have hE73 := hE71.tr hX72
                    have hT74 : mTx (gs ((m_number2 (gs (gn G 17 ((G 17 0) + 1)) 20 (jfu (G 20) (3 * (G 21 0)) ((G 15) (G 17 0))))).2) 20 (jfu (((m_number2 (gs (gn G 17 ((G 17 0) + 1)) 20 (jfu (G 20) (3 * (G 21 0)) ((G 15) (G 17 0))))).2) 20) ((3 * (G 21 0)) + 1) ((m_number2 (gs (gn G 17 ((G 17 0) + 1)) 20 (jfu (G 20) (3 * (G 21 0)) ((G 15) (G 17 0))))).1))) := hT67
                    refine j_iload_n dX5_readOrder_182 rfl rfl ?_
                    refine j_bipush dX5_readOrder_183 (by decide +kernel) ?_
                    refine j_icmp_eq (tgt := 227) dX5_readOrder_185 (by decide) (by omega) (fun c75 => ?_) (fun c75 => absurd (by decide) c75)
                    refine j_aload_n dX5_readOrder_227 rfl rfl ?_
                    refine j_dup dX5_readOrder_228 rfl ?_
                    refine j_getfield (v := iv (((m_number2 (gs (gn G 17 ((G 17 0) + 1)) 20 (jfu (G 20) (3 * (G 21 0)) ((G 15) (G 17 0))))).2) 21 0)) dX5_readOrder_229 jf_X5_221 hG72.1 rfl ?_
                    refine j_iconst dX5_readOrder_232 ?_
                    refine j_iadd dX5_readOrder_233 ?_
                    refine jo_put (S := sM) dX5_readOrder_234 jf_X5_221 (fun q hq => by cases hq; exact ⟨rfl, rfl⟩) (jHold_int _) okM hG72 rfl (fun h76 hG76 hX76 => ?_)
                    have hE77 := hE73.tr hX76
                    have hT78 : mTx (gn (gs ((m_number2 (gs (gn G 17 ((G 17 0) + 1)) 20 (jfu (G 20) (3 * (G 21 0)) ((G 15) (G 17 0))))).2) 20 (jfu (((m_number2 (gs (gn G 17 ((G 17 0) + 1)) 20 (jfu (G 20) (3 * (G 21 0)) ((G 15) (G 17 0))))).2) 20) ((3 * (G 21 0)) + 1) ((m_number2 (gs (gn G 17 ((G 17 0) + 1)) 20 (jfu (G 20) (3 * (G 21 0)) ((G 15) (G 17 0))))).1))) 21 ((((m_number2 (gs (gn G 17 ((G 17 0) + 1)) 20 (jfu (G 20) (3 * (G 21 0)) ((G 15) (G 17 0))))).2) 21 0) + 1)) := hT74
                    subst hZ
                    exact j_return dX5_readOrder_237 rfl (jWv.i ((if_pos c1).trans ((if_neg c2).trans ((if_neg c17).trans ((if_neg c18).trans ((if_neg c19).trans ((if_neg c20).trans ((if_neg c21).trans ((if_neg c37).trans (if_pos c58))))))))) hG76 hE77) (Nat.le_refl _) (Nat.le_refl _)
                  · refine j_iload_n dX5_readOrder_98 rfl rfl ?_
                    refine j_bipush dX5_readOrder_99 (by decide +kernel) ?_
                    refine j_icmp_eq (tgt := 116) dX5_readOrder_101 (by decide) (by omega) (fun c79 => ?_) (fun c79 => ?_)
                    · refine j_iconst dX5_readOrder_116 ?_
                      refine j_goto (tgt := 121) dX5_readOrder_117 (by decide) ?_
                      refine j_istore_n (L' := [(0, _), (1, _), (2, _), (3, _)]) dX5_readOrder_121 rfl (by decide) rfl ?_
                      refine j_iload_n dX5_readOrder_122 rfl rfl ?_
                      refine j_if_ne (tgt := 132) dX5_readOrder_123 (by decide) (by omega) (fun c80 => ?_) (fun c80 => absurd c80 (by decide))
                      refine j_aload_n dX5_readOrder_132 rfl rfl ?_
                      refine j_dup dX5_readOrder_133 rfl ?_
                      refine j_getfield (v := iv (G 17 0)) dX5_readOrder_134 jf_X5_210 hG.1 rfl ?_
                      refine j_iconst dX5_readOrder_137 ?_
                      refine j_iadd dX5_readOrder_138 ?_
                      refine jo_put (S := sM) dX5_readOrder_139 jf_X5_210 (fun q hq => by cases hq; exact ⟨rfl, rfl⟩) (jHold_int _) okM hG rfl (fun h81 hG81 hX81 => ?_)
                      have hE82 := hE0.tr hX81
                      have hT83 : mTx (gn G 17 ((G 17 0) + 1)) := mTx.at hT (by omega)
                      refine j_iconst dX5_readOrder_142 ?_
                      refine j_aload_n dX5_readOrder_143 rfl rfl ?_
                      refine j_getfield (v := iv (G 21 0)) dX5_readOrder_144 jf_X5_221 hG81.1 rfl ?_
                      refine j_imul dX5_readOrder_147 ?_
                      refine j_istore (L' := [(0, _), (1, _), (2, _), (3, _), (4, _)]) dX5_readOrder_148 (by decide) rfl ?_
                      refine j_aload_n dX5_readOrder_150 rfl rfl ?_
                      refine j_getfield (v := .ref (k + 9)) dX5_readOrder_151 jf_X5_39 hG81.1 rfl ?_
                      refine j_iload dX5_readOrder_154 rfl ?_
                      refine j_iload_n dX5_readOrder_156 rfl rfl ?_
                      refine jo_ias (S := sM) (k := k) dX5_readOrder_157 okM hG81 (i := 20) (p := 9) rfl (by omega) (by decide) (fun h84 hG84 hX84 => ?_)
                      have hE85 := hE82.tr hX84
                      have hT86 : mTx (gs (gn G 17 ((G 17 0) + 1)) 20 (jfu (G 20) (3 * (G 21 0)) ((G 15) (G 17 0)))) := hT83
                      refine j_aload_n dX5_readOrder_158 rfl rfl ?_
                      refine j_getfield (v := .ref (k + 9)) dX5_readOrder_159 jf_X5_39 hG84.1 rfl ?_
                      refine j_iload dX5_readOrder_162 rfl ?_
                      refine j_iconst dX5_readOrder_164 ?_
                      refine j_iadd dX5_readOrder_165 ?_
                      refine j_iload_n dX5_readOrder_166 rfl rfl ?_
                      refine j_bipush dX5_readOrder_167 (by decide +kernel) ?_
                      refine j_icmp_ne (tgt := 176) dX5_readOrder_169 (by decide) (by omega) (fun c87 => ?_) (fun c87 => (False.elim (by omega)))
                      refine j_aload_n dX5_readOrder_176 rfl rfl ?_
                      refine j_iconst dX5_readOrder_177 ?_
                      refine j_callV (c5_number2 hG84 hT86) dX5_readOrder_178 jc_X5_224 jmV_X5_number rfl rfl hG84.1 rfl rfl (by simp) jfr_nil (Nat.le_of_ble_eq_true rfl) ⟨Nat.le_of_ble_eq_true rfl, Nat.le_of_ble_eq_true rfl⟩ ⟨Nat.le_of_ble_eq_true rfl, Nat.le_of_ble_eq_true rfl⟩ (fun r h89 hp9 => ?_) (fun E h9 q => q.elim)
                      obtain ⟨rfl, hG90, hX91⟩ := hp9
                      have hE92 := hE85.tr hX91
                      have hT88 := mTx_number2 hT86
                      have u1 := hT88.1
                      have u2 := hT88.2.1
                      have u3 := hT88.2.2.1
                      refine jo_ias (S := sM) (k := k) dX5_readOrder_181 okM hG90 (i := 20) (p := 9) rfl (by omega) (by decide) (fun h93 hG93 hX93 => ?_)
                      have hE94 := hE92.tr hX93
                      have hT95 : mTx (gs ((m_number2 (gs (gn G 17 ((G 17 0) + 1)) 20 (jfu (G 20) (3 * (G 21 0)) ((G 15) (G 17 0))))).2) 20 (jfu (((m_number2 (gs (gn G 17 ((G 17 0) + 1)) 20 (jfu (G 20) (3 * (G 21 0)) ((G 15) (G 17 0))))).2) 20) ((3 * (G 21 0)) + 1) ((m_number2 (gs (gn G 17 ((G 17 0) + 1)) 20 (jfu (G 20) (3 * (G 21 0)) ((G 15) (G 17 0))))).1))) := hT88
                      refine j_iload_n dX5_readOrder_182 rfl rfl ?_
                      refine j_bipush dX5_readOrder_183 (by decide +kernel) ?_
                      refine j_icmp_eq (tgt := 227) dX5_readOrder_185 (by decide) (by omega) (fun c96 => ?_) (fun c96 => absurd (by decide) c96)
                      refine j_aload_n dX5_readOrder_227 rfl rfl ?_
                      refine j_dup dX5_readOrder_228 rfl ?_
                      refine j_getfield (v := iv (((m_number2 (gs (gn G 17 ((G 17 0) + 1)) 20 (jfu (G 20) (3 * (G 21 0)) ((G 15) (G 17 0))))).2) 21 0)) dX5_readOrder_229 jf_X5_221 hG93.1 rfl ?_
                      refine j_iconst dX5_readOrder_232 ?_
                      refine j_iadd dX5_readOrder_233 ?_
                      refine jo_put (S := sM) dX5_readOrder_234 jf_X5_221 (fun q hq => by cases hq; exact ⟨rfl, rfl⟩) (jHold_int _) okM hG93 rfl (fun h97 hG97 hX97 => ?_)
                      have hE98 := hE94.tr hX97
                      have hT99 : mTx (gn (gs ((m_number2 (gs (gn G 17 ((G 17 0) + 1)) 20 (jfu (G 20) (3 * (G 21 0)) ((G 15) (G 17 0))))).2) 20 (jfu (((m_number2 (gs (gn G 17 ((G 17 0) + 1)) 20 (jfu (G 20) (3 * (G 21 0)) ((G 15) (G 17 0))))).2) 20) ((3 * (G 21 0)) + 1) ((m_number2 (gs (gn G 17 ((G 17 0) + 1)) 20 (jfu (G 20) (3 * (G 21 0)) ((G 15) (G 17 0))))).1))) 21 ((((m_number2 (gs (gn G 17 ((G 17 0) + 1)) 20 (jfu (G 20) (3 * (G 21 0)) ((G 15) (G 17 0))))).2) 21 0) + 1)) := hT95
                      subst hZ
                      exact j_return dX5_readOrder_237 rfl (jWv.i ((if_pos c1).trans ((if_neg c2).trans ((if_neg c17).trans ((if_neg c18).trans ((if_neg c19).trans ((if_neg c20).trans ((if_neg c21).trans ((if_neg c37).trans ((if_neg c58).trans (if_pos c79)))))))))) hG97 hE98) (Nat.le_refl _) (Nat.le_refl _)
                    · refine j_iload_n dX5_readOrder_104 rfl rfl ?_
                      refine j_bipush dX5_readOrder_105 (by decide +kernel) ?_
                      refine j_icmp_eq (tgt := 116) dX5_readOrder_107 (by decide) (by omega) (fun c100 => ?_) (fun c100 => ?_)
                      · refine j_iconst dX5_readOrder_116 ?_
                        refine j_goto (tgt := 121) dX5_readOrder_117 (by decide) ?_
                        refine j_istore_n (L' := [(0, _), (1, _), (2, _), (3, _)]) dX5_readOrder_121 rfl (by decide) rfl ?_
                        refine j_iload_n dX5_readOrder_122 rfl rfl ?_
                        refine j_if_ne (tgt := 132) dX5_readOrder_123 (by decide) (by omega) (fun c101 => ?_) (fun c101 => absurd c101 (by decide))
                        refine j_aload_n dX5_readOrder_132 rfl rfl ?_
                        refine j_dup dX5_readOrder_133 rfl ?_
                        refine j_getfield (v := iv (G 17 0)) dX5_readOrder_134 jf_X5_210 hG.1 rfl ?_
                        refine j_iconst dX5_readOrder_137 ?_
                        refine j_iadd dX5_readOrder_138 ?_
                        refine jo_put (S := sM) dX5_readOrder_139 jf_X5_210 (fun q hq => by cases hq; exact ⟨rfl, rfl⟩) (jHold_int _) okM hG rfl (fun h102 hG102 hX102 => ?_)
                        have hE103 := hE0.tr hX102
                        have hT104 : mTx (gn G 17 ((G 17 0) + 1)) := mTx.at hT (by omega)
                        refine j_iconst dX5_readOrder_142 ?_
                        refine j_aload_n dX5_readOrder_143 rfl rfl ?_
                        refine j_getfield (v := iv (G 21 0)) dX5_readOrder_144 jf_X5_221 hG102.1 rfl ?_
                        refine j_imul dX5_readOrder_147 ?_
                        refine j_istore (L' := [(0, _), (1, _), (2, _), (3, _), (4, _)]) dX5_readOrder_148 (by decide) rfl ?_
                        refine j_aload_n dX5_readOrder_150 rfl rfl ?_
                        refine j_getfield (v := .ref (k + 9)) dX5_readOrder_151 jf_X5_39 hG102.1 rfl ?_
                        refine j_iload dX5_readOrder_154 rfl ?_
                        refine j_iload_n dX5_readOrder_156 rfl rfl ?_
                        refine jo_ias (S := sM) (k := k) dX5_readOrder_157 okM hG102 (i := 20) (p := 9) rfl (by omega) (by decide) (fun h105 hG105 hX105 => ?_)
                        have hE106 := hE103.tr hX105
                        have hT107 : mTx (gs (gn G 17 ((G 17 0) + 1)) 20 (jfu (G 20) (3 * (G 21 0)) ((G 15) (G 17 0)))) := hT104
                        refine j_aload_n dX5_readOrder_158 rfl rfl ?_
                        refine j_getfield (v := .ref (k + 9)) dX5_readOrder_159 jf_X5_39 hG105.1 rfl ?_
                        refine j_iload dX5_readOrder_162 rfl ?_
                        refine j_iconst dX5_readOrder_164 ?_
                        refine j_iadd dX5_readOrder_165 ?_
                        refine j_iload_n dX5_readOrder_166 rfl rfl ?_
                        refine j_bipush dX5_readOrder_167 (by decide +kernel) ?_
                        refine j_icmp_ne (tgt := 176) dX5_readOrder_169 (by decide) (by omega) (fun c108 => ?_) (fun c108 => (False.elim (by omega)))
                        refine j_aload_n dX5_readOrder_176 rfl rfl ?_
                        refine j_iconst dX5_readOrder_177 ?_
                        refine j_callV (c5_number2 hG105 hT107) dX5_readOrder_178 jc_X5_224 jmV_X5_number rfl rfl hG105.1 rfl rfl (by simp) jfr_nil (Nat.le_of_ble_eq_true rfl) ⟨Nat.le_of_ble_eq_true rfl, Nat.le_of_ble_eq_true rfl⟩ ⟨Nat.le_of_ble_eq_true rfl, Nat.le_of_ble_eq_true rfl⟩ (fun r h110 hp9 => ?_) (fun E h9 q => q.elim)
                        obtain ⟨rfl, hG111, hX112⟩ := hp9
                        have hE113 := hE106.tr hX112
                        have hT109 := mTx_number2 hT107
                        have u1 := hT109.1
                        have u2 := hT109.2.1
                        have u3 := hT109.2.2.1
                        refine jo_ias (S := sM) (k := k) dX5_readOrder_181 okM hG111 (i := 20) (p := 9) rfl (by omega) (by decide) (fun h114 hG114 hX114 => ?_)
                        have hE115 := hE113.tr hX114
                        have hT116 : mTx (gs ((m_number2 (gs (gn G 17 ((G 17 0) + 1)) 20 (jfu (G 20) (3 * (G 21 0)) ((G 15) (G 17 0))))).2) 20 (jfu (((m_number2 (gs (gn G 17 ((G 17 0) + 1)) 20 (jfu (G 20) (3 * (G 21 0)) ((G 15) (G 17 0))))).2) 20) ((3 * (G 21 0)) + 1) ((m_number2 (gs (gn G 17 ((G 17 0) + 1)) 20 (jfu (G 20) (3 * (G 21 0)) ((G 15) (G 17 0))))).1))) := hT109
                        refine j_iload_n dX5_readOrder_182 rfl rfl ?_
                        refine j_bipush dX5_readOrder_183 (by decide +kernel) ?_
                        refine j_icmp_eq (tgt := 227) dX5_readOrder_185 (by decide) (by omega) (fun c117 => ?_) (fun c117 => absurd (by decide) c117)
                        refine j_aload_n dX5_readOrder_227 rfl rfl ?_
                        refine j_dup dX5_readOrder_228 rfl ?_
                        refine j_getfield (v := iv (((m_number2 (gs (gn G 17 ((G 17 0) + 1)) 20 (jfu (G 20) (3 * (G 21 0)) ((G 15) (G 17 0))))).2) 21 0)) dX5_readOrder_229 jf_X5_221 hG114.1 rfl ?_
                        refine j_iconst dX5_readOrder_232 ?_
                        refine j_iadd dX5_readOrder_233 ?_
                        refine jo_put (S := sM) dX5_readOrder_234 jf_X5_221 (fun q hq => by cases hq; exact ⟨rfl, rfl⟩) (jHold_int _) okM hG114 rfl (fun h118 hG118 hX118 => ?_)
                        have hE119 := hE115.tr hX118
                        have hT120 : mTx (gn (gs ((m_number2 (gs (gn G 17 ((G 17 0) + 1)) 20 (jfu (G 20) (3 * (G 21 0)) ((G 15) (G 17 0))))).2) 20 (jfu (((m_number2 (gs (gn G 17 ((G 17 0) + 1)) 20 (jfu (G 20) (3 * (G 21 0)) ((G 15) (G 17 0))))).2) 20) ((3 * (G 21 0)) + 1) ((m_number2 (gs (gn G 17 ((G 17 0) + 1)) 20 (jfu (G 20) (3 * (G 21 0)) ((G 15) (G 17 0))))).1))) 21 ((((m_number2 (gs (gn G 17 ((G 17 0) + 1)) 20 (jfu (G 20) (3 * (G 21 0)) ((G 15) (G 17 0))))).2) 21 0) + 1)) := hT116
                        subst hZ
                        exact j_return dX5_readOrder_237 rfl (jWv.i ((if_pos c1).trans ((if_neg c2).trans ((if_neg c17).trans ((if_neg c18).trans ((if_neg c19).trans ((if_neg c20).trans ((if_neg c21).trans ((if_neg c37).trans ((if_neg c58).trans ((if_neg c79).trans (if_pos c100))))))))))) hG118 hE119) (Nat.le_refl _) (Nat.le_refl _)
                      · refine j_iload_n dX5_readOrder_110 rfl rfl ?_
                        refine j_bipush dX5_readOrder_111 (by decide +kernel) ?_
                        refine j_icmp_eq (tgt := 120) dX5_readOrder_113 (by decide) (by omega) (fun c121 => ?_) (fun c121 => absurd (by decide) c121)
                        refine j_iconst dX5_readOrder_120 ?_
                        refine j_istore_n (L' := [(0, _), (1, _), (2, _), (3, _)]) dX5_readOrder_121 rfl (by decide) rfl ?_
                        refine j_iload_n dX5_readOrder_122 rfl rfl ?_
                        refine j_if_ne (tgt := 132) dX5_readOrder_123 (by decide) (by omega) (fun c122 => (c122 rfl).elim) (fun c122 => ?_)
                        refine j_aload_n dX5_readOrder_126 rfl rfl ?_
                        refine j_iconst dX5_readOrder_127 ?_
                        refine jo_put (S := sM) dX5_readOrder_128 jf_X5_207 (fun q hq => by cases hq; exact ⟨rfl, rfl⟩) (jHold_bool (by omega)) okM hG rfl (fun h123 hG123 hX123 => ?_)
                        have hE124 := hE0.tr hX123
                        have hT125 : mTx (gn G 18 1) := mTx.wr hT (by omega)
                        subst hZ
                        exact j_return dX5_readOrder_131 rfl (jWv.i ((if_pos c1).trans ((if_neg c2).trans ((if_neg c17).trans ((if_neg c18).trans ((if_neg c19).trans ((if_neg c20).trans ((if_neg c21).trans ((if_neg c37).trans ((if_neg c58).trans ((if_neg c79).trans (if_neg c100))))))))))) hG123 hE124) (Nat.le_refl _) (Nat.le_refl _)
            · refine j_bipush dX5_readOrder_72 (by decide +kernel) ?_
              refine j_goto (tgt := 79) dX5_readOrder_74 (by decide) ?_
              refine j_istore_n (L' := [(0, _), (1, _), (2, _)]) dX5_readOrder_79 rfl (by decide) rfl ?_
              refine j_iload_n dX5_readOrder_80 rfl rfl ?_
              refine j_bipush dX5_readOrder_81 (by decide +kernel) ?_
              refine j_icmp_eq (tgt := 116) dX5_readOrder_83 (by decide) (by omega) (fun c126 => (False.elim (by omega))) (fun c126 => ?_)
              refine j_iload_n dX5_readOrder_86 rfl rfl ?_
              refine j_bipush dX5_readOrder_87 (by decide +kernel) ?_
              refine j_icmp_eq (tgt := 116) dX5_readOrder_89 (by decide) (by omega) (fun c127 => (False.elim (by omega))) (fun c127 => ?_)
              refine j_iload_n dX5_readOrder_92 rfl rfl ?_
              refine j_bipush dX5_readOrder_93 (by decide +kernel) ?_
              refine j_icmp_eq (tgt := 116) dX5_readOrder_95 (by decide) (by omega) (fun c128 => (False.elim (by omega))) (fun c128 => ?_)
              refine j_iload_n dX5_readOrder_98 rfl rfl ?_
              refine j_bipush dX5_readOrder_99 (by decide +kernel) ?_
              refine j_icmp_eq (tgt := 116) dX5_readOrder_101 (by decide) (by omega) (fun c129 => (False.elim (by omega))) (fun c129 => ?_)
              refine j_iload_n dX5_readOrder_104 rfl rfl ?_
              refine j_bipush dX5_readOrder_105 (by decide +kernel) ?_
              refine j_icmp_eq (tgt := 116) dX5_readOrder_107 (by decide) (by omega) (fun c130 => (False.elim (by omega))) (fun c130 => ?_)
              refine j_iload_n dX5_readOrder_110 rfl rfl ?_
              refine j_bipush dX5_readOrder_111 (by decide +kernel) ?_
              refine j_icmp_eq (tgt := 120) dX5_readOrder_113 (by decide) (by omega) (fun c131 => absurd c131 (by decide)) (fun c131 => ?_)
              refine j_iconst dX5_readOrder_116 ?_
              refine j_goto (tgt := 121) dX5_readOrder_117 (by decide) ?_
              refine j_istore_n (L' := [(0, _), (1, _), (2, _), (3, _)]) dX5_readOrder_121 rfl (by decide) rfl ?_
              refine j_iload_n dX5_readOrder_122 rfl rfl ?_
              refine j_if_ne (tgt := 132) dX5_readOrder_123 (by decide) (by omega) (fun c132 => ?_) (fun c132 => absurd c132 (by decide))
              refine j_aload_n dX5_readOrder_132 rfl rfl ?_
              refine j_dup dX5_readOrder_133 rfl ?_
              refine j_getfield (v := iv (G 17 0)) dX5_readOrder_134 jf_X5_210 hG.1 rfl ?_
              refine j_iconst dX5_readOrder_137 ?_
              refine j_iadd dX5_readOrder_138 ?_
              refine jo_put (S := sM) dX5_readOrder_139 jf_X5_210 (fun q hq => by cases hq; exact ⟨rfl, rfl⟩) (jHold_int _) okM hG rfl (fun h133 hG133 hX133 => ?_)
              have hE134 := hE0.tr hX133
              have hT135 : mTx (gn G 17 ((G 17 0) + 1)) := mTx.at hT (by omega)
              refine j_iconst dX5_readOrder_142 ?_
              refine j_aload_n dX5_readOrder_143 rfl rfl ?_
              refine j_getfield (v := iv (G 21 0)) dX5_readOrder_144 jf_X5_221 hG133.1 rfl ?_
              refine j_imul dX5_readOrder_147 ?_
              refine j_istore (L' := [(0, _), (1, _), (2, _), (3, _), (4, _)]) dX5_readOrder_148 (by decide) rfl ?_
              refine j_aload_n dX5_readOrder_150 rfl rfl ?_
              refine j_getfield (v := .ref (k + 9)) dX5_readOrder_151 jf_X5_39 hG133.1 rfl ?_
              refine j_iload dX5_readOrder_154 rfl ?_
              refine j_iload_n dX5_readOrder_156 rfl rfl ?_
              refine jo_ias (S := sM) (k := k) dX5_readOrder_157 okM hG133 (i := 20) (p := 9) rfl (by omega) (by decide) (fun h136 hG136 hX136 => ?_)
              have hE137 := hE134.tr hX136
              have hT138 : mTx (gs (gn G 17 ((G 17 0) + 1)) 20 (jfu (G 20) (3 * (G 21 0)) ((G 15) (G 17 0)))) := hT135
              refine j_aload_n dX5_readOrder_158 rfl rfl ?_
              refine j_getfield (v := .ref (k + 9)) dX5_readOrder_159 jf_X5_39 hG136.1 rfl ?_
              refine j_iload dX5_readOrder_162 rfl ?_
              refine j_iconst dX5_readOrder_164 ?_
              refine j_iadd dX5_readOrder_165 ?_
              refine j_iload_n dX5_readOrder_166 rfl rfl ?_
              refine j_bipush dX5_readOrder_167 (by decide +kernel) ?_
              refine j_icmp_ne (tgt := 176) dX5_readOrder_169 (by decide) (by omega) (fun c139 => ?_) (fun c139 => (False.elim (by omega)))
              refine j_aload_n dX5_readOrder_176 rfl rfl ?_
              refine j_iconst dX5_readOrder_177 ?_
              refine j_callV (c5_number2 hG136 hT138) dX5_readOrder_178 jc_X5_224 jmV_X5_number rfl rfl hG136.1 rfl rfl (by simp) jfr_nil (Nat.le_of_ble_eq_true rfl) ⟨Nat.le_of_ble_eq_true rfl, Nat.le_of_ble_eq_true rfl⟩ ⟨Nat.le_of_ble_eq_true rfl, Nat.le_of_ble_eq_true rfl⟩ (fun r h141 hp9 => ?_) (fun E h9 q => q.elim)
              obtain ⟨rfl, hG142, hX143⟩ := hp9
              have hE144 := hE137.tr hX143
              have hT140 := mTx_number2 hT138
              have u1 := hT140.1
              have u2 := hT140.2.1
              have u3 := hT140.2.2.1
              refine jo_ias (S := sM) (k := k) dX5_readOrder_181 okM hG142 (i := 20) (p := 9) rfl (by omega) (by decide) (fun h145 hG145 hX145 => ?_)
              have hE146 := hE144.tr hX145
              have hT147 : mTx (gs ((m_number2 (gs (gn G 17 ((G 17 0) + 1)) 20 (jfu (G 20) (3 * (G 21 0)) ((G 15) (G 17 0))))).2) 20 (jfu (((m_number2 (gs (gn G 17 ((G 17 0) + 1)) 20 (jfu (G 20) (3 * (G 21 0)) ((G 15) (G 17 0))))).2) 20) ((3 * (G 21 0)) + 1) ((m_number2 (gs (gn G 17 ((G 17 0) + 1)) 20 (jfu (G 20) (3 * (G 21 0)) ((G 15) (G 17 0))))).1))) := hT140
              refine j_iload_n dX5_readOrder_182 rfl rfl ?_
              refine j_bipush dX5_readOrder_183 (by decide +kernel) ?_
              refine j_icmp_eq (tgt := 227) dX5_readOrder_185 (by decide) (by omega) (fun c148 => absurd c148 (by decide)) (fun c148 => ?_)
              refine j_aload_n dX5_readOrder_188 rfl rfl ?_
              refine j_getfield (v := iv (((m_number2 (gs (gn G 17 ((G 17 0) + 1)) 20 (jfu (G 20) (3 * (G 21 0)) ((G 15) (G 17 0))))).2) 18 0)) dX5_readOrder_189 jf_X5_207 hG145.1 rfl ?_
              refine j_if_ne (tgt := 227) dX5_readOrder_192 (by decide) (by omega) (fun c149 => ?_) (fun c149 => ?_)
              · refine j_aload_n dX5_readOrder_227 rfl rfl ?_
                refine j_dup dX5_readOrder_228 rfl ?_
                refine j_getfield (v := iv (((m_number2 (gs (gn G 17 ((G 17 0) + 1)) 20 (jfu (G 20) (3 * (G 21 0)) ((G 15) (G 17 0))))).2) 21 0)) dX5_readOrder_229 jf_X5_221 hG145.1 rfl ?_
                refine j_iconst dX5_readOrder_232 ?_
                refine j_iadd dX5_readOrder_233 ?_
                refine jo_put (S := sM) dX5_readOrder_234 jf_X5_221 (fun q hq => by cases hq; exact ⟨rfl, rfl⟩) (jHold_int _) okM hG145 rfl (fun h150 hG150 hX150 => ?_)
                have hE151 := hE146.tr hX150
                have hT152 : mTx (gn (gs ((m_number2 (gs (gn G 17 ((G 17 0) + 1)) 20 (jfu (G 20) (3 * (G 21 0)) ((G 15) (G 17 0))))).2) 20 (jfu (((m_number2 (gs (gn G 17 ((G 17 0) + 1)) 20 (jfu (G 20) (3 * (G 21 0)) ((G 15) (G 17 0))))).2) 20) ((3 * (G 21 0)) + 1) ((m_number2 (gs (gn G 17 ((G 17 0) + 1)) 20 (jfu (G 20) (3 * (G 21 0)) ((G 15) (G 17 0))))).1))) 21 ((((m_number2 (gs (gn G 17 ((G 17 0) + 1)) 20 (jfu (G 20) (3 * (G 21 0)) ((G 15) (G 17 0))))).2) 21 0) + 1)) := hT147
                subst hZ
                exact j_return dX5_readOrder_237 rfl (jWv.i ((if_pos c1).trans ((if_neg c2).trans ((if_neg c17).trans ((if_neg c18).trans ((if_neg c19).trans ((if_pos c20).trans (if_neg c149))))))) hG150 hE151) (Nat.le_refl _) (Nat.le_refl _)
              · refine j_aload_n dX5_readOrder_195 rfl rfl ?_
                refine j_iload_n dX5_readOrder_196 rfl rfl ?_
                refine j_iload_n dX5_readOrder_197 rfl rfl ?_
                refine j_callV (c5_sign hG145 (by omega) (by omega) hT147) dX5_readOrder_198 jc_X5_217 jmV_X5_sign rfl rfl hG145.1 rfl rfl (by simp) jfr_nil (Nat.le_of_ble_eq_true rfl) ⟨Nat.le_of_ble_eq_true rfl, Nat.le_of_ble_eq_true rfl⟩ ⟨Nat.le_of_ble_eq_true rfl, Nat.le_of_ble_eq_true rfl⟩ (fun r h154 hp9 => ?_) (fun E h9 q => q.elim)
                obtain ⟨rfl, hG155, hX156⟩ := hp9
                have hE157 := hE146.tr hX156
                have hT153 := mTx_sign (lo := 61) (hi := 61) hT147
                have u1 := hT153.1
                have u2 := hT153.2.1
                have u3 := hT153.2.2.1
                refine j_istore (L' := [(0, _), (1, _), (2, _), (3, _), (4, _), (5, _)]) dX5_readOrder_201 (by decide) rfl ?_
                refine j_aload_n dX5_readOrder_203 rfl rfl ?_
                refine j_getfield (v := .ref (k + 9)) dX5_readOrder_204 jf_X5_39 hG155.1 rfl ?_
                refine j_iload dX5_readOrder_207 rfl ?_
                refine j_iconst dX5_readOrder_209 ?_
                refine j_iadd dX5_readOrder_210 ?_
                refine j_aload_n dX5_readOrder_211 rfl rfl ?_
                refine j_iload_n dX5_readOrder_212 rfl rfl ?_
                refine j_bipush dX5_readOrder_213 (by decide +kernel) ?_
                refine j_icmp_ne (tgt := 222) dX5_readOrder_215 (by decide) (by omega) (fun c158 => (False.elim (by omega))) (fun c158 => ?_)
                refine j_iconst dX5_readOrder_218 ?_
                refine j_goto (tgt := 223) dX5_readOrder_219 (by decide) ?_
                refine j_callV (c5_number3 hG155 hT153) dX5_readOrder_223 jc_X5_224 jmV_X5_number rfl rfl hG155.1 rfl rfl (by simp) jfr_nil (Nat.le_of_ble_eq_true rfl) ⟨Nat.le_of_ble_eq_true rfl, Nat.le_of_ble_eq_true rfl⟩ ⟨Nat.le_of_ble_eq_true rfl, Nat.le_of_ble_eq_true rfl⟩ (fun r h160 hp9 => ?_) (fun E h9 q => q.elim)
                obtain ⟨rfl, hG161, hX162⟩ := hp9
                have hE163 := hE157.tr hX162
                have hT159 := mTx_number3 hT153
                have u1 := hT159.1
                have u2 := hT159.2.1
                have u3 := hT159.2.2.1
                refine jo_ias (S := sM) (k := k) dX5_readOrder_226 okM hG161 (i := 20) (p := 9) rfl (by omega) (by decide) (fun h164 hG164 hX164 => ?_)
                have hE165 := hE163.tr hX164
                have hT166 : mTx (gs ((m_number3 ((m_sign (gs ((m_number2 (gs (gn G 17 ((G 17 0) + 1)) 20 (jfu (G 20) (3 * (G 21 0)) ((G 15) (G 17 0))))).2) 20 (jfu (((m_number2 (gs (gn G 17 ((G 17 0) + 1)) 20 (jfu (G 20) (3 * (G 21 0)) ((G 15) (G 17 0))))).2) 20) ((3 * (G 21 0)) + 1) ((m_number2 (gs (gn G 17 ((G 17 0) + 1)) 20 (jfu (G 20) (3 * (G 21 0)) ((G 15) (G 17 0))))).1))) 61 61).2)).2) 20 (jfu (((m_number3 ((m_sign (gs ((m_number2 (gs (gn G 17 ((G 17 0) + 1)) 20 (jfu (G 20) (3 * (G 21 0)) ((G 15) (G 17 0))))).2) 20 (jfu (((m_number2 (gs (gn G 17 ((G 17 0) + 1)) 20 (jfu (G 20) (3 * (G 21 0)) ((G 15) (G 17 0))))).2) 20) ((3 * (G 21 0)) + 1) ((m_number2 (gs (gn G 17 ((G 17 0) + 1)) 20 (jfu (G 20) (3 * (G 21 0)) ((G 15) (G 17 0))))).1))) 61 61).2)).2) 20) ((3 * (G 21 0)) + 2) ((m_number3 ((m_sign (gs ((m_number2 (gs (gn G 17 ((G 17 0) + 1)) 20 (jfu (G 20) (3 * (G 21 0)) ((G 15) (G 17 0))))).2) 20 (jfu (((m_number2 (gs (gn G 17 ((G 17 0) + 1)) 20 (jfu (G 20) (3 * (G 21 0)) ((G 15) (G 17 0))))).2) 20) ((3 * (G 21 0)) + 1) ((m_number2 (gs (gn G 17 ((G 17 0) + 1)) 20 (jfu (G 20) (3 * (G 21 0)) ((G 15) (G 17 0))))).1))) 61 61).2)).1))) := hT159
                refine j_aload_n dX5_readOrder_227 rfl rfl ?_
                refine j_dup dX5_readOrder_228 rfl ?_
                refine j_getfield (v := iv (((m_number3 ((m_sign (gs ((m_number2 (gs (gn G 17 ((G 17 0) + 1)) 20 (jfu (G 20) (3 * (G 21 0)) ((G 15) (G 17 0))))).2) 20 (jfu (((m_number2 (gs (gn G 17 ((G 17 0) + 1)) 20 (jfu (G 20) (3 * (G 21 0)) ((G 15) (G 17 0))))).2) 20) ((3 * (G 21 0)) + 1) ((m_number2 (gs (gn G 17 ((G 17 0) + 1)) 20 (jfu (G 20) (3 * (G 21 0)) ((G 15) (G 17 0))))).1))) 61 61).2)).2) 21 0)) dX5_readOrder_229 jf_X5_221 hG164.1 rfl ?_
                refine j_iconst dX5_readOrder_232 ?_
                refine j_iadd dX5_readOrder_233 ?_
                refine jo_put (S := sM) dX5_readOrder_234 jf_X5_221 (fun q hq => by cases hq; exact ⟨rfl, rfl⟩) (jHold_int _) okM hG164 rfl (fun h167 hG167 hX167 => ?_)
                have hE168 := hE165.tr hX167
                have hT169 : mTx (gn (gs ((m_number3 ((m_sign (gs ((m_number2 (gs (gn G 17 ((G 17 0) + 1)) 20 (jfu (G 20) (3 * (G 21 0)) ((G 15) (G 17 0))))).2) 20 (jfu (((m_number2 (gs (gn G 17 ((G 17 0) + 1)) 20 (jfu (G 20) (3 * (G 21 0)) ((G 15) (G 17 0))))).2) 20) ((3 * (G 21 0)) + 1) ((m_number2 (gs (gn G 17 ((G 17 0) + 1)) 20 (jfu (G 20) (3 * (G 21 0)) ((G 15) (G 17 0))))).1))) 61 61).2)).2) 20 (jfu (((m_number3 ((m_sign (gs ((m_number2 (gs (gn G 17 ((G 17 0) + 1)) 20 (jfu (G 20) (3 * (G 21 0)) ((G 15) (G 17 0))))).2) 20 (jfu (((m_number2 (gs (gn G 17 ((G 17 0) + 1)) 20 (jfu (G 20) (3 * (G 21 0)) ((G 15) (G 17 0))))).2) 20) ((3 * (G 21 0)) + 1) ((m_number2 (gs (gn G 17 ((G 17 0) + 1)) 20 (jfu (G 20) (3 * (G 21 0)) ((G 15) (G 17 0))))).1))) 61 61).2)).2) 20) ((3 * (G 21 0)) + 2) ((m_number3 ((m_sign (gs ((m_number2 (gs (gn G 17 ((G 17 0) + 1)) 20 (jfu (G 20) (3 * (G 21 0)) ((G 15) (G 17 0))))).2) 20 (jfu (((m_number2 (gs (gn G 17 ((G 17 0) + 1)) 20 (jfu (G 20) (3 * (G 21 0)) ((G 15) (G 17 0))))).2) 20) ((3 * (G 21 0)) + 1) ((m_number2 (gs (gn G 17 ((G 17 0) + 1)) 20 (jfu (G 20) (3 * (G 21 0)) ((G 15) (G 17 0))))).1))) 61 61).2)).1))) 21 ((((m_number3 ((m_sign (gs ((m_number2 (gs (gn G 17 ((G 17 0) + 1)) 20 (jfu (G 20) (3 * (G 21 0)) ((G 15) (G 17 0))))).2) 20 (jfu (((m_number2 (gs (gn G 17 ((G 17 0) + 1)) 20 (jfu (G 20) (3 * (G 21 0)) ((G 15) (G 17 0))))).2) 20) ((3 * (G 21 0)) + 1) ((m_number2 (gs (gn G 17 ((G 17 0) + 1)) 20 (jfu (G 20) (3 * (G 21 0)) ((G 15) (G 17 0))))).1))) 61 61).2)).2) 21 0) + 1)) := hT166
                subst hZ
                exact j_return dX5_readOrder_237 rfl (jWv.i ((if_pos c1).trans ((if_neg c2).trans ((if_neg c17).trans ((if_neg c18).trans ((if_neg c19).trans ((if_pos c20).trans (if_pos c149))))))) hG167 hE168) (Nat.le_refl _) (Nat.le_refl _)
          · refine j_bipush dX5_readOrder_61 (by decide +kernel) ?_
            refine j_goto (tgt := 79) dX5_readOrder_63 (by decide) ?_
            refine j_istore_n (L' := [(0, _), (1, _), (2, _)]) dX5_readOrder_79 rfl (by decide) rfl ?_
            refine j_iload_n dX5_readOrder_80 rfl rfl ?_
            refine j_bipush dX5_readOrder_81 (by decide +kernel) ?_
            refine j_icmp_eq (tgt := 116) dX5_readOrder_83 (by decide) (by omega) (fun c170 => (False.elim (by omega))) (fun c170 => ?_)
            refine j_iload_n dX5_readOrder_86 rfl rfl ?_
            refine j_bipush dX5_readOrder_87 (by decide +kernel) ?_
            refine j_icmp_eq (tgt := 116) dX5_readOrder_89 (by decide) (by omega) (fun c171 => (False.elim (by omega))) (fun c171 => ?_)
            refine j_iload_n dX5_readOrder_92 rfl rfl ?_
            refine j_bipush dX5_readOrder_93 (by decide +kernel) ?_
            refine j_icmp_eq (tgt := 116) dX5_readOrder_95 (by decide) (by omega) (fun c172 => (False.elim (by omega))) (fun c172 => ?_)
            refine j_iload_n dX5_readOrder_98 rfl rfl ?_
            refine j_bipush dX5_readOrder_99 (by decide +kernel) ?_
            refine j_icmp_eq (tgt := 116) dX5_readOrder_101 (by decide) (by omega) (fun c173 => (False.elim (by omega))) (fun c173 => ?_)
            refine j_iload_n dX5_readOrder_104 rfl rfl ?_
            refine j_bipush dX5_readOrder_105 (by decide +kernel) ?_
            refine j_icmp_eq (tgt := 116) dX5_readOrder_107 (by decide) (by omega) (fun c174 => (False.elim (by omega))) (fun c174 => ?_)
            refine j_iload_n dX5_readOrder_110 rfl rfl ?_
            refine j_bipush dX5_readOrder_111 (by decide +kernel) ?_
            refine j_icmp_eq (tgt := 120) dX5_readOrder_113 (by decide) (by omega) (fun c175 => absurd c175 (by decide)) (fun c175 => ?_)
            refine j_iconst dX5_readOrder_116 ?_
            refine j_goto (tgt := 121) dX5_readOrder_117 (by decide) ?_
            refine j_istore_n (L' := [(0, _), (1, _), (2, _), (3, _)]) dX5_readOrder_121 rfl (by decide) rfl ?_
            refine j_iload_n dX5_readOrder_122 rfl rfl ?_
            refine j_if_ne (tgt := 132) dX5_readOrder_123 (by decide) (by omega) (fun c176 => ?_) (fun c176 => absurd c176 (by decide))
            refine j_aload_n dX5_readOrder_132 rfl rfl ?_
            refine j_dup dX5_readOrder_133 rfl ?_
            refine j_getfield (v := iv (G 17 0)) dX5_readOrder_134 jf_X5_210 hG.1 rfl ?_
            refine j_iconst dX5_readOrder_137 ?_
            refine j_iadd dX5_readOrder_138 ?_
            refine jo_put (S := sM) dX5_readOrder_139 jf_X5_210 (fun q hq => by cases hq; exact ⟨rfl, rfl⟩) (jHold_int _) okM hG rfl (fun h177 hG177 hX177 => ?_)
            have hE178 := hE0.tr hX177
            have hT179 : mTx (gn G 17 ((G 17 0) + 1)) := mTx.at hT (by omega)
            refine j_iconst dX5_readOrder_142 ?_
            refine j_aload_n dX5_readOrder_143 rfl rfl ?_
            refine j_getfield (v := iv (G 21 0)) dX5_readOrder_144 jf_X5_221 hG177.1 rfl ?_
            refine j_imul dX5_readOrder_147 ?_
            refine j_istore (L' := [(0, _), (1, _), (2, _), (3, _), (4, _)]) dX5_readOrder_148 (by decide) rfl ?_
            refine j_aload_n dX5_readOrder_150 rfl rfl ?_
            refine j_getfield (v := .ref (k + 9)) dX5_readOrder_151 jf_X5_39 hG177.1 rfl ?_
            refine j_iload dX5_readOrder_154 rfl ?_
            refine j_iload_n dX5_readOrder_156 rfl rfl ?_
            refine jo_ias (S := sM) (k := k) dX5_readOrder_157 okM hG177 (i := 20) (p := 9) rfl (by omega) (by decide) (fun h180 hG180 hX180 => ?_)
            have hE181 := hE178.tr hX180
            have hT182 : mTx (gs (gn G 17 ((G 17 0) + 1)) 20 (jfu (G 20) (3 * (G 21 0)) ((G 15) (G 17 0)))) := hT179
            refine j_aload_n dX5_readOrder_158 rfl rfl ?_
            refine j_getfield (v := .ref (k + 9)) dX5_readOrder_159 jf_X5_39 hG180.1 rfl ?_
            refine j_iload dX5_readOrder_162 rfl ?_
            refine j_iconst dX5_readOrder_164 ?_
            refine j_iadd dX5_readOrder_165 ?_
            refine j_iload_n dX5_readOrder_166 rfl rfl ?_
            refine j_bipush dX5_readOrder_167 (by decide +kernel) ?_
            refine j_icmp_ne (tgt := 176) dX5_readOrder_169 (by decide) (by omega) (fun c183 => ?_) (fun c183 => (False.elim (by omega)))
            refine j_aload_n dX5_readOrder_176 rfl rfl ?_
            refine j_iconst dX5_readOrder_177 ?_
            refine j_callV (c5_number2 hG180 hT182) dX5_readOrder_178 jc_X5_224 jmV_X5_number rfl rfl hG180.1 rfl rfl (by simp) jfr_nil (Nat.le_of_ble_eq_true rfl) ⟨Nat.le_of_ble_eq_true rfl, Nat.le_of_ble_eq_true rfl⟩ ⟨Nat.le_of_ble_eq_true rfl, Nat.le_of_ble_eq_true rfl⟩ (fun r h185 hp9 => ?_) (fun E h9 q => q.elim)
            obtain ⟨rfl, hG186, hX187⟩ := hp9
            have hE188 := hE181.tr hX187
            have hT184 := mTx_number2 hT182
            have u1 := hT184.1
            have u2 := hT184.2.1
            have u3 := hT184.2.2.1
            refine jo_ias (S := sM) (k := k) dX5_readOrder_181 okM hG186 (i := 20) (p := 9) rfl (by omega) (by decide) (fun h189 hG189 hX189 => ?_)
            have hE190 := hE188.tr hX189
            have hT191 : mTx (gs ((m_number2 (gs (gn G 17 ((G 17 0) + 1)) 20 (jfu (G 20) (3 * (G 21 0)) ((G 15) (G 17 0))))).2) 20 (jfu (((m_number2 (gs (gn G 17 ((G 17 0) + 1)) 20 (jfu (G 20) (3 * (G 21 0)) ((G 15) (G 17 0))))).2) 20) ((3 * (G 21 0)) + 1) ((m_number2 (gs (gn G 17 ((G 17 0) + 1)) 20 (jfu (G 20) (3 * (G 21 0)) ((G 15) (G 17 0))))).1))) := hT184
            refine j_iload_n dX5_readOrder_182 rfl rfl ?_
            refine j_bipush dX5_readOrder_183 (by decide +kernel) ?_
            refine j_icmp_eq (tgt := 227) dX5_readOrder_185 (by decide) (by omega) (fun c192 => absurd c192 (by decide)) (fun c192 => ?_)
            refine j_aload_n dX5_readOrder_188 rfl rfl ?_
            refine j_getfield (v := iv (((m_number2 (gs (gn G 17 ((G 17 0) + 1)) 20 (jfu (G 20) (3 * (G 21 0)) ((G 15) (G 17 0))))).2) 18 0)) dX5_readOrder_189 jf_X5_207 hG189.1 rfl ?_
            refine j_if_ne (tgt := 227) dX5_readOrder_192 (by decide) (by omega) (fun c193 => ?_) (fun c193 => ?_)
            · refine j_aload_n dX5_readOrder_227 rfl rfl ?_
              refine j_dup dX5_readOrder_228 rfl ?_
              refine j_getfield (v := iv (((m_number2 (gs (gn G 17 ((G 17 0) + 1)) 20 (jfu (G 20) (3 * (G 21 0)) ((G 15) (G 17 0))))).2) 21 0)) dX5_readOrder_229 jf_X5_221 hG189.1 rfl ?_
              refine j_iconst dX5_readOrder_232 ?_
              refine j_iadd dX5_readOrder_233 ?_
              refine jo_put (S := sM) dX5_readOrder_234 jf_X5_221 (fun q hq => by cases hq; exact ⟨rfl, rfl⟩) (jHold_int _) okM hG189 rfl (fun h194 hG194 hX194 => ?_)
              have hE195 := hE190.tr hX194
              have hT196 : mTx (gn (gs ((m_number2 (gs (gn G 17 ((G 17 0) + 1)) 20 (jfu (G 20) (3 * (G 21 0)) ((G 15) (G 17 0))))).2) 20 (jfu (((m_number2 (gs (gn G 17 ((G 17 0) + 1)) 20 (jfu (G 20) (3 * (G 21 0)) ((G 15) (G 17 0))))).2) 20) ((3 * (G 21 0)) + 1) ((m_number2 (gs (gn G 17 ((G 17 0) + 1)) 20 (jfu (G 20) (3 * (G 21 0)) ((G 15) (G 17 0))))).1))) 21 ((((m_number2 (gs (gn G 17 ((G 17 0) + 1)) 20 (jfu (G 20) (3 * (G 21 0)) ((G 15) (G 17 0))))).2) 21 0) + 1)) := hT191
              subst hZ
              exact j_return dX5_readOrder_237 rfl (jWv.i ((if_pos c1).trans ((if_neg c2).trans ((if_neg c17).trans ((if_neg c18).trans ((if_pos c19).trans (if_neg c193)))))) hG194 hE195) (Nat.le_refl _) (Nat.le_refl _)
            · refine j_aload_n dX5_readOrder_195 rfl rfl ?_
              refine j_iload_n dX5_readOrder_196 rfl rfl ?_
              refine j_iload_n dX5_readOrder_197 rfl rfl ?_
              refine j_callV (c5_sign hG189 (by omega) (by omega) hT191) dX5_readOrder_198 jc_X5_217 jmV_X5_sign rfl rfl hG189.1 rfl rfl (by simp) jfr_nil (Nat.le_of_ble_eq_true rfl) ⟨Nat.le_of_ble_eq_true rfl, Nat.le_of_ble_eq_true rfl⟩ ⟨Nat.le_of_ble_eq_true rfl, Nat.le_of_ble_eq_true rfl⟩ (fun r h198 hp9 => ?_) (fun E h9 q => q.elim)
              obtain ⟨rfl, hG199, hX200⟩ := hp9
              have hE201 := hE190.tr hX200
              have hT197 := mTx_sign (lo := 45) (hi := 45) hT191
              have u1 := hT197.1
              have u2 := hT197.2.1
              have u3 := hT197.2.2.1
              refine j_istore (L' := [(0, _), (1, _), (2, _), (3, _), (4, _), (5, _)]) dX5_readOrder_201 (by decide) rfl ?_
              refine j_aload_n dX5_readOrder_203 rfl rfl ?_
              refine j_getfield (v := .ref (k + 9)) dX5_readOrder_204 jf_X5_39 hG199.1 rfl ?_
              refine j_iload dX5_readOrder_207 rfl ?_
              refine j_iconst dX5_readOrder_209 ?_
              refine j_iadd dX5_readOrder_210 ?_
              refine j_aload_n dX5_readOrder_211 rfl rfl ?_
              refine j_iload_n dX5_readOrder_212 rfl rfl ?_
              refine j_bipush dX5_readOrder_213 (by decide +kernel) ?_
              refine j_icmp_ne (tgt := 222) dX5_readOrder_215 (by decide) (by omega) (fun c202 => ?_) (fun c202 => (False.elim (by omega)))
              refine j_iconst dX5_readOrder_222 ?_
              refine j_callV (c5_number2 hG199 hT197) dX5_readOrder_223 jc_X5_224 jmV_X5_number rfl rfl hG199.1 rfl rfl (by simp) jfr_nil (Nat.le_of_ble_eq_true rfl) ⟨Nat.le_of_ble_eq_true rfl, Nat.le_of_ble_eq_true rfl⟩ ⟨Nat.le_of_ble_eq_true rfl, Nat.le_of_ble_eq_true rfl⟩ (fun r h204 hp9 => ?_) (fun E h9 q => q.elim)
              obtain ⟨rfl, hG205, hX206⟩ := hp9
              have hE207 := hE201.tr hX206
              have hT203 := mTx_number2 hT197
              have u1 := hT203.1
              have u2 := hT203.2.1
              have u3 := hT203.2.2.1
              refine jo_ias (S := sM) (k := k) dX5_readOrder_226 okM hG205 (i := 20) (p := 9) rfl (by omega) (by decide) (fun h208 hG208 hX208 => ?_)
              have hE209 := hE207.tr hX208
              have hT210 : mTx (gs ((m_number2 ((m_sign (gs ((m_number2 (gs (gn G 17 ((G 17 0) + 1)) 20 (jfu (G 20) (3 * (G 21 0)) ((G 15) (G 17 0))))).2) 20 (jfu (((m_number2 (gs (gn G 17 ((G 17 0) + 1)) 20 (jfu (G 20) (3 * (G 21 0)) ((G 15) (G 17 0))))).2) 20) ((3 * (G 21 0)) + 1) ((m_number2 (gs (gn G 17 ((G 17 0) + 1)) 20 (jfu (G 20) (3 * (G 21 0)) ((G 15) (G 17 0))))).1))) 45 45).2)).2) 20 (jfu (((m_number2 ((m_sign (gs ((m_number2 (gs (gn G 17 ((G 17 0) + 1)) 20 (jfu (G 20) (3 * (G 21 0)) ((G 15) (G 17 0))))).2) 20 (jfu (((m_number2 (gs (gn G 17 ((G 17 0) + 1)) 20 (jfu (G 20) (3 * (G 21 0)) ((G 15) (G 17 0))))).2) 20) ((3 * (G 21 0)) + 1) ((m_number2 (gs (gn G 17 ((G 17 0) + 1)) 20 (jfu (G 20) (3 * (G 21 0)) ((G 15) (G 17 0))))).1))) 45 45).2)).2) 20) ((3 * (G 21 0)) + 2) ((m_number2 ((m_sign (gs ((m_number2 (gs (gn G 17 ((G 17 0) + 1)) 20 (jfu (G 20) (3 * (G 21 0)) ((G 15) (G 17 0))))).2) 20 (jfu (((m_number2 (gs (gn G 17 ((G 17 0) + 1)) 20 (jfu (G 20) (3 * (G 21 0)) ((G 15) (G 17 0))))).2) 20) ((3 * (G 21 0)) + 1) ((m_number2 (gs (gn G 17 ((G 17 0) + 1)) 20 (jfu (G 20) (3 * (G 21 0)) ((G 15) (G 17 0))))).1))) 45 45).2)).1))) := hT203
              refine j_aload_n dX5_readOrder_227 rfl rfl ?_
              refine j_dup dX5_readOrder_228 rfl ?_
              refine j_getfield (v := iv (((m_number2 ((m_sign (gs ((m_number2 (gs (gn G 17 ((G 17 0) + 1)) 20 (jfu (G 20) (3 * (G 21 0)) ((G 15) (G 17 0))))).2) 20 (jfu (((m_number2 (gs (gn G 17 ((G 17 0) + 1)) 20 (jfu (G 20) (3 * (G 21 0)) ((G 15) (G 17 0))))).2) 20) ((3 * (G 21 0)) + 1) ((m_number2 (gs (gn G 17 ((G 17 0) + 1)) 20 (jfu (G 20) (3 * (G 21 0)) ((G 15) (G 17 0))))).1))) 45 45).2)).2) 21 0)) dX5_readOrder_229 jf_X5_221 hG208.1 rfl ?_
              refine j_iconst dX5_readOrder_232 ?_
              refine j_iadd dX5_readOrder_233 ?_
              refine jo_put (S := sM) dX5_readOrder_234 jf_X5_221 (fun q hq => by cases hq; exact ⟨rfl, rfl⟩) (jHold_int _) okM hG208 rfl (fun h211 hG211 hX211 => ?_)
              have hE212 := hE209.tr hX211
              have hT213 : mTx (gn (gs ((m_number2 ((m_sign (gs ((m_number2 (gs (gn G 17 ((G 17 0) + 1)) 20 (jfu (G 20) (3 * (G 21 0)) ((G 15) (G 17 0))))).2) 20 (jfu (((m_number2 (gs (gn G 17 ((G 17 0) + 1)) 20 (jfu (G 20) (3 * (G 21 0)) ((G 15) (G 17 0))))).2) 20) ((3 * (G 21 0)) + 1) ((m_number2 (gs (gn G 17 ((G 17 0) + 1)) 20 (jfu (G 20) (3 * (G 21 0)) ((G 15) (G 17 0))))).1))) 45 45).2)).2) 20 (jfu (((m_number2 ((m_sign (gs ((m_number2 (gs (gn G 17 ((G 17 0) + 1)) 20 (jfu (G 20) (3 * (G 21 0)) ((G 15) (G 17 0))))).2) 20 (jfu (((m_number2 (gs (gn G 17 ((G 17 0) + 1)) 20 (jfu (G 20) (3 * (G 21 0)) ((G 15) (G 17 0))))).2) 20) ((3 * (G 21 0)) + 1) ((m_number2 (gs (gn G 17 ((G 17 0) + 1)) 20 (jfu (G 20) (3 * (G 21 0)) ((G 15) (G 17 0))))).1))) 45 45).2)).2) 20) ((3 * (G 21 0)) + 2) ((m_number2 ((m_sign (gs ((m_number2 (gs (gn G 17 ((G 17 0) + 1)) 20 (jfu (G 20) (3 * (G 21 0)) ((G 15) (G 17 0))))).2) 20 (jfu (((m_number2 (gs (gn G 17 ((G 17 0) + 1)) 20 (jfu (G 20) (3 * (G 21 0)) ((G 15) (G 17 0))))).2) 20) ((3 * (G 21 0)) + 1) ((m_number2 (gs (gn G 17 ((G 17 0) + 1)) 20 (jfu (G 20) (3 * (G 21 0)) ((G 15) (G 17 0))))).1))) 45 45).2)).1))) 21 ((((m_number2 ((m_sign (gs ((m_number2 (gs (gn G 17 ((G 17 0) + 1)) 20 (jfu (G 20) (3 * (G 21 0)) ((G 15) (G 17 0))))).2) 20 (jfu (((m_number2 (gs (gn G 17 ((G 17 0) + 1)) 20 (jfu (G 20) (3 * (G 21 0)) ((G 15) (G 17 0))))).2) 20) ((3 * (G 21 0)) + 1) ((m_number2 (gs (gn G 17 ((G 17 0) + 1)) 20 (jfu (G 20) (3 * (G 21 0)) ((G 15) (G 17 0))))).1))) 45 45).2)).2) 21 0) + 1)) := hT210
              subst hZ
              exact j_return dX5_readOrder_237 rfl (jWv.i ((if_pos c1).trans ((if_neg c2).trans ((if_neg c17).trans ((if_neg c18).trans ((if_pos c19).trans (if_pos c193)))))) hG211 hE212) (Nat.le_refl _) (Nat.le_refl _)
        · refine j_bipush dX5_readOrder_50 (by decide +kernel) ?_
          refine j_goto (tgt := 79) dX5_readOrder_52 (by decide) ?_
          refine j_istore_n (L' := [(0, _), (1, _), (2, _)]) dX5_readOrder_79 rfl (by decide) rfl ?_
          refine j_iload_n dX5_readOrder_80 rfl rfl ?_
          refine j_bipush dX5_readOrder_81 (by decide +kernel) ?_
          refine j_icmp_eq (tgt := 116) dX5_readOrder_83 (by decide) (by omega) (fun c214 => (False.elim (by omega))) (fun c214 => ?_)
          refine j_iload_n dX5_readOrder_86 rfl rfl ?_
          refine j_bipush dX5_readOrder_87 (by decide +kernel) ?_
          refine j_icmp_eq (tgt := 116) dX5_readOrder_89 (by decide) (by omega) (fun c215 => (False.elim (by omega))) (fun c215 => ?_)
          refine j_iload_n dX5_readOrder_92 rfl rfl ?_
          refine j_bipush dX5_readOrder_93 (by decide +kernel) ?_
          refine j_icmp_eq (tgt := 116) dX5_readOrder_95 (by decide) (by omega) (fun c216 => (False.elim (by omega))) (fun c216 => ?_)
          refine j_iload_n dX5_readOrder_98 rfl rfl ?_
          refine j_bipush dX5_readOrder_99 (by decide +kernel) ?_
          refine j_icmp_eq (tgt := 116) dX5_readOrder_101 (by decide) (by omega) (fun c217 => (False.elim (by omega))) (fun c217 => ?_)
          refine j_iload_n dX5_readOrder_104 rfl rfl ?_
          refine j_bipush dX5_readOrder_105 (by decide +kernel) ?_
          refine j_icmp_eq (tgt := 116) dX5_readOrder_107 (by decide) (by omega) (fun c218 => (False.elim (by omega))) (fun c218 => ?_)
          refine j_iload_n dX5_readOrder_110 rfl rfl ?_
          refine j_bipush dX5_readOrder_111 (by decide +kernel) ?_
          refine j_icmp_eq (tgt := 120) dX5_readOrder_113 (by decide) (by omega) (fun c219 => absurd c219 (by decide)) (fun c219 => ?_)
          refine j_iconst dX5_readOrder_116 ?_
          refine j_goto (tgt := 121) dX5_readOrder_117 (by decide) ?_
          refine j_istore_n (L' := [(0, _), (1, _), (2, _), (3, _)]) dX5_readOrder_121 rfl (by decide) rfl ?_
          refine j_iload_n dX5_readOrder_122 rfl rfl ?_
          refine j_if_ne (tgt := 132) dX5_readOrder_123 (by decide) (by omega) (fun c220 => ?_) (fun c220 => absurd c220 (by decide))
          refine j_aload_n dX5_readOrder_132 rfl rfl ?_
          refine j_dup dX5_readOrder_133 rfl ?_
          refine j_getfield (v := iv (G 17 0)) dX5_readOrder_134 jf_X5_210 hG.1 rfl ?_
          refine j_iconst dX5_readOrder_137 ?_
          refine j_iadd dX5_readOrder_138 ?_
          refine jo_put (S := sM) dX5_readOrder_139 jf_X5_210 (fun q hq => by cases hq; exact ⟨rfl, rfl⟩) (jHold_int _) okM hG rfl (fun h221 hG221 hX221 => ?_)
          have hE222 := hE0.tr hX221
          have hT223 : mTx (gn G 17 ((G 17 0) + 1)) := mTx.at hT (by omega)
          refine j_iconst dX5_readOrder_142 ?_
          refine j_aload_n dX5_readOrder_143 rfl rfl ?_
          refine j_getfield (v := iv (G 21 0)) dX5_readOrder_144 jf_X5_221 hG221.1 rfl ?_
          refine j_imul dX5_readOrder_147 ?_
          refine j_istore (L' := [(0, _), (1, _), (2, _), (3, _), (4, _)]) dX5_readOrder_148 (by decide) rfl ?_
          refine j_aload_n dX5_readOrder_150 rfl rfl ?_
          refine j_getfield (v := .ref (k + 9)) dX5_readOrder_151 jf_X5_39 hG221.1 rfl ?_
          refine j_iload dX5_readOrder_154 rfl ?_
          refine j_iload_n dX5_readOrder_156 rfl rfl ?_
          refine jo_ias (S := sM) (k := k) dX5_readOrder_157 okM hG221 (i := 20) (p := 9) rfl (by omega) (by decide) (fun h224 hG224 hX224 => ?_)
          have hE225 := hE222.tr hX224
          have hT226 : mTx (gs (gn G 17 ((G 17 0) + 1)) 20 (jfu (G 20) (3 * (G 21 0)) ((G 15) (G 17 0)))) := hT223
          refine j_aload_n dX5_readOrder_158 rfl rfl ?_
          refine j_getfield (v := .ref (k + 9)) dX5_readOrder_159 jf_X5_39 hG224.1 rfl ?_
          refine j_iload dX5_readOrder_162 rfl ?_
          refine j_iconst dX5_readOrder_164 ?_
          refine j_iadd dX5_readOrder_165 ?_
          refine j_iload_n dX5_readOrder_166 rfl rfl ?_
          refine j_bipush dX5_readOrder_167 (by decide +kernel) ?_
          refine j_icmp_ne (tgt := 176) dX5_readOrder_169 (by decide) (by omega) (fun c227 => ?_) (fun c227 => (False.elim (by omega)))
          refine j_aload_n dX5_readOrder_176 rfl rfl ?_
          refine j_iconst dX5_readOrder_177 ?_
          refine j_callV (c5_number2 hG224 hT226) dX5_readOrder_178 jc_X5_224 jmV_X5_number rfl rfl hG224.1 rfl rfl (by simp) jfr_nil (Nat.le_of_ble_eq_true rfl) ⟨Nat.le_of_ble_eq_true rfl, Nat.le_of_ble_eq_true rfl⟩ ⟨Nat.le_of_ble_eq_true rfl, Nat.le_of_ble_eq_true rfl⟩ (fun r h229 hp9 => ?_) (fun E h9 q => q.elim)
          obtain ⟨rfl, hG230, hX231⟩ := hp9
          have hE232 := hE225.tr hX231
          have hT228 := mTx_number2 hT226
          have u1 := hT228.1
          have u2 := hT228.2.1
          have u3 := hT228.2.2.1
          refine jo_ias (S := sM) (k := k) dX5_readOrder_181 okM hG230 (i := 20) (p := 9) rfl (by omega) (by decide) (fun h233 hG233 hX233 => ?_)
          have hE234 := hE232.tr hX233
          have hT235 : mTx (gs ((m_number2 (gs (gn G 17 ((G 17 0) + 1)) 20 (jfu (G 20) (3 * (G 21 0)) ((G 15) (G 17 0))))).2) 20 (jfu (((m_number2 (gs (gn G 17 ((G 17 0) + 1)) 20 (jfu (G 20) (3 * (G 21 0)) ((G 15) (G 17 0))))).2) 20) ((3 * (G 21 0)) + 1) ((m_number2 (gs (gn G 17 ((G 17 0) + 1)) 20 (jfu (G 20) (3 * (G 21 0)) ((G 15) (G 17 0))))).1))) := hT228
          refine j_iload_n dX5_readOrder_182 rfl rfl ?_
          refine j_bipush dX5_readOrder_183 (by decide +kernel) ?_
          refine j_icmp_eq (tgt := 227) dX5_readOrder_185 (by decide) (by omega) (fun c236 => absurd c236 (by decide)) (fun c236 => ?_)
          refine j_aload_n dX5_readOrder_188 rfl rfl ?_
          refine j_getfield (v := iv (((m_number2 (gs (gn G 17 ((G 17 0) + 1)) 20 (jfu (G 20) (3 * (G 21 0)) ((G 15) (G 17 0))))).2) 18 0)) dX5_readOrder_189 jf_X5_207 hG233.1 rfl ?_
          refine j_if_ne (tgt := 227) dX5_readOrder_192 (by decide) (by omega) (fun c237 => ?_) (fun c237 => ?_)
          · refine j_aload_n dX5_readOrder_227 rfl rfl ?_
            refine j_dup dX5_readOrder_228 rfl ?_
            refine j_getfield (v := iv (((m_number2 (gs (gn G 17 ((G 17 0) + 1)) 20 (jfu (G 20) (3 * (G 21 0)) ((G 15) (G 17 0))))).2) 21 0)) dX5_readOrder_229 jf_X5_221 hG233.1 rfl ?_
            refine j_iconst dX5_readOrder_232 ?_
            refine j_iadd dX5_readOrder_233 ?_
            refine jo_put (S := sM) dX5_readOrder_234 jf_X5_221 (fun q hq => by cases hq; exact ⟨rfl, rfl⟩) (jHold_int _) okM hG233 rfl (fun h238 hG238 hX238 => ?_)
            have hE239 := hE234.tr hX238
            have hT240 : mTx (gn (gs ((m_number2 (gs (gn G 17 ((G 17 0) + 1)) 20 (jfu (G 20) (3 * (G 21 0)) ((G 15) (G 17 0))))).2) 20 (jfu (((m_number2 (gs (gn G 17 ((G 17 0) + 1)) 20 (jfu (G 20) (3 * (G 21 0)) ((G 15) (G 17 0))))).2) 20) ((3 * (G 21 0)) + 1) ((m_number2 (gs (gn G 17 ((G 17 0) + 1)) 20 (jfu (G 20) (3 * (G 21 0)) ((G 15) (G 17 0))))).1))) 21 ((((m_number2 (gs (gn G 17 ((G 17 0) + 1)) 20 (jfu (G 20) (3 * (G 21 0)) ((G 15) (G 17 0))))).2) 21 0) + 1)) := hT235
            subst hZ
            exact j_return dX5_readOrder_237 rfl (jWv.i ((if_pos c1).trans ((if_neg c2).trans ((if_neg c17).trans ((if_pos c18).trans (if_neg c237))))) hG238 hE239) (Nat.le_refl _) (Nat.le_refl _)
          · refine j_aload_n dX5_readOrder_195 rfl rfl ?_
            refine j_iload_n dX5_readOrder_196 rfl rfl ?_
            refine j_iload_n dX5_readOrder_197 rfl rfl ?_
            refine j_callV (c5_sign hG233 (by omega) (by omega) hT235) dX5_readOrder_198 jc_X5_217 jmV_X5_sign rfl rfl hG233.1 rfl rfl (by simp) jfr_nil (Nat.le_of_ble_eq_true rfl) ⟨Nat.le_of_ble_eq_true rfl, Nat.le_of_ble_eq_true rfl⟩ ⟨Nat.le_of_ble_eq_true rfl, Nat.le_of_ble_eq_true rfl⟩ (fun r h242 hp9 => ?_) (fun E h9 q => q.elim)
            obtain ⟨rfl, hG243, hX244⟩ := hp9
            have hE245 := hE234.tr hX244
            have hT241 := mTx_sign (lo := 43) (hi := 43) hT235
            have u1 := hT241.1
            have u2 := hT241.2.1
            have u3 := hT241.2.2.1
            refine j_istore (L' := [(0, _), (1, _), (2, _), (3, _), (4, _), (5, _)]) dX5_readOrder_201 (by decide) rfl ?_
            refine j_aload_n dX5_readOrder_203 rfl rfl ?_
            refine j_getfield (v := .ref (k + 9)) dX5_readOrder_204 jf_X5_39 hG243.1 rfl ?_
            refine j_iload dX5_readOrder_207 rfl ?_
            refine j_iconst dX5_readOrder_209 ?_
            refine j_iadd dX5_readOrder_210 ?_
            refine j_aload_n dX5_readOrder_211 rfl rfl ?_
            refine j_iload_n dX5_readOrder_212 rfl rfl ?_
            refine j_bipush dX5_readOrder_213 (by decide +kernel) ?_
            refine j_icmp_ne (tgt := 222) dX5_readOrder_215 (by decide) (by omega) (fun c246 => ?_) (fun c246 => (False.elim (by omega)))
            refine j_iconst dX5_readOrder_222 ?_
            refine j_callV (c5_number2 hG243 hT241) dX5_readOrder_223 jc_X5_224 jmV_X5_number rfl rfl hG243.1 rfl rfl (by simp) jfr_nil (Nat.le_of_ble_eq_true rfl) ⟨Nat.le_of_ble_eq_true rfl, Nat.le_of_ble_eq_true rfl⟩ ⟨Nat.le_of_ble_eq_true rfl, Nat.le_of_ble_eq_true rfl⟩ (fun r h248 hp9 => ?_) (fun E h9 q => q.elim)
            obtain ⟨rfl, hG249, hX250⟩ := hp9
            have hE251 := hE245.tr hX250
            have hT247 := mTx_number2 hT241
            have u1 := hT247.1
            have u2 := hT247.2.1
            have u3 := hT247.2.2.1
            refine jo_ias (S := sM) (k := k) dX5_readOrder_226 okM hG249 (i := 20) (p := 9) rfl (by omega) (by decide) (fun h252 hG252 hX252 => ?_)
            have hE253 := hE251.tr hX252
            have hT254 : mTx (gs ((m_number2 ((m_sign (gs ((m_number2 (gs (gn G 17 ((G 17 0) + 1)) 20 (jfu (G 20) (3 * (G 21 0)) ((G 15) (G 17 0))))).2) 20 (jfu (((m_number2 (gs (gn G 17 ((G 17 0) + 1)) 20 (jfu (G 20) (3 * (G 21 0)) ((G 15) (G 17 0))))).2) 20) ((3 * (G 21 0)) + 1) ((m_number2 (gs (gn G 17 ((G 17 0) + 1)) 20 (jfu (G 20) (3 * (G 21 0)) ((G 15) (G 17 0))))).1))) 43 43).2)).2) 20 (jfu (((m_number2 ((m_sign (gs ((m_number2 (gs (gn G 17 ((G 17 0) + 1)) 20 (jfu (G 20) (3 * (G 21 0)) ((G 15) (G 17 0))))).2) 20 (jfu (((m_number2 (gs (gn G 17 ((G 17 0) + 1)) 20 (jfu (G 20) (3 * (G 21 0)) ((G 15) (G 17 0))))).2) 20) ((3 * (G 21 0)) + 1) ((m_number2 (gs (gn G 17 ((G 17 0) + 1)) 20 (jfu (G 20) (3 * (G 21 0)) ((G 15) (G 17 0))))).1))) 43 43).2)).2) 20) ((3 * (G 21 0)) + 2) ((m_number2 ((m_sign (gs ((m_number2 (gs (gn G 17 ((G 17 0) + 1)) 20 (jfu (G 20) (3 * (G 21 0)) ((G 15) (G 17 0))))).2) 20 (jfu (((m_number2 (gs (gn G 17 ((G 17 0) + 1)) 20 (jfu (G 20) (3 * (G 21 0)) ((G 15) (G 17 0))))).2) 20) ((3 * (G 21 0)) + 1) ((m_number2 (gs (gn G 17 ((G 17 0) + 1)) 20 (jfu (G 20) (3 * (G 21 0)) ((G 15) (G 17 0))))).1))) 43 43).2)).1))) := hT247
            refine j_aload_n dX5_readOrder_227 rfl rfl ?_
            refine j_dup dX5_readOrder_228 rfl ?_
            refine j_getfield (v := iv (((m_number2 ((m_sign (gs ((m_number2 (gs (gn G 17 ((G 17 0) + 1)) 20 (jfu (G 20) (3 * (G 21 0)) ((G 15) (G 17 0))))).2) 20 (jfu (((m_number2 (gs (gn G 17 ((G 17 0) + 1)) 20 (jfu (G 20) (3 * (G 21 0)) ((G 15) (G 17 0))))).2) 20) ((3 * (G 21 0)) + 1) ((m_number2 (gs (gn G 17 ((G 17 0) + 1)) 20 (jfu (G 20) (3 * (G 21 0)) ((G 15) (G 17 0))))).1))) 43 43).2)).2) 21 0)) dX5_readOrder_229 jf_X5_221 hG252.1 rfl ?_
            refine j_iconst dX5_readOrder_232 ?_
            refine j_iadd dX5_readOrder_233 ?_
            refine jo_put (S := sM) dX5_readOrder_234 jf_X5_221 (fun q hq => by cases hq; exact ⟨rfl, rfl⟩) (jHold_int _) okM hG252 rfl (fun h255 hG255 hX255 => ?_)
            have hE256 := hE253.tr hX255
            have hT257 : mTx (gn (gs ((m_number2 ((m_sign (gs ((m_number2 (gs (gn G 17 ((G 17 0) + 1)) 20 (jfu (G 20) (3 * (G 21 0)) ((G 15) (G 17 0))))).2) 20 (jfu (((m_number2 (gs (gn G 17 ((G 17 0) + 1)) 20 (jfu (G 20) (3 * (G 21 0)) ((G 15) (G 17 0))))).2) 20) ((3 * (G 21 0)) + 1) ((m_number2 (gs (gn G 17 ((G 17 0) + 1)) 20 (jfu (G 20) (3 * (G 21 0)) ((G 15) (G 17 0))))).1))) 43 43).2)).2) 20 (jfu (((m_number2 ((m_sign (gs ((m_number2 (gs (gn G 17 ((G 17 0) + 1)) 20 (jfu (G 20) (3 * (G 21 0)) ((G 15) (G 17 0))))).2) 20 (jfu (((m_number2 (gs (gn G 17 ((G 17 0) + 1)) 20 (jfu (G 20) (3 * (G 21 0)) ((G 15) (G 17 0))))).2) 20) ((3 * (G 21 0)) + 1) ((m_number2 (gs (gn G 17 ((G 17 0) + 1)) 20 (jfu (G 20) (3 * (G 21 0)) ((G 15) (G 17 0))))).1))) 43 43).2)).2) 20) ((3 * (G 21 0)) + 2) ((m_number2 ((m_sign (gs ((m_number2 (gs (gn G 17 ((G 17 0) + 1)) 20 (jfu (G 20) (3 * (G 21 0)) ((G 15) (G 17 0))))).2) 20 (jfu (((m_number2 (gs (gn G 17 ((G 17 0) + 1)) 20 (jfu (G 20) (3 * (G 21 0)) ((G 15) (G 17 0))))).2) 20) ((3 * (G 21 0)) + 1) ((m_number2 (gs (gn G 17 ((G 17 0) + 1)) 20 (jfu (G 20) (3 * (G 21 0)) ((G 15) (G 17 0))))).1))) 43 43).2)).1))) 21 ((((m_number2 ((m_sign (gs ((m_number2 (gs (gn G 17 ((G 17 0) + 1)) 20 (jfu (G 20) (3 * (G 21 0)) ((G 15) (G 17 0))))).2) 20 (jfu (((m_number2 (gs (gn G 17 ((G 17 0) + 1)) 20 (jfu (G 20) (3 * (G 21 0)) ((G 15) (G 17 0))))).2) 20) ((3 * (G 21 0)) + 1) ((m_number2 (gs (gn G 17 ((G 17 0) + 1)) 20 (jfu (G 20) (3 * (G 21 0)) ((G 15) (G 17 0))))).1))) 43 43).2)).2) 21 0) + 1)) := hT254
            subst hZ
            exact j_return dX5_readOrder_237 rfl (jWv.i ((if_pos c1).trans ((if_neg c2).trans ((if_neg c17).trans ((if_pos c18).trans (if_pos c237))))) hG255 hE256) (Nat.le_refl _) (Nat.le_refl _)
      · refine j_bipush dX5_readOrder_39 (by decide +kernel) ?_
        refine j_goto (tgt := 79) dX5_readOrder_41 (by decide) ?_
        refine j_istore_n (L' := [(0, _), (1, _), (2, _)]) dX5_readOrder_79 rfl (by decide) rfl ?_
        refine j_iload_n dX5_readOrder_80 rfl rfl ?_
        refine j_bipush dX5_readOrder_81 (by decide +kernel) ?_
        refine j_icmp_eq (tgt := 116) dX5_readOrder_83 (by decide) (by omega) (fun c258 => (False.elim (by omega))) (fun c258 => ?_)
        refine j_iload_n dX5_readOrder_86 rfl rfl ?_
        refine j_bipush dX5_readOrder_87 (by decide +kernel) ?_
        refine j_icmp_eq (tgt := 116) dX5_readOrder_89 (by decide) (by omega) (fun c259 => (False.elim (by omega))) (fun c259 => ?_)
        refine j_iload_n dX5_readOrder_92 rfl rfl ?_
        refine j_bipush dX5_readOrder_93 (by decide +kernel) ?_
        refine j_icmp_eq (tgt := 116) dX5_readOrder_95 (by decide) (by omega) (fun c260 => (False.elim (by omega))) (fun c260 => ?_)
        refine j_iload_n dX5_readOrder_98 rfl rfl ?_
        refine j_bipush dX5_readOrder_99 (by decide +kernel) ?_
        refine j_icmp_eq (tgt := 116) dX5_readOrder_101 (by decide) (by omega) (fun c261 => (False.elim (by omega))) (fun c261 => ?_)
        refine j_iload_n dX5_readOrder_104 rfl rfl ?_
        refine j_bipush dX5_readOrder_105 (by decide +kernel) ?_
        refine j_icmp_eq (tgt := 116) dX5_readOrder_107 (by decide) (by omega) (fun c262 => (False.elim (by omega))) (fun c262 => ?_)
        refine j_iload_n dX5_readOrder_110 rfl rfl ?_
        refine j_bipush dX5_readOrder_111 (by decide +kernel) ?_
        refine j_icmp_eq (tgt := 120) dX5_readOrder_113 (by decide) (by omega) (fun c263 => absurd c263 (by decide)) (fun c263 => ?_)
        refine j_iconst dX5_readOrder_116 ?_
        refine j_goto (tgt := 121) dX5_readOrder_117 (by decide) ?_
        refine j_istore_n (L' := [(0, _), (1, _), (2, _), (3, _)]) dX5_readOrder_121 rfl (by decide) rfl ?_
        refine j_iload_n dX5_readOrder_122 rfl rfl ?_
        refine j_if_ne (tgt := 132) dX5_readOrder_123 (by decide) (by omega) (fun c264 => ?_) (fun c264 => absurd c264 (by decide))
        refine j_aload_n dX5_readOrder_132 rfl rfl ?_
        refine j_dup dX5_readOrder_133 rfl ?_
        refine j_getfield (v := iv (G 17 0)) dX5_readOrder_134 jf_X5_210 hG.1 rfl ?_
        refine j_iconst dX5_readOrder_137 ?_
        refine j_iadd dX5_readOrder_138 ?_
        refine jo_put (S := sM) dX5_readOrder_139 jf_X5_210 (fun q hq => by cases hq; exact ⟨rfl, rfl⟩) (jHold_int _) okM hG rfl (fun h265 hG265 hX265 => ?_)
        have hE266 := hE0.tr hX265
        have hT267 : mTx (gn G 17 ((G 17 0) + 1)) := mTx.at hT (by omega)
        refine j_iconst dX5_readOrder_142 ?_
        refine j_aload_n dX5_readOrder_143 rfl rfl ?_
        refine j_getfield (v := iv (G 21 0)) dX5_readOrder_144 jf_X5_221 hG265.1 rfl ?_
        refine j_imul dX5_readOrder_147 ?_
        refine j_istore (L' := [(0, _), (1, _), (2, _), (3, _), (4, _)]) dX5_readOrder_148 (by decide) rfl ?_
        refine j_aload_n dX5_readOrder_150 rfl rfl ?_
        refine j_getfield (v := .ref (k + 9)) dX5_readOrder_151 jf_X5_39 hG265.1 rfl ?_
        refine j_iload dX5_readOrder_154 rfl ?_
        refine j_iload_n dX5_readOrder_156 rfl rfl ?_
        refine jo_ias (S := sM) (k := k) dX5_readOrder_157 okM hG265 (i := 20) (p := 9) rfl (by omega) (by decide) (fun h268 hG268 hX268 => ?_)
        have hE269 := hE266.tr hX268
        have hT270 : mTx (gs (gn G 17 ((G 17 0) + 1)) 20 (jfu (G 20) (3 * (G 21 0)) ((G 15) (G 17 0)))) := hT267
        refine j_aload_n dX5_readOrder_158 rfl rfl ?_
        refine j_getfield (v := .ref (k + 9)) dX5_readOrder_159 jf_X5_39 hG268.1 rfl ?_
        refine j_iload dX5_readOrder_162 rfl ?_
        refine j_iconst dX5_readOrder_164 ?_
        refine j_iadd dX5_readOrder_165 ?_
        refine j_iload_n dX5_readOrder_166 rfl rfl ?_
        refine j_bipush dX5_readOrder_167 (by decide +kernel) ?_
        refine j_icmp_ne (tgt := 176) dX5_readOrder_169 (by decide) (by omega) (fun c271 => ?_) (fun c271 => (False.elim (by omega)))
        refine j_aload_n dX5_readOrder_176 rfl rfl ?_
        refine j_iconst dX5_readOrder_177 ?_
        refine j_callV (c5_number2 hG268 hT270) dX5_readOrder_178 jc_X5_224 jmV_X5_number rfl rfl hG268.1 rfl rfl (by simp) jfr_nil (Nat.le_of_ble_eq_true rfl) ⟨Nat.le_of_ble_eq_true rfl, Nat.le_of_ble_eq_true rfl⟩ ⟨Nat.le_of_ble_eq_true rfl, Nat.le_of_ble_eq_true rfl⟩ (fun r h273 hp9 => ?_) (fun E h9 q => q.elim)
        obtain ⟨rfl, hG274, hX275⟩ := hp9
        have hE276 := hE269.tr hX275
        have hT272 := mTx_number2 hT270
        have u1 := hT272.1
        have u2 := hT272.2.1
        have u3 := hT272.2.2.1
        refine jo_ias (S := sM) (k := k) dX5_readOrder_181 okM hG274 (i := 20) (p := 9) rfl (by omega) (by decide) (fun h277 hG277 hX277 => ?_)
        have hE278 := hE276.tr hX277
        have hT279 : mTx (gs ((m_number2 (gs (gn G 17 ((G 17 0) + 1)) 20 (jfu (G 20) (3 * (G 21 0)) ((G 15) (G 17 0))))).2) 20 (jfu (((m_number2 (gs (gn G 17 ((G 17 0) + 1)) 20 (jfu (G 20) (3 * (G 21 0)) ((G 15) (G 17 0))))).2) 20) ((3 * (G 21 0)) + 1) ((m_number2 (gs (gn G 17 ((G 17 0) + 1)) 20 (jfu (G 20) (3 * (G 21 0)) ((G 15) (G 17 0))))).1))) := hT272
        refine j_iload_n dX5_readOrder_182 rfl rfl ?_
        refine j_bipush dX5_readOrder_183 (by decide +kernel) ?_
        refine j_icmp_eq (tgt := 227) dX5_readOrder_185 (by decide) (by omega) (fun c280 => absurd c280 (by decide)) (fun c280 => ?_)
        refine j_aload_n dX5_readOrder_188 rfl rfl ?_
        refine j_getfield (v := iv (((m_number2 (gs (gn G 17 ((G 17 0) + 1)) 20 (jfu (G 20) (3 * (G 21 0)) ((G 15) (G 17 0))))).2) 18 0)) dX5_readOrder_189 jf_X5_207 hG277.1 rfl ?_
        refine j_if_ne (tgt := 227) dX5_readOrder_192 (by decide) (by omega) (fun c281 => ?_) (fun c281 => ?_)
        · refine j_aload_n dX5_readOrder_227 rfl rfl ?_
          refine j_dup dX5_readOrder_228 rfl ?_
          refine j_getfield (v := iv (((m_number2 (gs (gn G 17 ((G 17 0) + 1)) 20 (jfu (G 20) (3 * (G 21 0)) ((G 15) (G 17 0))))).2) 21 0)) dX5_readOrder_229 jf_X5_221 hG277.1 rfl ?_
          refine j_iconst dX5_readOrder_232 ?_
          refine j_iadd dX5_readOrder_233 ?_
          refine jo_put (S := sM) dX5_readOrder_234 jf_X5_221 (fun q hq => by cases hq; exact ⟨rfl, rfl⟩) (jHold_int _) okM hG277 rfl (fun h282 hG282 hX282 => ?_)
          have hE283 := hE278.tr hX282
          have hT284 : mTx (gn (gs ((m_number2 (gs (gn G 17 ((G 17 0) + 1)) 20 (jfu (G 20) (3 * (G 21 0)) ((G 15) (G 17 0))))).2) 20 (jfu (((m_number2 (gs (gn G 17 ((G 17 0) + 1)) 20 (jfu (G 20) (3 * (G 21 0)) ((G 15) (G 17 0))))).2) 20) ((3 * (G 21 0)) + 1) ((m_number2 (gs (gn G 17 ((G 17 0) + 1)) 20 (jfu (G 20) (3 * (G 21 0)) ((G 15) (G 17 0))))).1))) 21 ((((m_number2 (gs (gn G 17 ((G 17 0) + 1)) 20 (jfu (G 20) (3 * (G 21 0)) ((G 15) (G 17 0))))).2) 21 0) + 1)) := hT279
          subst hZ
          exact j_return dX5_readOrder_237 rfl (jWv.i ((if_pos c1).trans ((if_neg c2).trans ((if_pos c17).trans (if_neg c281)))) hG282 hE283) (Nat.le_refl _) (Nat.le_refl _)
        · refine j_aload_n dX5_readOrder_195 rfl rfl ?_
          refine j_iload_n dX5_readOrder_196 rfl rfl ?_
          refine j_iload_n dX5_readOrder_197 rfl rfl ?_
          refine j_callV (c5_sign hG277 (by omega) (by omega) hT279) dX5_readOrder_198 jc_X5_217 jmV_X5_sign rfl rfl hG277.1 rfl rfl (by simp) jfr_nil (Nat.le_of_ble_eq_true rfl) ⟨Nat.le_of_ble_eq_true rfl, Nat.le_of_ble_eq_true rfl⟩ ⟨Nat.le_of_ble_eq_true rfl, Nat.le_of_ble_eq_true rfl⟩ (fun r h286 hp9 => ?_) (fun E h9 q => q.elim)
          obtain ⟨rfl, hG287, hX288⟩ := hp9
          have hE289 := hE278.tr hX288
          have hT285 := mTx_sign (lo := 60) (hi := 60) hT279
          have u1 := hT285.1
          have u2 := hT285.2.1
          have u3 := hT285.2.2.1
          refine j_istore (L' := [(0, _), (1, _), (2, _), (3, _), (4, _), (5, _)]) dX5_readOrder_201 (by decide) rfl ?_
          refine j_aload_n dX5_readOrder_203 rfl rfl ?_
          refine j_getfield (v := .ref (k + 9)) dX5_readOrder_204 jf_X5_39 hG287.1 rfl ?_
          refine j_iload dX5_readOrder_207 rfl ?_
          refine j_iconst dX5_readOrder_209 ?_
          refine j_iadd dX5_readOrder_210 ?_
          refine j_aload_n dX5_readOrder_211 rfl rfl ?_
          refine j_iload_n dX5_readOrder_212 rfl rfl ?_
          refine j_bipush dX5_readOrder_213 (by decide +kernel) ?_
          refine j_icmp_ne (tgt := 222) dX5_readOrder_215 (by decide) (by omega) (fun c290 => ?_) (fun c290 => (False.elim (by omega)))
          refine j_iconst dX5_readOrder_222 ?_
          refine j_callV (c5_number2 hG287 hT285) dX5_readOrder_223 jc_X5_224 jmV_X5_number rfl rfl hG287.1 rfl rfl (by simp) jfr_nil (Nat.le_of_ble_eq_true rfl) ⟨Nat.le_of_ble_eq_true rfl, Nat.le_of_ble_eq_true rfl⟩ ⟨Nat.le_of_ble_eq_true rfl, Nat.le_of_ble_eq_true rfl⟩ (fun r h292 hp9 => ?_) (fun E h9 q => q.elim)
          obtain ⟨rfl, hG293, hX294⟩ := hp9
          have hE295 := hE289.tr hX294
          have hT291 := mTx_number2 hT285
          have u1 := hT291.1
          have u2 := hT291.2.1
          have u3 := hT291.2.2.1
          refine jo_ias (S := sM) (k := k) dX5_readOrder_226 okM hG293 (i := 20) (p := 9) rfl (by omega) (by decide) (fun h296 hG296 hX296 => ?_)
          have hE297 := hE295.tr hX296
          have hT298 : mTx (gs ((m_number2 ((m_sign (gs ((m_number2 (gs (gn G 17 ((G 17 0) + 1)) 20 (jfu (G 20) (3 * (G 21 0)) ((G 15) (G 17 0))))).2) 20 (jfu (((m_number2 (gs (gn G 17 ((G 17 0) + 1)) 20 (jfu (G 20) (3 * (G 21 0)) ((G 15) (G 17 0))))).2) 20) ((3 * (G 21 0)) + 1) ((m_number2 (gs (gn G 17 ((G 17 0) + 1)) 20 (jfu (G 20) (3 * (G 21 0)) ((G 15) (G 17 0))))).1))) 60 60).2)).2) 20 (jfu (((m_number2 ((m_sign (gs ((m_number2 (gs (gn G 17 ((G 17 0) + 1)) 20 (jfu (G 20) (3 * (G 21 0)) ((G 15) (G 17 0))))).2) 20 (jfu (((m_number2 (gs (gn G 17 ((G 17 0) + 1)) 20 (jfu (G 20) (3 * (G 21 0)) ((G 15) (G 17 0))))).2) 20) ((3 * (G 21 0)) + 1) ((m_number2 (gs (gn G 17 ((G 17 0) + 1)) 20 (jfu (G 20) (3 * (G 21 0)) ((G 15) (G 17 0))))).1))) 60 60).2)).2) 20) ((3 * (G 21 0)) + 2) ((m_number2 ((m_sign (gs ((m_number2 (gs (gn G 17 ((G 17 0) + 1)) 20 (jfu (G 20) (3 * (G 21 0)) ((G 15) (G 17 0))))).2) 20 (jfu (((m_number2 (gs (gn G 17 ((G 17 0) + 1)) 20 (jfu (G 20) (3 * (G 21 0)) ((G 15) (G 17 0))))).2) 20) ((3 * (G 21 0)) + 1) ((m_number2 (gs (gn G 17 ((G 17 0) + 1)) 20 (jfu (G 20) (3 * (G 21 0)) ((G 15) (G 17 0))))).1))) 60 60).2)).1))) := hT291
          refine j_aload_n dX5_readOrder_227 rfl rfl ?_
          refine j_dup dX5_readOrder_228 rfl ?_
          refine j_getfield (v := iv (((m_number2 ((m_sign (gs ((m_number2 (gs (gn G 17 ((G 17 0) + 1)) 20 (jfu (G 20) (3 * (G 21 0)) ((G 15) (G 17 0))))).2) 20 (jfu (((m_number2 (gs (gn G 17 ((G 17 0) + 1)) 20 (jfu (G 20) (3 * (G 21 0)) ((G 15) (G 17 0))))).2) 20) ((3 * (G 21 0)) + 1) ((m_number2 (gs (gn G 17 ((G 17 0) + 1)) 20 (jfu (G 20) (3 * (G 21 0)) ((G 15) (G 17 0))))).1))) 60 60).2)).2) 21 0)) dX5_readOrder_229 jf_X5_221 hG296.1 rfl ?_
          refine j_iconst dX5_readOrder_232 ?_
          refine j_iadd dX5_readOrder_233 ?_
          refine jo_put (S := sM) dX5_readOrder_234 jf_X5_221 (fun q hq => by cases hq; exact ⟨rfl, rfl⟩) (jHold_int _) okM hG296 rfl (fun h299 hG299 hX299 => ?_)
          have hE300 := hE297.tr hX299
          have hT301 : mTx (gn (gs ((m_number2 ((m_sign (gs ((m_number2 (gs (gn G 17 ((G 17 0) + 1)) 20 (jfu (G 20) (3 * (G 21 0)) ((G 15) (G 17 0))))).2) 20 (jfu (((m_number2 (gs (gn G 17 ((G 17 0) + 1)) 20 (jfu (G 20) (3 * (G 21 0)) ((G 15) (G 17 0))))).2) 20) ((3 * (G 21 0)) + 1) ((m_number2 (gs (gn G 17 ((G 17 0) + 1)) 20 (jfu (G 20) (3 * (G 21 0)) ((G 15) (G 17 0))))).1))) 60 60).2)).2) 20 (jfu (((m_number2 ((m_sign (gs ((m_number2 (gs (gn G 17 ((G 17 0) + 1)) 20 (jfu (G 20) (3 * (G 21 0)) ((G 15) (G 17 0))))).2) 20 (jfu (((m_number2 (gs (gn G 17 ((G 17 0) + 1)) 20 (jfu (G 20) (3 * (G 21 0)) ((G 15) (G 17 0))))).2) 20) ((3 * (G 21 0)) + 1) ((m_number2 (gs (gn G 17 ((G 17 0) + 1)) 20 (jfu (G 20) (3 * (G 21 0)) ((G 15) (G 17 0))))).1))) 60 60).2)).2) 20) ((3 * (G 21 0)) + 2) ((m_number2 ((m_sign (gs ((m_number2 (gs (gn G 17 ((G 17 0) + 1)) 20 (jfu (G 20) (3 * (G 21 0)) ((G 15) (G 17 0))))).2) 20 (jfu (((m_number2 (gs (gn G 17 ((G 17 0) + 1)) 20 (jfu (G 20) (3 * (G 21 0)) ((G 15) (G 17 0))))).2) 20) ((3 * (G 21 0)) + 1) ((m_number2 (gs (gn G 17 ((G 17 0) + 1)) 20 (jfu (G 20) (3 * (G 21 0)) ((G 15) (G 17 0))))).1))) 60 60).2)).1))) 21 ((((m_number2 ((m_sign (gs ((m_number2 (gs (gn G 17 ((G 17 0) + 1)) 20 (jfu (G 20) (3 * (G 21 0)) ((G 15) (G 17 0))))).2) 20 (jfu (((m_number2 (gs (gn G 17 ((G 17 0) + 1)) 20 (jfu (G 20) (3 * (G 21 0)) ((G 15) (G 17 0))))).2) 20) ((3 * (G 21 0)) + 1) ((m_number2 (gs (gn G 17 ((G 17 0) + 1)) 20 (jfu (G 20) (3 * (G 21 0)) ((G 15) (G 17 0))))).1))) 60 60).2)).2) 21 0) + 1)) := hT298
          subst hZ
          exact j_return dX5_readOrder_237 rfl (jWv.i ((if_pos c1).trans ((if_neg c2).trans ((if_pos c17).trans (if_pos c281)))) hG299 hE300) (Nat.le_refl _) (Nat.le_refl _)
  · subst hZ
    exact j_return dX5_readOrder_7 rfl (jWv.i (if_neg c1) hG hE0) (Nat.le_refl _) (Nat.le_refl _)
