theorem jSB_a {f g : Int → Int} {m x : Int} {n : Nat} (h : ∀ j : Int, 0 ≤ j → j < (n : Int) → f j = g j) (hm : m ≤ (n : Int)) {j : Int} (h0 : 0 ≤ j) (h1 : j < m + 1) : jfu f m x j = jfu g m x j := by
  by_cases e : j = m
  · rw [e, jfu_s, jfu_s]
  · rw [jfu_n e, jfu_n e]; exact h j h0 (by omega)
theorem jSB_b {f : Int → Int} {m x : Int} (h : ∀ j, 0 ≤ f j ∧ f j < 128) (hx : 0 ≤ x ∧ x < 128) : ∀ j, 0 ≤ jfu f m x j ∧ jfu f m x j < 128 := fun j => by
  by_cases e : j = m
  · rw [e, jfu_s]; exact hx
  · rw [jfu_n e]; exact h j
theorem sbP.mv {k p n : Nat} {h h2 : jH} (q : sbP k p n h) (e : jEx k (p + 1) h h2) : sbP k p n h2 := by
  rcases q with ⟨a, b, c⟩ | q
  · exact .inl ⟨a, b, (e (k + 2) (by omega)).trans c⟩
  · exact .inr q
/-- the text so far: c characters t -/
def jSB (k : Nat) (c : Int) (t : Int → Int) (h : jH) : Prop := ∃ p n G, sbP k p n h ∧ jOb (sB p n) k G h ∧ G 1 0 = 0 ∧ G 3 0 = c ∧ (∀ j, 0 ≤ j → j < c → G 0 j = t j) ∧ (∀ j, 0 ≤ G 0 j ∧ G 0 j < 128) ∧ 0 ≤ c ∧ c ≤ n
theorem jcu_J5_100 : jCa RJ5 100 mJ5_ensureCapacityInternal_d00df 1 := ⟨(jw_mem 912 (by decide +kernel) (by decide +kernel)), ⟨by decide +kernel, by decide +kernel⟩, by decide +kernel⟩
set_option maxHeartbeats 4000000 in
/-- J5_setLength_d00df -/
theorem cb_setLength {k p n : Nat} {G : fS} {h : jH} (hq : sbP k p n h) (hG : jOb (sB p n) k G h) (hc0 : G 1 0 = 0) (hb : ∀ j, 0 ≤ G 0 j ∧ G 0 j < 128) (h3 : 0 ≤ G 3 0 ∧ G 3 0 ≤ 34) : jM mJ5_setLength_d00df 5 1 34 [k + 2] [.ref k, iv 0] h (fun r h' => r = none ∧ (∀ t, jSB k 0 t h') ∧ jEx k 3 h h') jno := by
  refine j_method (by decide +kernel) rfl (fun _ _ _ => trivial) (Nat.le_of_ble_eq_true rfl) ?_
  generalize hZ : jZ [k + 2] 1 34 _ _ = Z
  show J mJ5_setLength_d00df (jR 5 1 34) [k + 2] Z 0 [(0, .ref k), (1, iv 0)] [] h 0 0
  have hpn := hq.o
  have hE0 : jEx k 3 h h := jEx.rf
  refine j_iload_n dJ5_setLength_d00df_0 rfl rfl ?_
  refine j_if_ge (tgt := 13) dJ5_setLength_d00df_1 (by decide) (by omega) (fun c1 => ?_) (fun c1 => absurd (by decide) c1)
  refine j_aload_n dJ5_setLength_d00df_13 rfl rfl ?_
  refine j_iload_n dJ5_setLength_d00df_14 rfl rfl ?_
  refine j_callU (cb_ensure hq hG hc0 hb (m := 0) (by omega)) dJ5_setLength_d00df_15 jcu_J5_100 jmU_J5_ensureCapacityInternal_d00df (.inl (jw_mem2 0 (by decide +kernel) (by decide +kernel))) rfl rfl hG.1 rfl (by simp) (jfr_1 (by simp [iv]) (by simp [iv])) (Nat.le_of_ble_eq_true rfl) ⟨Nat.le_of_ble_eq_true rfl, Nat.le_of_ble_eq_true rfl⟩ ⟨Nat.le_of_ble_eq_true rfl, Nat.le_of_ble_eq_true rfl⟩ (fun r h2 hp9 => ?_)
  obtain ⟨rfl, p2, n2, f2, hq2, hG2, f3, f4, f5, eX2⟩ := hp9
  have hpn2 := hq2.o
  refine j_aload_n dJ5_setLength_d00df_18 rfl rfl ?_
  refine j_getfield (v := iv (G 3 0)) dJ5_setLength_d00df_19 jf_J5_79 hG2.1 rfl ?_
  refine j_iload_n dJ5_setLength_d00df_22 rfl rfl ?_
  refine j_icmp_ge (tgt := 63) dJ5_setLength_d00df_23 (by decide) (by omega) (fun c3 => ?_) (fun c3 => (by omega))
  refine j_aload_n dJ5_setLength_d00df_63 rfl rfl ?_
  refine j_getfield (v := iv (G 3 0)) dJ5_setLength_d00df_64 jf_J5_79 hG2.1 rfl ?_
  refine j_iload_n dJ5_setLength_d00df_67 rfl rfl ?_
  refine j_icmp_le (tgt := 76) dJ5_setLength_d00df_68 (by decide) (by omega) (fun c4 => ?_) (fun c4 => ?_)
  · refine j_aload_n dJ5_setLength_d00df_76 rfl rfl ?_
    refine j_iload_n dJ5_setLength_d00df_77 rfl rfl ?_
    refine jo_put (S := (sB p2 n2)) dJ5_setLength_d00df_78 jf_J5_79 (fun q hq => by cases hq; exact ⟨rfl, rfl⟩) (jHold_int _) (okB hq2.o) hG2 rfl (fun h5 hG5 hX5 => ?_)
    have hE6 : jEx k 3 h h5 := (hE0.tr eX2).tr (hX5.mo (by show k ≤ k ∧ k + (p2 + 1) ≤ k + 3; omega))
    have hq97 := hq2.mv hX5
    subst hZ
    exact j_return dJ5_setLength_d00df_81 rfl ⟨rfl, fun t => ⟨p2, n2, _, hq97, hG5, hc0, rfl, fun j a c => absurd a (by omega), f4, by decide, by omega⟩, hE6⟩ (by omega) (by omega)
  · refine j_aload_n dJ5_setLength_d00df_71 rfl rfl ?_
    refine j_iconst dJ5_setLength_d00df_72 ?_
    refine jo_put (S := (sB p2 n2)) dJ5_setLength_d00df_73 jf_J5_73 (fun q hq => by cases hq; exact ⟨rfl, rfl⟩) (jHold_bool (by omega)) (okB hq2.o) hG2 rfl (fun h8 hG8 hX8 => ?_)
    have hE9 : jEx k 3 h h8 := (hE0.tr eX2).tr (hX8.mo (by show k ≤ k ∧ k + (p2 + 1) ≤ k + 3; omega))
    have hq910 := hq2.mv hX8
    refine j_aload_n dJ5_setLength_d00df_76 rfl rfl ?_
    refine j_iload_n dJ5_setLength_d00df_77 rfl rfl ?_
    refine jo_put (S := (sB p2 n2)) dJ5_setLength_d00df_78 jf_J5_79 (fun q hq => by cases hq; exact ⟨rfl, rfl⟩) (jHold_int _) (okB hq2.o) hG8 rfl (fun h11 hG11 hX11 => ?_)
    have hE12 : jEx k 3 h h11 := hE9.tr (hX11.mo (by show k ≤ k ∧ k + (p2 + 1) ≤ k + 3; omega))
    have hq913 := hq910.mv hX11
    subst hZ
    exact j_return dJ5_setLength_d00df_81 rfl ⟨rfl, fun t => ⟨p2, n2, _, hq913, hG11, hc0, rfl, fun j a c => absurd a (by omega), f4, by decide, by omega⟩, hE12⟩ (by omega) (by omega)
theorem jcu_J5_83 : jCa RJ5 83 mJ5_isLatin1_aae02 0 := ⟨(jw_mem 945 (by decide +kernel) (by decide +kernel)), ⟨by decide +kernel, by decide +kernel⟩, by decide +kernel⟩
set_option maxHeartbeats 4000000 in
/-- J5_append_3fe6f -/
theorem cb_append {k p n : Nat} {G : fS} {h : jH} (hq : sbP k p n h) (hG : jOb (sB p n) k G h) (hc0 : G 1 0 = 0) (hb : ∀ j, 0 ≤ G 0 j ∧ G 0 j < 128) {c : Int} (hc : 0 ≤ c ∧ c < 128) (h3 : 0 ≤ G 3 0 ∧ G 3 0 ≤ n ∧ G 3 0 < 34) : jM mJ5_append_3fe6f 5 1 34 [k + 2] [.ref k, iv c] h (fun r h' => r = some (.ref k) ∧ jSB k (G 3 0 + 1) (jfu (G 0) (G 3 0) c) h' ∧ jEx k 3 h h') jno := by
  refine j_method (by decide +kernel) rfl (fun _ _ _ => trivial) (Nat.le_of_ble_eq_true rfl) ?_
  generalize hZ : jZ [k + 2] 1 34 _ _ = Z
  show J mJ5_append_3fe6f (jR 5 1 34) [k + 2] Z 0 [(0, .ref k), (1, iv c)] [] h 0 0
  have hpn := hq.o
  have hE0 : jEx k 3 h h := jEx.rf
  refine j_aload_n dJ5_append_3fe6f_0 rfl rfl ?_
  refine j_aload_n dJ5_append_3fe6f_1 rfl rfl ?_
  refine j_getfield (v := iv (G 3 0)) dJ5_append_3fe6f_2 jf_J5_79 hG.1 rfl ?_
  refine j_iconst dJ5_append_3fe6f_5 ?_
  refine j_iadd dJ5_append_3fe6f_6 ?_
  refine j_callU (cb_ensure hq hG hc0 hb (m := ((G 3 0) + 1)) (by omega)) dJ5_append_3fe6f_7 jcu_J5_100 jmU_J5_ensureCapacityInternal_d00df (.inl (jw_mem2 0 (by decide +kernel) (by decide +kernel))) rfl rfl hG.1 rfl (by simp) (jfr_1 (by simp [iv]) (by simp [iv])) (Nat.le_of_ble_eq_true rfl) ⟨Nat.le_of_ble_eq_true rfl, Nat.le_of_ble_eq_true rfl⟩ ⟨Nat.le_of_ble_eq_true rfl, Nat.le_of_ble_eq_true rfl⟩ (fun r h1 hp9 => ?_)
  obtain ⟨rfl, p2, n2, f2, hq2, hG2, f3, f4, f5, eX2⟩ := hp9
  have hpn2 := hq2.o
  refine j_aload_n dJ5_append_3fe6f_10 rfl rfl ?_
  refine j_callU (cb_isLatin1 hpn2 hG2 hc0) dJ5_append_3fe6f_11 jcu_J5_83 jmU_J5_isLatin1_aae02 (.inl (jw_mem 948 (by decide +kernel) (by decide +kernel))) rfl rfl hG2.1 rfl (by simp) jfr_nil (Nat.le_of_ble_eq_true rfl) ⟨Nat.le_of_ble_eq_true rfl, Nat.le_of_ble_eq_true rfl⟩ ⟨Nat.le_of_ble_eq_true rfl, Nat.le_of_ble_eq_true rfl⟩ (fun r h2 hp9 => ?_)
  obtain ⟨rfl, rfl⟩ := hp9
  refine j_if_eq (tgt := 45) dJ5_append_3fe6f_14 (by decide) (by omega) (fun c3 => absurd c3 (by decide)) (fun c3 => ?_)
  refine j_iload_n dJ5_append_3fe6f_17 rfl rfl ?_
  refine j_callS (cb_canEncode (c := c) (by omega)) dJ5_append_3fe6f_18 jc_J5_191 jmS_J1_canEncode_fc78d rfl rfl rfl (by simp) jfr_nil (Nat.le_of_ble_eq_true rfl) ⟨Nat.le_of_ble_eq_true rfl, Nat.le_of_ble_eq_true rfl⟩ ⟨Nat.le_of_ble_eq_true rfl, Nat.le_of_ble_eq_true rfl⟩ (fun r h4 hp9 => ?_) (fun E h9 q => q.elim)
  obtain ⟨rfl, rfl⟩ := hp9
  refine j_if_eq (tgt := 45) dJ5_append_3fe6f_21 (by decide) (by omega) (fun c5 => absurd c5 (by decide)) (fun c5 => ?_)
  refine j_aload_n dJ5_append_3fe6f_24 rfl rfl ?_
  refine j_getfield (v := .ref (k + p2)) dJ5_append_3fe6f_25 jf_J5_15 hG2.1 rfl ?_
  refine j_aload_n dJ5_append_3fe6f_28 rfl rfl ?_
  refine j_dup dJ5_append_3fe6f_29 rfl ?_
  refine j_getfield (v := iv (G 3 0)) dJ5_append_3fe6f_30 jf_J5_79 hG2.1 rfl ?_
  refine j_dup_x1 dJ5_append_3fe6f_33 rfl rfl ?_
  refine j_iconst dJ5_append_3fe6f_34 ?_
  refine j_iadd dJ5_append_3fe6f_35 ?_
  refine jo_put (S := (sB p2 n2)) dJ5_append_3fe6f_36 jf_J5_79 (fun q hq => by cases hq; exact ⟨rfl, rfl⟩) (jHold_int _) (okB hq2.o) hG2 rfl (fun h6 hG6 hX6 => ?_)
  have hE7 : jEx k 3 h h6 := (hE0.tr eX2).tr (hX6.mo (by show k ≤ k ∧ k + (p2 + 1) ≤ k + 3; omega))
  have hq98 := hq2.mv hX6
  refine j_iload_n dJ5_append_3fe6f_39 rfl rfl ?_
  refine j_i2b (v := c) dJ5_append_3fe6f_40 (jz_i2b (by omega)) ?_
  refine jo_bas (S := (sB p2 n2)) (k := k) dJ5_append_3fe6f_41 (okB hq2.o) hG6 (i := 0) (p := p2) rfl (by omega) (by omega) (by omega) (fun h9 hG9 hX9 => ?_)
  have hE10 : jEx k 3 h h9 := hE7.tr (hX9.mo (by show k ≤ k ∧ k + (p2 + 1) ≤ k + 3; omega))
  have hq911 := hq98.mv hX9
  refine j_goto (tgt := 75) dJ5_append_3fe6f_42 (by decide) ?_
  refine j_aload_n dJ5_append_3fe6f_75 rfl rfl ?_
  subst hZ
  exact j_areturn dJ5_append_3fe6f_76 rfl (Or.inl ⟨_, rfl⟩) ⟨rfl, ⟨p2, n2, _, hq911, hG9, hc0, rfl, fun j a d => jSB_a f3 h3.2.1 a d, jSB_b f4 hc, by omega, by omega⟩, hE10⟩ (by omega) (by omega)
