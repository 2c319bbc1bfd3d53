set_option maxHeartbeats 4000000 in
/-- J5_append_c97b9 -/
theorem cb_appendInt {k p n : Nat} {G : fS} {h : jH} (hq : sbP k p n h) (hG : jOb (sB p n) k G h) (hc0 : G 1 0 = 0) (hb : ∀ j, 0 ≤ G 0 j ∧ G 0 j < 128) {v : Int} (hv : 0 ≤ v ∧ v ≤ 20000000) (h3 : 0 ≤ G 3 0 ∧ G 3 0 ≤ n ∧ G 3 0 + dl v ≤ 34) : jM mJ5_append_c97b9 5 1 34 [k + 2] [.ref k, iv v] h (fun r h' => r = some (.ref k) ∧ ∃ f, (∀ j : Int, 0 ≤ j → j < G 3 0 → f j = G 0 j) ∧ (∀ j : Nat, (j : Int) < dl v → f (G 3 0 + dl v - 1 - j) = dgt v j) ∧ jSB k (G 3 0 + dl v) f h' ∧ jEx k 3 h h') jno := by
  refine j_method (by decide +kernel) rfl (fun _ _ _ => trivial) (Nat.le_of_ble_eq_true rfl) ?_
  generalize hZ : jZ [k + 2] 1 34 _ _ = Z
  show J mJ5_append_c97b9 (jR 5 1 34) [k + 2] Z 0 [(0, .ref k), (1, iv v)] [] h 0 0
  have hpn := hq.o
  have dv := dl_r v
  have hE0 : jEx k 3 h h := jEx.rf
  refine j_aload_n dJ5_append_c97b9_0 rfl rfl ?_
  refine j_getfield (v := iv (G 3 0)) dJ5_append_c97b9_1 jf_J5_79 hG.1 rfl ?_
  refine j_istore_n (L' := [(0, _), (1, _), (2, _)]) dJ5_append_c97b9_4 rfl (by decide) rfl ?_
  refine j_iload_n dJ5_append_c97b9_5 rfl rfl ?_
  refine j_iload_n dJ5_append_c97b9_6 rfl rfl ?_
  refine j_callS (cb_stringSize hv) dJ5_append_c97b9_7 jc_J5_245 jmS_J6_stringSize_0f7a4 rfl rfl rfl (by simp) jfr_nil (Nat.le_of_ble_eq_true rfl) ⟨Nat.le_of_ble_eq_true rfl, Nat.le_of_ble_eq_true rfl⟩ ⟨Nat.le_of_ble_eq_true rfl, Nat.le_of_ble_eq_true rfl⟩ (fun r h1 hp9 => ?_) (fun E h9 q => q.elim)
  obtain ⟨rfl, rfl⟩ := hp9
  refine j_iadd dJ5_append_c97b9_10 ?_
  refine j_istore_n (L' := [(0, _), (1, _), (2, _), (3, _)]) dJ5_append_c97b9_11 rfl (by decide) rfl ?_
  refine j_aload_n dJ5_append_c97b9_12 rfl rfl ?_
  refine j_iload_n dJ5_append_c97b9_13 rfl rfl ?_
  refine j_callU (cb_ensure hq hG hc0 hb (m := ((G 3 0) + (dl v))) (by omega)) dJ5_append_c97b9_14 jcu_J5_100 jmU_J5_ensureCapacityInternal_d00df (.inl (jw_mem2 0 (by decide +kernel) (by decide +kernel))) rfl rfl hG.1 rfl (by simp) (jfr_1 (by simp [iv]) (by simp [iv])) (Nat.le_of_ble_eq_true rfl) ⟨Nat.le_of_ble_eq_true rfl, Nat.le_of_ble_eq_true rfl⟩ ⟨Nat.le_of_ble_eq_true rfl, Nat.le_of_ble_eq_true rfl⟩ (fun r h2 hp9 => ?_)
  obtain ⟨rfl, p2, n2, f2, hq2, hG2, f3, f4, f5, eX2⟩ := hp9
  have hpn2 := hq2.o
  refine j_aload_n dJ5_append_c97b9_17 rfl rfl ?_
  refine j_callU (cb_isLatin1 hpn2 hG2 hc0) dJ5_append_c97b9_18 jcu_J5_83 jmU_J5_isLatin1_aae02 (.inl (jw_mem 948 (by decide +kernel) (by decide +kernel))) rfl rfl hG2.1 rfl (by simp) jfr_nil (Nat.le_of_ble_eq_true rfl) ⟨Nat.le_of_ble_eq_true rfl, Nat.le_of_ble_eq_true rfl⟩ ⟨Nat.le_of_ble_eq_true rfl, Nat.le_of_ble_eq_true rfl⟩ (fun r h3 hp9 => ?_)
  obtain ⟨rfl, rfl⟩ := hp9
  refine j_if_eq (tgt := 37) dJ5_append_c97b9_21 (by decide) (by omega) (fun c4 => absurd c4 (by decide)) (fun c4 => ?_)
  refine j_iload_n dJ5_append_c97b9_24 rfl rfl ?_
  refine j_iload_n dJ5_append_c97b9_25 rfl rfl ?_
  refine j_aload_n dJ5_append_c97b9_26 rfl rfl ?_
  refine j_getfield (v := .ref (k + p2)) dJ5_append_c97b9_27 jf_J5_15 hG2.1 rfl ?_
  refine j_callS (cb_getChars hpn2 hG2 f4 hv (ix := (G 3 0) + (dl v)) (by omega)) dJ5_append_c97b9_30 jc_J5_248 jmS_J6_getChars_ba4f3 rfl rfl rfl (by simp) jfr_nil (Nat.le_of_ble_eq_true rfl) ⟨Nat.le_of_ble_eq_true rfl, Nat.le_of_ble_eq_true rfl⟩ ⟨Nat.le_of_ble_eq_true rfl, Nat.le_of_ble_eq_true rfl⟩ (fun r h5 hp9 => ?_) (fun E h9 q => q.elim)
  obtain ⟨rfl, f6, hG6, g1, g2, g3, eX6⟩ := hp9
  have hq6 := hq2.mv eX6
  refine j_pop dJ5_append_c97b9_33 rfl ?_
  refine j_goto (tgt := 48) dJ5_append_c97b9_34 (by decide) ?_
  refine j_aload_n dJ5_append_c97b9_48 rfl rfl ?_
  refine j_iload_n dJ5_append_c97b9_49 rfl rfl ?_
  refine jo_put (S := (sB p2 n2)) dJ5_append_c97b9_50 jf_J5_79 (fun q hq => by cases hq; exact ⟨rfl, rfl⟩) (jHold_int _) (okB hq2.o) hG6 rfl (fun h6 hG6 hX6 => ?_)
  have hE7 : jEx k 3 h h6 := ((hE0.tr eX2).tr (eX6.mo (by show k ≤ k ∧ k + (p2 + 1) ≤ k + 3; omega))).tr (hX6.mo (by show k ≤ k ∧ k + (p2 + 1) ≤ k + 3; omega))
  have hq98 := hq6.mv hX6
  refine j_aload_n dJ5_append_c97b9_53 rfl rfl ?_
  subst hZ
  exact j_areturn dJ5_append_c97b9_54 rfl (Or.inl ⟨_, rfl⟩) ⟨rfl, f6, fun j a c => (g2 j (by omega)).trans (f3 j a (by omega)), g1, ⟨p2, n2, _, hq98, hG6, hc0, rfl, fun _ _ _ => rfl, g3, by omega, by omega⟩, hE7⟩ (by omega) (by omega)
