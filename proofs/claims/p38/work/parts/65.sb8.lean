theorem jSB.cg {k : Nat} {c : Int} {f g : Int → Int} {h : jH} (q : jSB k c f h) (e : ∀ j : Int, 0 ≤ j → j < c → f j = g j) : jSB k c g h := by
  obtain ⟨p, n, G, a1, a2, a3, a4, a5, a6⟩ := q
  exact ⟨p, n, G, a1, a2, a3, a4, fun j j0 j1 => (a5 j j0 j1).trans (e j j0 j1), a6⟩
theorem jcu_J4_50 : jCa RJ4 50 mJ5_append_3fe6f 1 := ⟨(jw_mem 1179 (by decide +kernel) (by decide +kernel)), ⟨by decide +kernel, by decide +kernel⟩, by decide +kernel⟩
set_option maxHeartbeats 4000000 in
/-- J4_append_cf468 -/
theorem cb4_append {k p n : Nat} {G : fS} {h : jH} (hq : sbP k p n h) (hG : jOb (sB p n) k G h) (hc0 : G 1 0 = 0) (hb : ∀ j, 0 ≤ G 0 j ∧ G 0 j < 128) {c : Int} (hc : 0 ≤ c ∧ c < 128) (h3 : 0 ≤ G 3 0 ∧ G 3 0 ≤ n ∧ G 3 0 < 34) : jM mJ4_append_cf468 6 1 34 [k + 2] [.ref k, iv c] h (fun r h' => r = some (.ref k) ∧ jSB k (G 3 0 + 1) (jfu (G 0) (G 3 0) c) h' ∧ jEx k 3 h h') jno := by
  refine j_method (by decide +kernel) rfl (fun _ _ _ => trivial) (Nat.le_of_ble_eq_true rfl) ?_
  generalize hZ : jZ [k + 2] 1 34 _ _ = Z
  show J mJ4_append_cf468 (jR 6 1 34) [k + 2] Z 0 [(0, .ref k), (1, iv c)] [] h 0 0
  refine j_aload_n dJ4_append_cf468_0 rfl rfl ?_
  refine j_iload_n dJ4_append_cf468_1 rfl rfl ?_
  refine j_callSU (cb_append hq hG hc0 hb hc h3) dJ4_append_cf468_2 rfl jcu_J4_50 jmU_J5_append_3fe6f rfl rfl hG.1 rfl (by simp) (jfr_1 (by simp [iv]) (by simp [iv])) (Nat.le_of_ble_eq_true rfl) ⟨Nat.le_of_ble_eq_true rfl, Nat.le_of_ble_eq_true rfl⟩ ⟨Nat.le_of_ble_eq_true rfl, Nat.le_of_ble_eq_true rfl⟩ (fun r h1 hp9 => ?_)
  obtain ⟨rfl, s1, s2⟩ := hp9
  refine j_pop dJ4_append_cf468_5 rfl ?_
  refine j_aload_n dJ4_append_cf468_6 rfl rfl ?_
  subst hZ
  exact j_areturn dJ4_append_cf468_7 rfl (Or.inl ⟨_, rfl⟩) ⟨rfl, s1, s2⟩ (by omega) (by omega)
theorem jcu_J4_53 : jCa RJ4 53 mJ5_append_c97b9 1 := ⟨(jw_mem 1023 (by decide +kernel) (by decide +kernel)), ⟨by decide +kernel, by decide +kernel⟩, by decide +kernel⟩
set_option maxHeartbeats 4000000 in
/-- J4_append_bf812 -/
theorem cb4_appendInt {k p n : Nat} {G : fS} {h : jH} (hq : sbP k p n h) (hG : jOb (sB p n) k G h) (hc0 : G 1 0 = 0) (hb : ∀ j, 0 ≤ G 0 j ∧ G 0 j < 128) {v : Int} (hv : 0 ≤ v ∧ v ≤ 20000000) (h3 : 0 ≤ G 3 0 ∧ G 3 0 ≤ n ∧ G 3 0 + dl v ≤ 34) : jM mJ4_append_bf812 6 1 34 [k + 2] [.ref k, iv v] h (fun r h' => r = some (.ref k) ∧ ∃ f, (∀ j : Int, 0 ≤ j → j < G 3 0 → f j = G 0 j) ∧ (∀ j : Nat, (j : Int) < dl v → f (G 3 0 + dl v - 1 - j) = dgt v j) ∧ jSB k (G 3 0 + dl v) f h' ∧ jEx k 3 h h') jno := by
  refine j_method (by decide +kernel) rfl (fun _ _ _ => trivial) (Nat.le_of_ble_eq_true rfl) ?_
  generalize hZ : jZ [k + 2] 1 34 _ _ = Z
  show J mJ4_append_bf812 (jR 6 1 34) [k + 2] Z 0 [(0, .ref k), (1, iv v)] [] h 0 0
  refine j_aload_n dJ4_append_bf812_0 rfl rfl ?_
  refine j_iload_n dJ4_append_bf812_1 rfl rfl ?_
  refine j_callSU (cb_appendInt hq hG hc0 hb hv h3) dJ4_append_bf812_2 rfl jcu_J4_53 jmU_J5_append_c97b9 rfl rfl hG.1 rfl (by simp) (jfr_1 (by simp [iv]) (by simp [iv])) (Nat.le_of_ble_eq_true rfl) ⟨Nat.le_of_ble_eq_true rfl, Nat.le_of_ble_eq_true rfl⟩ ⟨Nat.le_of_ble_eq_true rfl, Nat.le_of_ble_eq_true rfl⟩ (fun r h1 hp9 => ?_)
  obtain ⟨rfl, s1⟩ := hp9
  refine j_pop dJ4_append_bf812_5 rfl ?_
  refine j_aload_n dJ4_append_bf812_6 rfl rfl ?_
  subst hZ
  exact j_areturn dJ4_append_bf812_7 rfl (Or.inl ⟨_, rfl⟩) ⟨rfl, s1⟩ (by omega) (by omega)
theorem jcu_J4_333 : jCa RJ4 333 mJ5_setLength_d00df 1 := ⟨(jw_mem 1123 (by decide +kernel) (by decide +kernel)), ⟨by decide +kernel, by decide +kernel⟩, by decide +kernel⟩
set_option maxHeartbeats 4000000 in
/-- J4_setLength_d00df -/
theorem cb4_setLength {k p n : Nat} {G : fS} {h : jH} (hq : sbP k p n h) (hG : jOb (sB p n) k G h) (hc0 : G 1 0 = 0) (hb : ∀ j, 0 ≤ G 0 j ∧ G 0 j < 128) (h3 : 0 ≤ G 3 0 ∧ G 3 0 ≤ 34) : jM mJ4_setLength_d00df 6 1 34 [k + 2] [.ref k, iv 0] h (fun r h' => r = none ∧ (∀ t, jSB k 0 t h') ∧ jEx k 3 h h') jno := by
  refine j_method (by decide +kernel) rfl (fun _ _ _ => trivial) (Nat.le_of_ble_eq_true rfl) ?_
  generalize hZ : jZ [k + 2] 1 34 _ _ = Z
  show J mJ4_setLength_d00df (jR 6 1 34) [k + 2] Z 0 [(0, .ref k), (1, iv 0)] [] h 0 0
  refine j_aload_n dJ4_setLength_d00df_0 rfl rfl ?_
  refine j_iload_n dJ4_setLength_d00df_1 rfl rfl ?_
  refine j_callSU (cb_setLength hq hG hc0 hb h3) dJ4_setLength_d00df_2 rfl jcu_J4_333 jmU_J5_setLength_d00df rfl rfl hG.1 rfl (by simp) (jfr_1 (by simp [iv]) (by simp [iv])) (Nat.le_of_ble_eq_true rfl) ⟨Nat.le_of_ble_eq_true rfl, Nat.le_of_ble_eq_true rfl⟩ ⟨Nat.le_of_ble_eq_true rfl, Nat.le_of_ble_eq_true rfl⟩ (fun r h1 hp9 => ?_)
  obtain ⟨rfl, s1⟩ := hp9
  subst hZ
  exact j_return dJ4_setLength_d00df_5 rfl ⟨rfl, s1⟩ (by omega) (by omega)
set_option maxHeartbeats 4000000 in
/-- J5_length_8abf5 -/
theorem cb_length {k p n : Nat} {G : fS} {h : jH} (hG : jOb (sB p n) k G h)  : jM mJ5_length_8abf5 0 0 0 [] [.ref k] h (jRet (iv (G 3 0)) h) jno := by
  refine j_method (by decide +kernel) rfl (fun _ _ _ => trivial) (Nat.le_of_ble_eq_true rfl) ?_
  generalize hZ : jZ [] 0 0 _ _ = Z
  show J mJ5_length_8abf5 (jR 0 0 0) [] Z 0 [(0, .ref k)] [] h 0 0
  refine j_aload_n dJ5_length_8abf5_0 rfl rfl ?_
  refine j_getfield (v := iv (G 3 0)) dJ5_length_8abf5_1 jf_J5_79 hG.1 rfl ?_
  subst hZ
  exact j_ireturn dJ5_length_8abf5_4 rfl rfl (jRet.i rfl) (Nat.le_refl _) (Nat.le_refl _)
theorem jcu_J4_343 : jCa RJ4 343 mJ5_length_8abf5 0 := ⟨(jw_mem 1069 (by decide +kernel) (by decide +kernel)), ⟨by decide +kernel, by decide +kernel⟩, by decide +kernel⟩
set_option maxHeartbeats 4000000 in
/-- J4_length_8abf5 -/
theorem cb4_length {k p n : Nat} {G : fS} {h : jH} (hG : jOb (sB p n) k G h)  : jM mJ4_length_8abf5 1 0 0 [] [.ref k] h (jRet (iv (G 3 0)) h) jno := by
  refine j_method (by decide +kernel) rfl (fun _ _ _ => trivial) (Nat.le_of_ble_eq_true rfl) ?_
  generalize hZ : jZ [] 0 0 _ _ = Z
  show J mJ4_length_8abf5 (jR 1 0 0) [] Z 0 [(0, .ref k)] [] h 0 0
  refine j_aload_n dJ4_length_8abf5_0 rfl rfl ?_
  refine j_callSU (cb_length hG) dJ4_length_8abf5_1 rfl jcu_J4_343 jmU_J5_length_8abf5 rfl rfl hG.1 rfl (by simp) jfr_nil (Nat.le_of_ble_eq_true rfl) ⟨Nat.le_of_ble_eq_true rfl, Nat.le_of_ble_eq_true rfl⟩ ⟨Nat.le_of_ble_eq_true rfl, Nat.le_of_ble_eq_true rfl⟩ (fun r h1 hp9 => ?_)
  obtain ⟨rfl, rfl⟩ := hp9
  subst hZ
  exact j_ireturn dJ4_length_8abf5_4 rfl rfl (jRet.i rfl) (Nat.le_refl _) (Nat.le_refl _)
