theorem J.abs {M : jMe} {R : Room} {nw : List Nat} {Z : jFin} {pc : Nat} {L : List (Nat × Value)} {st : List Value} {h h0 : jH} {nc ns n k : Nat} {S : jSc} {G : fS} (hG : jOb S k G h) (hE : jEx k n h0 h) (kk : ∀ h2, jOb S k G h2 → jEx k n h0 h2 → J M R nw Z pc L st h2 nc ns) : J M R nw Z pc L st h nc ns := kk h hG hE
set_option maxHeartbeats 4000000 in
/-- Elders: constructor -/
theorem c0_init {k : Nat} {h : jH} (hk : h k = some (jO 0 [.null, .null])) (hN1 : h (k + 1) = none) (hN2 : h (k + 2) = none) : jM mX0_init 2 2 144 [k + 1, k + 2] [.ref k] h (fun r h' => r = none ∧ jOb sE k (fun _ _ => 0) h' ∧ jEx k 3 h h') jno := by
  refine j_method (by decide +kernel) rfl (fun _ _ _ => trivial) (Nat.le_of_ble_eq_true rfl) ?_
  generalize hZ : jZ [k + 1, k + 2] 2 144 _ _ = Z
  show J mX0_init (jR 2 2 144) [k + 1, k + 2] Z 0 [(0, .ref k)] [] h 0 0
  refine j_aload_n dX0_init_0 rfl rfl ?_
  refine j_objInit dX0_init_1 (jw_mem 140 (by decide +kernel) (by decide +kernel)) (jw_mem 84 (by decide +kernel) (by decide +kernel)) (jw_mem 85 (by decide +kernel) (by decide +kernel)) (by decide) (Nat.le_of_ble_eq_true rfl) ?_
  refine j_aload_n dX0_init_4 rfl rfl ?_
  refine j_bipush dX0_init_5 (by decide +kernel) ?_
  refine j_newarray (t := 0) (k := k + 1) (n := 120) (f := fun _ => 0) rfl dX0_init_7 rfl (by decide) (jw_mem 132 (by decide +kernel) (by decide +kernel)) (by decide) hN1 (by simp) (jfr_1 (by simp) (by simp)) ⟨Nat.le_of_ble_eq_true rfl, Nat.le_of_ble_eq_true rfl⟩ ?_
  refine j_putfieldF (fs' := [.ref (k + 1), .null]) dX0_init_9 jf_X0_11 (fun q hq => by cases hq; exact ⟨rfl, rfl, rfl⟩) rfl (jHold_arr _ _) (fun k9 q9 => by cases q9; intro z; have q := (jup_s).symm.trans z; cases q) (jup_n (by omega) hk) (Nat.le_of_ble_eq_true rfl) rfl ?_
  refine j_aload_n dX0_init_12 rfl rfl ?_
  refine j_bipush dX0_init_13 (by decide +kernel) ?_
  refine j_newarray (t := 0) (k := k + 2) (n := 24) (f := fun _ => 0) rfl dX0_init_15 rfl (by decide) (jw_mem 132 (by decide +kernel) (by decide +kernel)) (by decide) (jup_n (by omega) (jup_n (by omega) hN2)) (by simp) (jfr_1 (by simp) (by simp)) ⟨Nat.le_of_ble_eq_true rfl, Nat.le_of_ble_eq_true rfl⟩ ?_
  refine j_putfieldF (fs' := [.ref (k + 1), .ref (k + 2)]) dX0_init_17 jf_X0_15 (fun q hq => by cases hq; exact ⟨rfl, rfl, rfl⟩) rfl (jHold_arr _ _) (fun k9 q9 => by cases q9; intro z; have q := (jup_s).symm.trans z; cases q) (jup_n (by omega) jup_s) (Nat.le_of_ble_eq_true rfl) rfl ?_
  refine J.abs (S := sE) (k := k) (G := (fun _ _ => 0)) (n := 3) (h0 := h) ?_ ?_ (fun h2 hG hE => ?_)
  · refine ⟨jup_s, fun i p t n hi => ?_⟩
    match i, hi with
    | 0, hi => cases hi; exact (jup_n (by omega) (jup_n (by omega) (jup_n (by omega) jup_s)))
    | 1, hi => cases hi; exact (jup_n (by omega) jup_s)
    | n9 + 2, hi => simp at hi
  · intro j hj
    simp only [jup]
    repeat rw [if_neg (by omega)]
  subst hZ
  exact j_return dX0_init_20 rfl ⟨rfl, hG, hE⟩ (Nat.le_of_ble_eq_true rfl) (Nat.le_of_ble_eq_true rfl)
set_option maxHeartbeats 4000000 in
/-- Houses: constructor -/
theorem c2_init {k : Nat} {h : jH} (hk : h k = some (jO 2 [.null, .null])) (hN1 : h (k + 1) = none) (hN2 : h (k + 2) = none) : jM mX2_init 2 2 48 [k + 1, k + 2] [.ref k] h (fun r h' => r = none ∧ jOb sH k (fun _ _ => 0) h' ∧ jEx k 3 h h') jno := by
  refine j_method (by decide +kernel) rfl (fun _ _ _ => trivial) (Nat.le_of_ble_eq_true rfl) ?_
  generalize hZ : jZ [k + 1, k + 2] 2 48 _ _ = Z
  show J mX2_init (jR 2 2 48) [k + 1, k + 2] Z 0 [(0, .ref k)] [] h 0 0
  refine j_aload_n dX2_init_0 rfl rfl ?_
  refine j_objInit dX2_init_1 (jw_mem 153 (by decide +kernel) (by decide +kernel)) (jw_mem 84 (by decide +kernel) (by decide +kernel)) (jw_mem 85 (by decide +kernel) (by decide +kernel)) (by decide) (Nat.le_of_ble_eq_true rfl) ?_
  refine j_aload_n dX2_init_4 rfl rfl ?_
  refine j_bipush dX2_init_5 (by decide +kernel) ?_
  refine j_newarray (t := 0) (k := k + 1) (n := 24) (f := fun _ => 0) rfl dX2_init_7 rfl (by decide) (jw_mem 132 (by decide +kernel) (by decide +kernel)) (by decide) hN1 (by simp) (jfr_1 (by simp) (by simp)) ⟨Nat.le_of_ble_eq_true rfl, Nat.le_of_ble_eq_true rfl⟩ ?_
  refine j_putfieldF (fs' := [.ref (k + 1), .null]) dX2_init_9 jf_X2_9 (fun q hq => by cases hq; exact ⟨rfl, rfl, rfl⟩) rfl (jHold_arr _ _) (fun k9 q9 => by cases q9; intro z; have q := (jup_s).symm.trans z; cases q) (jup_n (by omega) hk) (Nat.le_of_ble_eq_true rfl) rfl ?_
  refine j_aload_n dX2_init_12 rfl rfl ?_
  refine j_bipush dX2_init_13 (by decide +kernel) ?_
  refine j_newarray (t := 0) (k := k + 2) (n := 24) (f := fun _ => 0) rfl dX2_init_15 rfl (by decide) (jw_mem 132 (by decide +kernel) (by decide +kernel)) (by decide) (jup_n (by omega) (jup_n (by omega) hN2)) (by simp) (jfr_1 (by simp) (by simp)) ⟨Nat.le_of_ble_eq_true rfl, Nat.le_of_ble_eq_true rfl⟩ ?_
  refine j_putfieldF (fs' := [.ref (k + 1), .ref (k + 2)]) dX2_init_17 jf_X2_15 (fun q hq => by cases hq; exact ⟨rfl, rfl, rfl⟩) rfl (jHold_arr _ _) (fun k9 q9 => by cases q9; intro z; have q := (jup_s).symm.trans z; cases q) (jup_n (by omega) jup_s) (Nat.le_of_ble_eq_true rfl) rfl ?_
  refine J.abs (S := sH) (k := k) (G := (fun _ _ => 0)) (n := 3) (h0 := h) ?_ ?_ (fun h2 hG hE => ?_)
  · refine ⟨jup_s, fun i p t n hi => ?_⟩
    match i, hi with
    | 0, hi => cases hi; exact (jup_n (by omega) (jup_n (by omega) (jup_n (by omega) jup_s)))
    | 1, hi => cases hi; exact (jup_n (by omega) jup_s)
    | n9 + 2, hi => simp at hi
  · intro j hj
    simp only [jup]
    repeat rw [if_neg (by omega)]
  subst hZ
  exact j_return dX2_init_20 rfl ⟨rfl, hG, hE⟩ (Nat.le_of_ble_eq_true rfl) (Nat.le_of_ble_eq_true rfl)
set_option maxHeartbeats 4000000 in
/-- Input: constructor -/
theorem c3_init {k : Nat} {h : jH} (hk : h k = some (jO 3 [.null, .null, .null, .null, iv 0, iv 0, iv 0])) (hN1 : h (k + 1) = none) (hN2 : h (k + 2) = none) (hN3 : h (k + 3) = none) (hN4 : h (k + 4) = none) : jM mX3_init 2 4 150 [k + 1, k + 2, k + 3, k + 4] [.ref k] h (fun r h' => r = none ∧ jOb sI k (fun _ _ => 0) h' ∧ jEx k 5 h h') jno := by
  refine j_method (by decide +kernel) rfl (fun _ _ _ => trivial) (Nat.le_of_ble_eq_true rfl) ?_
  generalize hZ : jZ [k + 1, k + 2, k + 3, k + 4] 4 150 _ _ = Z
  show J mX3_init (jR 2 4 150) [k + 1, k + 2, k + 3, k + 4] Z 0 [(0, .ref k)] [] h 0 0
  refine j_aload_n dX3_init_0 rfl rfl ?_
  refine j_objInit dX3_init_1 (jw_mem 166 (by decide +kernel) (by decide +kernel)) (jw_mem 84 (by decide +kernel) (by decide +kernel)) (jw_mem 85 (by decide +kernel) (by decide +kernel)) (by decide) (Nat.le_of_ble_eq_true rfl) ?_
  refine j_aload_n dX3_init_4 rfl rfl ?_
  refine j_bipush dX3_init_5 (by decide +kernel) ?_
  refine j_newarray (t := 2) (k := k + 1) (n := 60) (f := fun _ => 0) rfl dX3_init_7 rfl (by decide) (jw_mem 191 (by decide +kernel) (by decide +kernel)) (by decide) hN1 (by simp) (jfr_1 (by simp) (by simp)) ⟨Nat.le_of_ble_eq_true rfl, Nat.le_of_ble_eq_true rfl⟩ ?_
  refine j_putfieldF (fs' := [.ref (k + 1), .null, .null, .null, iv 0, iv 0, iv 0]) dX3_init_9 jf_X3_9 (fun q hq => by cases hq; exact ⟨rfl, rfl, rfl⟩) rfl (jHold_arr _ _) (fun k9 q9 => by cases q9; intro z; have q := (jup_s).symm.trans z; cases q) (jup_n (by omega) hk) (Nat.le_of_ble_eq_true rfl) rfl ?_
  refine j_aload_n dX3_init_12 rfl rfl ?_
  refine j_bipush dX3_init_13 (by decide +kernel) ?_
  refine j_newarray (t := 0) (k := k + 2) (n := 30) (f := fun _ => 0) rfl dX3_init_15 rfl (by decide) (jw_mem 132 (by decide +kernel) (by decide +kernel)) (by decide) (jup_n (by omega) (jup_n (by omega) hN2)) (by simp) (jfr_1 (by simp) (by simp)) ⟨Nat.le_of_ble_eq_true rfl, Nat.le_of_ble_eq_true rfl⟩ ?_
  refine j_putfieldF (fs' := [.ref (k + 1), .ref (k + 2), .null, .null, iv 0, iv 0, iv 0]) dX3_init_17 jf_X3_15 (fun q hq => by cases hq; exact ⟨rfl, rfl, rfl⟩) rfl (jHold_arr _ _) (fun k9 q9 => by cases q9; intro z; have q := (jup_s).symm.trans z; cases q) (jup_n (by omega) jup_s) (Nat.le_of_ble_eq_true rfl) rfl ?_
  refine j_aload_n dX3_init_20 rfl rfl ?_
  refine j_bipush dX3_init_21 (by decide +kernel) ?_
  refine j_newarray (t := 0) (k := k + 3) (n := 30) (f := fun _ => 0) rfl dX3_init_23 rfl (by decide) (jw_mem 132 (by decide +kernel) (by decide +kernel)) (by decide) (jup_n (by omega) (jup_n (by omega) (jup_n (by omega) (jup_n (by omega) hN3)))) (by simp) (jfr_1 (by simp) (by simp)) ⟨Nat.le_of_ble_eq_true rfl, Nat.le_of_ble_eq_true rfl⟩ ?_
  refine j_putfieldF (fs' := [.ref (k + 1), .ref (k + 2), .ref (k + 3), .null, iv 0, iv 0, iv 0]) dX3_init_25 jf_X3_19 (fun q hq => by cases hq; exact ⟨rfl, rfl, rfl⟩) rfl (jHold_arr _ _) (fun k9 q9 => by cases q9; intro z; have q := (jup_s).symm.trans z; cases q) (jup_n (by omega) jup_s) (Nat.le_of_ble_eq_true rfl) rfl ?_
  refine j_aload_n dX3_init_28 rfl rfl ?_
  refine j_bipush dX3_init_29 (by decide +kernel) ?_
  refine j_newarray (t := 0) (k := k + 4) (n := 30) (f := fun _ => 0) rfl dX3_init_31 rfl (by decide) (jw_mem 132 (by decide +kernel) (by decide +kernel)) (by decide) (jup_n (by omega) (jup_n (by omega) (jup_n (by omega) (jup_n (by omega) (jup_n (by omega) (jup_n (by omega) hN4)))))) (by simp) (jfr_1 (by simp) (by simp)) ⟨Nat.le_of_ble_eq_true rfl, Nat.le_of_ble_eq_true rfl⟩ ?_
  refine j_putfieldF (fs' := [.ref (k + 1), .ref (k + 2), .ref (k + 3), .ref (k + 4), iv 0, iv 0, iv 0]) dX3_init_33 jf_X3_22 (fun q hq => by cases hq; exact ⟨rfl, rfl, rfl⟩) rfl (jHold_arr _ _) (fun k9 q9 => by cases q9; intro z; have q := (jup_s).symm.trans z; cases q) (jup_n (by omega) jup_s) (Nat.le_of_ble_eq_true rfl) rfl ?_
  refine j_aload_n dX3_init_36 rfl rfl ?_
  refine j_iconst dX3_init_37 ?_
  refine j_putI (fs' := [.ref (k + 1), .ref (k + 2), .ref (k + 3), .ref (k + 4), iv (0), iv 0, iv 0]) dX3_init_38 jf_X3_25 (fun q hq => by cases hq; exact ⟨rfl, rfl⟩) (jHold_int _) jup_s (Nat.le_of_ble_eq_true rfl) rfl ?_
  refine j_aload_n dX3_init_41 rfl rfl ?_
  refine j_iconst dX3_init_42 ?_
  refine j_putI (fs' := [.ref (k + 1), .ref (k + 2), .ref (k + 3), .ref (k + 4), iv (0), iv (0), iv 0]) dX3_init_43 jf_X3_29 (fun q hq => by cases hq; exact ⟨rfl, rfl⟩) (jHold_int _) jup_s (Nat.le_of_ble_eq_true rfl) rfl ?_
  refine j_aload_n dX3_init_46 rfl rfl ?_
  refine j_iconst dX3_init_47 ?_
  refine j_putI (fs' := [.ref (k + 1), .ref (k + 2), .ref (k + 3), .ref (k + 4), iv (0), iv (0), iv (0)]) dX3_init_48 jf_X3_32 (fun q hq => by cases hq; exact ⟨rfl, rfl⟩) (jHold_int _) jup_s (Nat.le_of_ble_eq_true rfl) rfl ?_
  refine J.abs (S := sI) (k := k) (G := (fun _ _ => 0)) (n := 5) (h0 := h) ?_ ?_ (fun h2 hG hE => ?_)
  · refine ⟨jup_s, fun i p t n hi => ?_⟩
    match i, hi with
    | 0, hi => cases hi; exact (jup_n (by omega) (jup_n (by omega) (jup_n (by omega) (jup_n (by omega) (jup_n (by omega) (jup_n (by omega) (jup_n (by omega) (jup_n (by omega) (jup_n (by omega) (jup_n (by omega) jup_s))))))))))
    | 1, hi => cases hi; exact (jup_n (by omega) (jup_n (by omega) (jup_n (by omega) (jup_n (by omega) (jup_n (by omega) (jup_n (by omega) (jup_n (by omega) (jup_n (by omega) jup_s))))))))
    | 2, hi => cases hi; exact (jup_n (by omega) (jup_n (by omega) (jup_n (by omega) (jup_n (by omega) (jup_n (by omega) (jup_n (by omega) jup_s))))))
    | 3, hi => cases hi; exact (jup_n (by omega) (jup_n (by omega) (jup_n (by omega) (jup_n (by omega) jup_s))))
    | 4, hi => cases hi
    | 5, hi => cases hi
    | 6, hi => cases hi
    | n9 + 7, hi => simp at hi
  · intro j hj
    simp only [jup]
    repeat rw [if_neg (by omega)]
  subst hZ
  exact j_return dX3_init_51 rfl ⟨rfl, hG, hE⟩ (Nat.le_of_ble_eq_true rfl) (Nat.le_of_ble_eq_true rfl)
