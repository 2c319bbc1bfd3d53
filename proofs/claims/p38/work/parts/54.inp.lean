/-- the input in order -/
def iTx (G : fS) : Prop := (0 ≤ G 4 0 ∧ G 4 0 ≤ G 5 0) ∧ G 5 0 ≤ 60 ∧ ∀ j, 0 ≤ G 0 j ∧ G 0 j < 65536
def iHe (G : fS) : Int := if G 4 0 < G 5 0 then G 0 (G 4 0) else 0
theorem iHe_r {G : fS} (h : ∀ j, 0 ≤ G 0 j ∧ G 0 j < 65536) : 0 ≤ iHe G ∧ iHe G < 65536 := by
  unfold iHe
  split
  · exact h _
  · omega
theorem iHe_n {G : fS} {c : Int} (h : iHe G = c) (hc : c ≠ 0) : G 4 0 < G 5 0 ∧ G 0 (G 4 0) = c := by
  unfold iHe at h
  by_cases e : G 4 0 < G 5 0
  · rw [if_pos e] at h; exact ⟨e, h⟩
  · rw [if_neg e] at h; exact absurd h.symm hc
theorem iHe_in {G : fS} (e : G 4 0 < G 5 0) : iHe G = G 0 (G 4 0) := if_pos e
def iKeep (G : fS) (kd a b : Int) : fS := gn (gs (gs (gs G 1 (jfu (G 1) (G 6 0) kd)) 2 (jfu (G 2) (G 6 0) a)) 3 (jfu (G 3) (G 6 0) b)) 6 (G 6 0 + 1)
def iLe : Nat → Int := fun j => [102, 98, 103, 99, 109, 112, 113, 101, 100].getD j 0
def iSi : Nat → Int := fun j => [32, 32, 60, 32, 43, 32, 45, 61, 32].getD j 0
theorem iSi_e {kd : Int} (h : 0 ≤ kd ∧ kd < 9) : iSi kd.toNat = sgOf kd := by
  have k : ∀ k : Fin 9, iSi k.val = sgOf ((k.val : Nat) : Int) := by decide +kernel
  have e := k ⟨kd.toNat, by omega⟩
  dsimp only at e
  rw [Int.toNat_of_nonneg h.1] at e
  exact e
theorem sgOf_r (kd : Int) : 32 ≤ sgOf kd ∧ sgOf kd ≤ 61 := by
  unfold sgOf
  repeat' split
  all_goals omega
theorem jrL : ("FamilyOaks", "LETTERS", "[C", 2, 9, iLe) ∈ jRows := .head _
theorem jrS : ("FamilyOaks", "SIGNS", "[C", 2, 9, iSi) ∈ jRows := .tail _ (.head _)
set_option maxHeartbeats 4000000 in
/-- Input.add -/
theorem c3_add {k : Nat} {G : fS} {h : jH} (hG : jOb sI k G h) {c : Int} (hc : 0 ≤ c ∧ c < 65536) (hl : 0 ≤ G 5 0 ∧ G 5 0 < 60) : jM mX3_add 1 0 0 [] [.ref k, iv c] h (jWv sI k (gn (gs G 0 (jfu (G 0) (G 5 0) c)) 5 (G 5 0 + 1)) h) jno := by
  refine j_method (by decide +kernel) rfl (fun _ _ _ => trivial) (Nat.le_of_ble_eq_true rfl) ?_
  generalize hZ : jZ [] 0 0 _ _ = Z
  show J mX3_add (jR 1 0 0) [] Z 0 [(0, .ref k), (1, iv c)] [] h 0 0
  have hE0 : jEx k 5 h h := jEx.rf
  refine j_aload_n dX3_add_0 rfl rfl ?_
  refine j_getfield (v := iv (G 5 0)) dX3_add_1 jf_X3_29 hG.1 rfl ?_
  refine j_if_lt (tgt := 36) dX3_add_4 (by decide) (by omega) (fun c1 => ?_) (fun c1 => ?_)
  · subst hZ
    exact j_return dX3_add_36 rfl (by first | exact jWv.i rfl hG hE0 | (exfalso; omega)) (Nat.le_refl _) (Nat.le_refl _)
  · refine j_aload_n dX3_add_7 rfl rfl ?_
    refine j_getfield (v := iv (G 5 0)) dX3_add_8 jf_X3_29 hG.1 rfl ?_
    refine j_bipush dX3_add_11 (by decide +kernel) ?_
    refine j_icmp_ge (tgt := 36) dX3_add_13 (by decide) (by omega) (fun c2 => ?_) (fun c2 => ?_)
    · subst hZ
      exact j_return dX3_add_36 rfl (by first | exact jWv.i rfl hG hE0 | (exfalso; omega)) (Nat.le_refl _) (Nat.le_refl _)
    · refine j_aload_n dX3_add_16 rfl rfl ?_
      refine j_getfield (v := .ref (k + 1)) dX3_add_17 jf_X3_9 hG.1 rfl ?_
      refine j_aload_n dX3_add_20 rfl rfl ?_
      refine j_getfield (v := iv (G 5 0)) dX3_add_21 jf_X3_29 hG.1 rfl ?_
      refine j_iload_n dX3_add_24 rfl rfl ?_
      refine jo_cas (S := sI) (k := k) dX3_add_25 okI hG (i := 0) (p := 1) rfl (by omega) (by omega) (by decide) (fun h3 hG3 hX3 => ?_)
      have hE4 := hE0.tr hX3
      refine j_aload_n dX3_add_26 rfl rfl ?_
      refine j_dup dX3_add_27 rfl ?_
      refine j_getfield (v := iv (G 5 0)) dX3_add_28 jf_X3_29 hG3.1 rfl ?_
      refine j_iconst dX3_add_31 ?_
      refine j_iadd dX3_add_32 ?_
      refine jo_put (S := sI) dX3_add_33 jf_X3_29 (fun q hq => by cases hq; exact ⟨rfl, rfl⟩) (jHold_int _) okI hG3 rfl (fun h5 hG5 hX5 => ?_)
      have hE6 := hE4.tr hX5
      subst hZ
      exact j_return dX3_add_36 rfl (by first | exact jWv.i rfl hG5 hE6 | (exfalso; omega)) (Nat.le_refl _) (Nat.le_refl _)
set_option maxHeartbeats 4000000 in
/-- Input.kindAt -/
theorem c3_kindAt {k : Nat} {G : fS} {h : jH} (hG : jOb sI k G h) {p : Int} (hp : 0 ≤ p ∧ p < 30) : jM mX3_kindAt 1 0 0 [] [.ref k, iv p] h (jRet (iv (G 1 p)) h) jno := by
  refine j_method (by decide +kernel) rfl (fun _ _ _ => trivial) (Nat.le_of_ble_eq_true rfl) ?_
  generalize hZ : jZ [] 0 0 _ _ = Z
  show J mX3_kindAt (jR 1 0 0) [] Z 0 [(0, .ref k), (1, iv p)] [] h 0 0
  refine j_iload_n dX3_kindAt_0 rfl rfl ?_
  refine j_if_lt (tgt := 19) dX3_kindAt_1 (by decide) (by omega) (fun c1 => ?_) (fun c1 => ?_)
  · refine j_iconst dX3_kindAt_19 ?_
    subst hZ
    exact j_ireturn dX3_kindAt_20 rfl rfl (by first | exact jRet.i rfl | (exfalso; omega)) (Nat.le_refl _) (Nat.le_refl _)
  · refine j_iload_n dX3_kindAt_4 rfl rfl ?_
    refine j_bipush dX3_kindAt_5 (by decide +kernel) ?_
    refine j_icmp_ge (tgt := 19) dX3_kindAt_7 (by decide) (by omega) (fun c2 => ?_) (fun c2 => ?_)
    · refine j_iconst dX3_kindAt_19 ?_
      subst hZ
      exact j_ireturn dX3_kindAt_20 rfl rfl (by first | exact jRet.i rfl | (exfalso; omega)) (Nat.le_refl _) (Nat.le_refl _)
    · refine j_aload_n dX3_kindAt_10 rfl rfl ?_
      refine j_getfield (v := .ref (k + 2)) dX3_kindAt_11 jf_X3_15 hG.1 rfl ?_
      refine j_iload_n dX3_kindAt_14 rfl rfl ?_
      refine j_iaload (f := G 1) dX3_kindAt_15 (hG.a 1 2 0 30 rfl) (by omega) (by decide) ?_
      refine j_goto (tgt := 20) dX3_kindAt_16 (by decide) ?_
      subst hZ
      exact j_ireturn dX3_kindAt_20 rfl rfl (by first | exact jRet.i rfl | (exfalso; omega)) (Nat.le_refl _) (Nat.le_refl _)
set_option maxHeartbeats 4000000 in
/-- Input.firstAt -/
theorem c3_firstAt {k : Nat} {G : fS} {h : jH} (hG : jOb sI k G h) {p : Int} (hp : 0 ≤ p ∧ p < 30) : jM mX3_firstAt 1 0 0 [] [.ref k, iv p] h (jRet (iv (G 2 p)) h) jno := by
  refine j_method (by decide +kernel) rfl (fun _ _ _ => trivial) (Nat.le_of_ble_eq_true rfl) ?_
  generalize hZ : jZ [] 0 0 _ _ = Z
  show J mX3_firstAt (jR 1 0 0) [] Z 0 [(0, .ref k), (1, iv p)] [] h 0 0
  refine j_iload_n dX3_firstAt_0 rfl rfl ?_
  refine j_if_lt (tgt := 19) dX3_firstAt_1 (by decide) (by omega) (fun c1 => ?_) (fun c1 => ?_)
  · refine j_iconst dX3_firstAt_19 ?_
    subst hZ
    exact j_ireturn dX3_firstAt_20 rfl rfl (by first | exact jRet.i rfl | (exfalso; omega)) (Nat.le_refl _) (Nat.le_refl _)
  · refine j_iload_n dX3_firstAt_4 rfl rfl ?_
    refine j_bipush dX3_firstAt_5 (by decide +kernel) ?_
    refine j_icmp_ge (tgt := 19) dX3_firstAt_7 (by decide) (by omega) (fun c2 => ?_) (fun c2 => ?_)
    · refine j_iconst dX3_firstAt_19 ?_
      subst hZ
      exact j_ireturn dX3_firstAt_20 rfl rfl (by first | exact jRet.i rfl | (exfalso; omega)) (Nat.le_refl _) (Nat.le_refl _)
    · refine j_aload_n dX3_firstAt_10 rfl rfl ?_
      refine j_getfield (v := .ref (k + 3)) dX3_firstAt_11 jf_X3_19 hG.1 rfl ?_
      refine j_iload_n dX3_firstAt_14 rfl rfl ?_
      refine j_iaload (f := G 2) dX3_firstAt_15 (hG.a 2 3 0 30 rfl) (by omega) (by decide) ?_
      refine j_goto (tgt := 20) dX3_firstAt_16 (by decide) ?_
      subst hZ
      exact j_ireturn dX3_firstAt_20 rfl rfl (by first | exact jRet.i rfl | (exfalso; omega)) (Nat.le_refl _) (Nat.le_refl _)
set_option maxHeartbeats 4000000 in
/-- Input.secondAt -/
theorem c3_secondAt {k : Nat} {G : fS} {h : jH} (hG : jOb sI k G h) {p : Int} (hp : 0 ≤ p ∧ p < 30) : jM mX3_secondAt 1 0 0 [] [.ref k, iv p] h (jRet (iv (G 3 p)) h) jno := by
  refine j_method (by decide +kernel) rfl (fun _ _ _ => trivial) (Nat.le_of_ble_eq_true rfl) ?_
  generalize hZ : jZ [] 0 0 _ _ = Z
  show J mX3_secondAt (jR 1 0 0) [] Z 0 [(0, .ref k), (1, iv p)] [] h 0 0
  refine j_iload_n dX3_secondAt_0 rfl rfl ?_
  refine j_if_lt (tgt := 19) dX3_secondAt_1 (by decide) (by omega) (fun c1 => ?_) (fun c1 => ?_)
  · refine j_iconst dX3_secondAt_19 ?_
    subst hZ
    exact j_ireturn dX3_secondAt_20 rfl rfl (by first | exact jRet.i rfl | (exfalso; omega)) (Nat.le_refl _) (Nat.le_refl _)
  · refine j_iload_n dX3_secondAt_4 rfl rfl ?_
    refine j_bipush dX3_secondAt_5 (by decide +kernel) ?_
    refine j_icmp_ge (tgt := 19) dX3_secondAt_7 (by decide) (by omega) (fun c2 => ?_) (fun c2 => ?_)
    · refine j_iconst dX3_secondAt_19 ?_
      subst hZ
      exact j_ireturn dX3_secondAt_20 rfl rfl (by first | exact jRet.i rfl | (exfalso; omega)) (Nat.le_refl _) (Nat.le_refl _)
    · refine j_aload_n dX3_secondAt_10 rfl rfl ?_
      refine j_getfield (v := .ref (k + 4)) dX3_secondAt_11 jf_X3_22 hG.1 rfl ?_
      refine j_iload_n dX3_secondAt_14 rfl rfl ?_
      refine j_iaload (f := G 3) dX3_secondAt_15 (hG.a 3 4 0 30 rfl) (by omega) (by decide) ?_
      refine j_goto (tgt := 20) dX3_secondAt_16 (by decide) ?_
      subst hZ
      exact j_ireturn dX3_secondAt_20 rfl rfl (by first | exact jRet.i rfl | (exfalso; omega)) (Nat.le_refl _) (Nat.le_refl _)
set_option maxHeartbeats 4000000 in
/-- Input.here -/
theorem c3_here {k : Nat} {G : fS} {h : jH} (hG : jOb sI k G h) (hT : iTx G) : jM mX3_here 1 0 0 [] [.ref k] h (jRet (iv (iHe G)) h) jno := by
  refine j_method (by decide +kernel) rfl (fun _ _ _ => trivial) (Nat.le_of_ble_eq_true rfl) ?_
  generalize hZ : jZ [] 0 0 _ _ = Z
  show J mX3_here (jR 1 0 0) [] Z 0 [(0, .ref k)] [] h 0 0
  obtain ⟨t1, t2, t3⟩ := hT
  refine j_aload_n dX3_here_0 rfl rfl ?_
  refine j_getfield (v := iv (G 4 0)) dX3_here_1 jf_X3_25 hG.1 rfl ?_
  refine j_if_lt (tgt := 39) dX3_here_4 (by decide) (by omega) (fun c1 => ?_) (fun c1 => ?_)
  · refine j_iconst dX3_here_39 ?_
    subst hZ
    exact j_ireturn dX3_here_40 rfl (by first | rfl | exact jn_char (t3 _)) (jRet.i (by unfold iHe; first | (exfalso; omega) | rw [if_pos (by omega)] | rw [if_neg (by omega)])) (Nat.le_refl _) (Nat.le_refl _)
  · refine j_aload_n dX3_here_7 rfl rfl ?_
    refine j_getfield (v := iv (G 4 0)) dX3_here_8 jf_X3_25 hG.1 rfl ?_
    refine j_aload_n dX3_here_11 rfl rfl ?_
    refine j_getfield (v := iv (G 5 0)) dX3_here_12 jf_X3_29 hG.1 rfl ?_
    refine j_icmp_ge (tgt := 39) dX3_here_15 (by decide) (by omega) (fun c2 => ?_) (fun c2 => ?_)
    · refine j_iconst dX3_here_39 ?_
      subst hZ
      exact j_ireturn dX3_here_40 rfl (by first | rfl | exact jn_char (t3 _)) (jRet.i (by unfold iHe; first | (exfalso; omega) | rw [if_pos (by omega)] | rw [if_neg (by omega)])) (Nat.le_refl _) (Nat.le_refl _)
    · refine j_aload_n dX3_here_18 rfl rfl ?_
      refine j_getfield (v := iv (G 4 0)) dX3_here_19 jf_X3_25 hG.1 rfl ?_
      refine j_bipush dX3_here_22 (by decide +kernel) ?_
      refine j_icmp_ge (tgt := 39) dX3_here_24 (by decide) (by omega) (fun c3 => ?_) (fun c3 => ?_)
      · refine j_iconst dX3_here_39 ?_
        subst hZ
        exact j_ireturn dX3_here_40 rfl (by first | rfl | exact jn_char (t3 _)) (jRet.i (by unfold iHe; first | (exfalso; omega) | rw [if_pos (by omega)] | rw [if_neg (by omega)])) (Nat.le_refl _) (Nat.le_refl _)
      · refine j_aload_n dX3_here_27 rfl rfl ?_
        refine j_getfield (v := .ref (k + 1)) dX3_here_28 jf_X3_9 hG.1 rfl ?_
        refine j_aload_n dX3_here_31 rfl rfl ?_
        refine j_getfield (v := iv (G 4 0)) dX3_here_32 jf_X3_25 hG.1 rfl ?_
        refine j_caload (f := G 0) dX3_here_35 (hG.a 0 1 2 60 rfl) (by omega) (by decide) ?_
        refine j_goto (tgt := 40) dX3_here_36 (by decide) ?_
        subst hZ
        exact j_ireturn dX3_here_40 rfl (by first | rfl | exact jn_char (t3 _)) (jRet.i (by unfold iHe; first | (exfalso; omega) | rw [if_pos (by omega)] | rw [if_neg (by omega)])) (Nat.le_refl _) (Nat.le_refl _)
set_option maxHeartbeats 4000000 in
/-- Input.kindHere -/
theorem c3_kindHere {k : Nat} {G : fS} {h : jH} (hG : jOb sI k G h) (hT : iTx G) : jM mX3_kindHere 2 0 0 [] [.ref k] h (jRet (iv (kdOf (iHe G))) h) jno := by
  refine j_method (by decide +kernel) rfl (fun _ _ _ => trivial) (Nat.le_of_ble_eq_true rfl) ?_
  generalize hZ : jZ [] 0 0 _ _ = Z
  show J mX3_kindHere (jR 2 0 0) [] Z 0 [(0, .ref k)] [] h 0 0
  refine j_aload_n dX3_kindHere_0 rfl rfl ?_
  refine j_callV (c3_here hG hT) dX3_kindHere_1 jc_X3_59 jmV_X3_here rfl rfl hG.1 rfl rfl (by simp) jfr_nil (Nat.le_of_ble_eq_true rfl) ⟨Nat.le_of_ble_eq_true rfl, Nat.le_of_ble_eq_true rfl⟩ ⟨Nat.le_of_ble_eq_true rfl, Nat.le_of_ble_eq_true rfl⟩ (fun r h2 hp9 => ?_) (fun E h9 q => q.elim)
  obtain ⟨rfl, rfl⟩ := hp9
  have v1 := iHe_r (G := G) hT.2.2
  refine j_istore_n (L' := [(0, _), (1, _)]) dX3_kindHere_4 rfl (by decide) rfl ?_
  refine j_iconst dX3_kindHere_5 ?_
  refine j_istore_n (L' := [(0, _), (1, _), (2, _)]) dX3_kindHere_6 rfl (by decide) rfl ?_
  refine j_iload_n dX3_kindHere_7 rfl rfl ?_
  refine j_slen (i8 := 0) jrL (by decide : (63, _) ∈ jNsf) ⟨rfl, rfl, rfl⟩ dX3_kindHere_8 dX3_kindHere_11 ?_
  refine j_icmp_ge (tgt := 32) dX3_kindHere_12 (by decide) (by omega) (fun c3 => absurd c3 (by decide)) (fun c3 => ?_)
  refine j_sldC (x := 0) jrL (by decide : (63, _) ∈ jNsf) ⟨rfl, rfl, rfl⟩ dX3_kindHere_15 dX3_kindHere_18 dX3_kindHere_19 rfl rfl (by omega) (by decide) ?_
  show J _ _ _ _ _ _ (iv 102 :: _) _ _ _
  refine j_iload_n dX3_kindHere_20 rfl rfl ?_
  refine j_icmp_ne (tgt := 26) dX3_kindHere_21 (by decide) (by omega) (fun c4 => ?_) (fun c4 => ?_)
  · refine j_iinc (L' := [(0, _), (1, _), (2, _)]) dX3_kindHere_26 rfl (by decide) rfl ?_
    refine j_goto (tgt := 7) dX3_kindHere_29 (by decide) ?_
    refine j_iload_n dX3_kindHere_7 rfl rfl ?_
    refine j_slen (i8 := 0) jrL (by decide : (63, _) ∈ jNsf) ⟨rfl, rfl, rfl⟩ dX3_kindHere_8 dX3_kindHere_11 ?_
    refine j_icmp_ge (tgt := 32) dX3_kindHere_12 (by decide) (by omega) (fun c5 => absurd c5 (by decide)) (fun c5 => ?_)
    refine j_sldC (x := 0 + 1) jrL (by decide : (63, _) ∈ jNsf) ⟨rfl, rfl, rfl⟩ dX3_kindHere_15 dX3_kindHere_18 dX3_kindHere_19 rfl rfl (by omega) (by decide) ?_
    show J _ _ _ _ _ _ (iv 98 :: _) _ _ _
    refine j_iload_n dX3_kindHere_20 rfl rfl ?_
    refine j_icmp_ne (tgt := 26) dX3_kindHere_21 (by decide) (by omega) (fun c6 => ?_) (fun c6 => ?_)
    · refine j_iinc (L' := [(0, _), (1, _), (2, _)]) dX3_kindHere_26 rfl (by decide) rfl ?_
      refine j_goto (tgt := 7) dX3_kindHere_29 (by decide) ?_
      refine j_iload_n dX3_kindHere_7 rfl rfl ?_
      refine j_slen (i8 := 0) jrL (by decide : (63, _) ∈ jNsf) ⟨rfl, rfl, rfl⟩ dX3_kindHere_8 dX3_kindHere_11 ?_
      refine j_icmp_ge (tgt := 32) dX3_kindHere_12 (by decide) (by omega) (fun c7 => absurd c7 (by decide)) (fun c7 => ?_)
      refine j_sldC (x := (0 + 1) + 1) jrL (by decide : (63, _) ∈ jNsf) ⟨rfl, rfl, rfl⟩ dX3_kindHere_15 dX3_kindHere_18 dX3_kindHere_19 rfl rfl (by omega) (by decide) ?_
      show J _ _ _ _ _ _ (iv 103 :: _) _ _ _
      refine j_iload_n dX3_kindHere_20 rfl rfl ?_
      refine j_icmp_ne (tgt := 26) dX3_kindHere_21 (by decide) (by omega) (fun c8 => ?_) (fun c8 => ?_)
      · refine j_iinc (L' := [(0, _), (1, _), (2, _)]) dX3_kindHere_26 rfl (by decide) rfl ?_
        refine j_goto (tgt := 7) dX3_kindHere_29 (by decide) ?_
        refine j_iload_n dX3_kindHere_7 rfl rfl ?_
        refine j_slen (i8 := 0) jrL (by decide : (63, _) ∈ jNsf) ⟨rfl, rfl, rfl⟩ dX3_kindHere_8 dX3_kindHere_11 ?_
        refine j_icmp_ge (tgt := 32) dX3_kindHere_12 (by decide) (by omega) (fun c9 => absurd c9 (by decide)) (fun c9 => ?_)
        refine j_sldC (x := ((0 + 1) + 1) + 1) jrL (by decide : (63, _) ∈ jNsf) ⟨rfl, rfl, rfl⟩ dX3_kindHere_15 dX3_kindHere_18 dX3_kindHere_19 rfl rfl (by omega) (by decide) ?_
        show J _ _ _ _ _ _ (iv 99 :: _) _ _ _
        refine j_iload_n dX3_kindHere_20 rfl rfl ?_
        refine j_icmp_ne (tgt := 26) dX3_kindHere_21 (by decide) (by omega) (fun c10 => ?_) (fun c10 => ?_)
        · refine j_iinc (L' := [(0, _), (1, _), (2, _)]) dX3_kindHere_26 rfl (by decide) rfl ?_
          refine j_goto (tgt := 7) dX3_kindHere_29 (by decide) ?_
          refine j_iload_n dX3_kindHere_7 rfl rfl ?_
          refine j_slen (i8 := 0) jrL (by decide : (63, _) ∈ jNsf) ⟨rfl, rfl, rfl⟩ dX3_kindHere_8 dX3_kindHere_11 ?_
          refine j_icmp_ge (tgt := 32) dX3_kindHere_12 (by decide) (by omega) (fun c11 => absurd c11 (by decide)) (fun c11 => ?_)
          refine j_sldC (x := (((0 + 1) + 1) + 1) + 1) jrL (by decide : (63, _) ∈ jNsf) ⟨rfl, rfl, rfl⟩ dX3_kindHere_15 dX3_kindHere_18 dX3_kindHere_19 rfl rfl (by omega) (by decide) ?_
          show J _ _ _ _ _ _ (iv 109 :: _) _ _ _
          refine j_iload_n dX3_kindHere_20 rfl rfl ?_
          refine j_icmp_ne (tgt := 26) dX3_kindHere_21 (by decide) (by omega) (fun c12 => ?_) (fun c12 => ?_)
          · refine j_iinc (L' := [(0, _), (1, _), (2, _)]) dX3_kindHere_26 rfl (by decide) rfl ?_
            refine j_goto (tgt := 7) dX3_kindHere_29 (by decide) ?_
            refine j_iload_n dX3_kindHere_7 rfl rfl ?_
            refine j_slen (i8 := 0) jrL (by decide : (63, _) ∈ jNsf) ⟨rfl, rfl, rfl⟩ dX3_kindHere_8 dX3_kindHere_11 ?_
            refine j_icmp_ge (tgt := 32) dX3_kindHere_12 (by decide) (by omega) (fun c13 => absurd c13 (by decide)) (fun c13 => ?_)
            refine j_sldC (x := ((((0 + 1) + 1) + 1) + 1) + 1) jrL (by decide : (63, _) ∈ jNsf) ⟨rfl, rfl, rfl⟩ dX3_kindHere_15 dX3_kindHere_18 dX3_kindHere_19 rfl rfl (by omega) (by decide) ?_
            show J _ _ _ _ _ _ (iv 112 :: _) _ _ _
            refine j_iload_n dX3_kindHere_20 rfl rfl ?_
            refine j_icmp_ne (tgt := 26) dX3_kindHere_21 (by decide) (by omega) (fun c14 => ?_) (fun c14 => ?_)
            · refine j_iinc (L' := [(0, _), (1, _), (2, _)]) dX3_kindHere_26 rfl (by decide) rfl ?_
              refine j_goto (tgt := 7) dX3_kindHere_29 (by decide) ?_
              refine j_iload_n dX3_kindHere_7 rfl rfl ?_
              refine j_slen (i8 := 0) jrL (by decide : (63, _) ∈ jNsf) ⟨rfl, rfl, rfl⟩ dX3_kindHere_8 dX3_kindHere_11 ?_
              refine j_icmp_ge (tgt := 32) dX3_kindHere_12 (by decide) (by omega) (fun c15 => absurd c15 (by decide)) (fun c15 => ?_)
              refine j_sldC (x := (((((0 + 1) + 1) + 1) + 1) + 1) + 1) jrL (by decide : (63, _) ∈ jNsf) ⟨rfl, rfl, rfl⟩ dX3_kindHere_15 dX3_kindHere_18 dX3_kindHere_19 rfl rfl (by omega) (by decide) ?_
              show J _ _ _ _ _ _ (iv 113 :: _) _ _ _
              refine j_iload_n dX3_kindHere_20 rfl rfl ?_
              refine j_icmp_ne (tgt := 26) dX3_kindHere_21 (by decide) (by omega) (fun c16 => ?_) (fun c16 => ?_)
              · refine j_iinc (L' := [(0, _), (1, _), (2, _)]) dX3_kindHere_26 rfl (by decide) rfl ?_
                refine j_goto (tgt := 7) dX3_kindHere_29 (by decide) ?_
                refine j_iload_n dX3_kindHere_7 rfl rfl ?_
                refine j_slen (i8 := 0) jrL (by decide : (63, _) ∈ jNsf) ⟨rfl, rfl, rfl⟩ dX3_kindHere_8 dX3_kindHere_11 ?_
                refine j_icmp_ge (tgt := 32) dX3_kindHere_12 (by decide) (by omega) (fun c17 => absurd c17 (by decide)) (fun c17 => ?_)
                refine j_sldC (x := ((((((0 + 1) + 1) + 1) + 1) + 1) + 1) + 1) jrL (by decide : (63, _) ∈ jNsf) ⟨rfl, rfl, rfl⟩ dX3_kindHere_15 dX3_kindHere_18 dX3_kindHere_19 rfl rfl (by omega) (by decide) ?_
                show J _ _ _ _ _ _ (iv 101 :: _) _ _ _
                refine j_iload_n dX3_kindHere_20 rfl rfl ?_
                refine j_icmp_ne (tgt := 26) dX3_kindHere_21 (by decide) (by omega) (fun c18 => ?_) (fun c18 => ?_)
                · refine j_iinc (L' := [(0, _), (1, _), (2, _)]) dX3_kindHere_26 rfl (by decide) rfl ?_
                  refine j_goto (tgt := 7) dX3_kindHere_29 (by decide) ?_
                  refine j_iload_n dX3_kindHere_7 rfl rfl ?_
                  refine j_slen (i8 := 0) jrL (by decide : (63, _) ∈ jNsf) ⟨rfl, rfl, rfl⟩ dX3_kindHere_8 dX3_kindHere_11 ?_
                  refine j_icmp_ge (tgt := 32) dX3_kindHere_12 (by decide) (by omega) (fun c19 => absurd c19 (by decide)) (fun c19 => ?_)
                  refine j_sldC (x := (((((((0 + 1) + 1) + 1) + 1) + 1) + 1) + 1) + 1) jrL (by decide : (63, _) ∈ jNsf) ⟨rfl, rfl, rfl⟩ dX3_kindHere_15 dX3_kindHere_18 dX3_kindHere_19 rfl rfl (by omega) (by decide) ?_
                  show J _ _ _ _ _ _ (iv 100 :: _) _ _ _
                  refine j_iload_n dX3_kindHere_20 rfl rfl ?_
                  refine j_icmp_ne (tgt := 26) dX3_kindHere_21 (by decide) (by omega) (fun c20 => ?_) (fun c20 => ?_)
                  · refine j_iinc (L' := [(0, _), (1, _), (2, _)]) dX3_kindHere_26 rfl (by decide) rfl ?_
                    refine j_goto (tgt := 7) dX3_kindHere_29 (by decide) ?_
                    refine j_iload_n dX3_kindHere_7 rfl rfl ?_
                    refine j_slen (i8 := 0) jrL (by decide : (63, _) ∈ jNsf) ⟨rfl, rfl, rfl⟩ dX3_kindHere_8 dX3_kindHere_11 ?_
                    refine j_icmp_ge (tgt := 32) dX3_kindHere_12 (by decide) (by omega) (fun c21 => ?_) (fun c21 => absurd (by decide) c21)
                    refine j_iconst dX3_kindHere_32 ?_
                    subst hZ
                    exact j_ireturn dX3_kindHere_33 rfl rfl (jRet.i (by unfold kdOf; repeat rw [if_neg (by omega)])) (Nat.le_refl _) (Nat.le_refl _)
                  · refine j_iload_n dX3_kindHere_24 rfl rfl ?_
                    subst hZ
                    exact j_ireturn dX3_kindHere_25 rfl rfl (jRet.i (by have e9 := c20; rw [← e9]; decide)) (Nat.le_refl _) (Nat.le_refl _)
                · refine j_iload_n dX3_kindHere_24 rfl rfl ?_
                  subst hZ
                  exact j_ireturn dX3_kindHere_25 rfl rfl (jRet.i (by have e9 := c18; rw [← e9]; decide)) (Nat.le_refl _) (Nat.le_refl _)
              · refine j_iload_n dX3_kindHere_24 rfl rfl ?_
                subst hZ
                exact j_ireturn dX3_kindHere_25 rfl rfl (jRet.i (by have e9 := c16; rw [← e9]; decide)) (Nat.le_refl _) (Nat.le_refl _)
            · refine j_iload_n dX3_kindHere_24 rfl rfl ?_
              subst hZ
              exact j_ireturn dX3_kindHere_25 rfl rfl (jRet.i (by have e9 := c14; rw [← e9]; decide)) (Nat.le_refl _) (Nat.le_refl _)
          · refine j_iload_n dX3_kindHere_24 rfl rfl ?_
            subst hZ
            exact j_ireturn dX3_kindHere_25 rfl rfl (jRet.i (by have e9 := c12; rw [← e9]; decide)) (Nat.le_refl _) (Nat.le_refl _)
        · refine j_iload_n dX3_kindHere_24 rfl rfl ?_
          subst hZ
          exact j_ireturn dX3_kindHere_25 rfl rfl (jRet.i (by have e9 := c10; rw [← e9]; decide)) (Nat.le_refl _) (Nat.le_refl _)
      · refine j_iload_n dX3_kindHere_24 rfl rfl ?_
        subst hZ
        exact j_ireturn dX3_kindHere_25 rfl rfl (jRet.i (by have e9 := c8; rw [← e9]; decide)) (Nat.le_refl _) (Nat.le_refl _)
    · refine j_iload_n dX3_kindHere_24 rfl rfl ?_
      subst hZ
      exact j_ireturn dX3_kindHere_25 rfl rfl (jRet.i (by have e9 := c6; rw [← e9]; decide)) (Nat.le_refl _) (Nat.le_refl _)
  · refine j_iload_n dX3_kindHere_24 rfl rfl ?_
    subst hZ
    exact j_ireturn dX3_kindHere_25 rfl rfl (jRet.i (by have e9 := c4; rw [← e9]; decide)) (Nat.le_refl _) (Nat.le_refl _)
set_option maxHeartbeats 4000000 in
/-- Input.signOf -/
theorem c3_signOf {k : Nat} {G : fS} {h : jH} (hG : jOb sI k G h) {kd : Int} (hk : 0 ≤ kd ∧ kd < 9) : jM mX3_signOf 1 0 0 [] [.ref k, iv kd] h (jRet (iv (sgOf kd)) h) jno := by
  refine j_method (by decide +kernel) rfl (fun _ _ _ => trivial) (Nat.le_of_ble_eq_true rfl) ?_
  generalize hZ : jZ [] 0 0 _ _ = Z
  show J mX3_signOf (jR 1 0 0) [] Z 0 [(0, .ref k), (1, iv kd)] [] h 0 0
  have sr := sgOf_r kd
  have se := iSi_e hk
  refine j_iload_n dX3_signOf_0 rfl rfl ?_
  refine j_if_lt (tgt := 20) dX3_signOf_1 (by decide) (by omega) (fun c1 => ?_) (fun c1 => ?_)
  · refine j_bipush dX3_signOf_20 (by decide +kernel) ?_
    subst hZ
    exact j_ireturn dX3_signOf_22 rfl (by first | rfl | exact jn_char (by rw [se]; omega)) (jRet.i (by omega)) (Nat.le_refl _) (Nat.le_refl _)
  · refine j_iload_n dX3_signOf_4 rfl rfl ?_
    refine j_slen (i8 := 0) jrS (by decide : (66, _) ∈ jNsf) ⟨rfl, rfl, rfl⟩ dX3_signOf_5 dX3_signOf_8 ?_
    refine j_icmp_ge (tgt := 20) dX3_signOf_9 (by decide) (by omega) (fun c2 => ?_) (fun c2 => ?_)
    · refine j_bipush dX3_signOf_20 (by decide +kernel) ?_
      subst hZ
      exact j_ireturn dX3_signOf_22 rfl (by first | rfl | exact jn_char (by rw [se]; omega)) (jRet.i (by omega)) (Nat.le_refl _) (Nat.le_refl _)
    · refine j_sldC (x := kd) jrS (by decide : (66, _) ∈ jNsf) ⟨rfl, rfl, rfl⟩ dX3_signOf_12 dX3_signOf_15 dX3_signOf_16 rfl rfl (by omega) (by decide) ?_
      refine j_goto (tgt := 22) dX3_signOf_17 (by decide) ?_
      subst hZ
      exact j_ireturn dX3_signOf_22 rfl (by first | rfl | exact jn_char (by rw [se]; omega)) (jRet.i se.symm) (Nat.le_refl _) (Nat.le_refl _)
set_option maxHeartbeats 4000000 in
/-- Input.readSign -/
theorem c3_readSign {k : Nat} {G : fS} {h : jH} (hG : jOb sI k G h) (hT : iTx G) {c : Int} (hc : 0 < c ∧ c < 65536) : jM mX3_readSign 2 0 0 [] [.ref k, iv c] h (jWi sI k (if iHe G = c then (1, gn G 4 (G 4 0 + 1)) else (0, G)) h) jno := by
  refine j_method (by decide +kernel) rfl (fun _ _ _ => trivial) (Nat.le_of_ble_eq_true rfl) ?_
  generalize hZ : jZ [] 0 0 _ _ = Z
  show J mX3_readSign (jR 2 0 0) [] Z 0 [(0, .ref k), (1, iv c)] [] h 0 0
  have hE0 : jEx k 5 h h := jEx.rf
  refine j_aload_n dX3_readSign_0 rfl rfl ?_
  refine j_callV (c3_here hG hT) dX3_readSign_1 jc_X3_59 jmV_X3_here rfl rfl hG.1 rfl rfl (by simp) jfr_nil (Nat.le_of_ble_eq_true rfl) ⟨Nat.le_of_ble_eq_true rfl, Nat.le_of_ble_eq_true rfl⟩ ⟨Nat.le_of_ble_eq_true rfl, Nat.le_of_ble_eq_true rfl⟩ (fun r h2 hp9 => ?_) (fun E h9 q => q.elim)
  obtain ⟨rfl, rfl⟩ := hp9
  have v1 := iHe_r (G := G) hT.2.2
  refine j_iload_n dX3_readSign_4 rfl rfl ?_
  refine j_icmp_eq (tgt := 10) dX3_readSign_5 (by decide) (by omega) (fun c3 => ?_) (fun c3 => ?_)
  · refine j_aload_n dX3_readSign_10 rfl rfl ?_
    refine j_dup dX3_readSign_11 rfl ?_
    have e9 := iHe_n (G := G) (c := c) (by omega) (by omega)
    have e8 := hT.2.1
    refine j_getfield (v := iv (G 4 0)) dX3_readSign_12 jf_X3_25 hG.1 rfl ?_
    refine j_iconst dX3_readSign_15 ?_
    refine j_iadd dX3_readSign_16 ?_
    refine jo_put (S := sI) dX3_readSign_17 jf_X3_25 (fun q hq => by cases hq; exact ⟨rfl, rfl⟩) (jHold_int _) okI hG rfl (fun h4 hG4 hX4 => ?_)
    have hE5 := hE0.tr hX4
    refine j_iconst dX3_readSign_20 ?_
    subst hZ
    exact j_ireturn dX3_readSign_21 rfl rfl (jWi.i (by rw [if_pos (by omega)]) hG4 hE5) (Nat.le_refl _) (Nat.le_refl _)
  · refine j_iconst dX3_readSign_8 ?_
    subst hZ
    exact j_ireturn dX3_readSign_9 rfl rfl (jWi.i (by rw [if_neg (by omega)]) hG hE0) (Nat.le_refl _) (Nat.le_refl _)
set_option maxHeartbeats 4000000 in
/-- Input.keep -/
theorem c3_keep {k : Nat} {G : fS} {h : jH} (hG : jOb sI k G h) {kd a b : Int} (ho : 0 ≤ G 6 0 ∧ G 6 0 < 30) : jM mX3_keep 1 0 0 [] [.ref k, iv kd, iv a, iv b] h (jWi sI k (1, iKeep G kd a b) h) jno := by
  refine j_method (by decide +kernel) rfl (fun _ _ _ => trivial) (Nat.le_of_ble_eq_true rfl) ?_
  generalize hZ : jZ [] 0 0 _ _ = Z
  show J mX3_keep (jR 1 0 0) [] Z 0 [(0, .ref k), (1, iv kd), (2, iv a), (3, iv b)] [] h 0 0
  have ho9 := ho
  have hE0 : jEx k 5 h h := jEx.rf
  refine j_aload_n dX3_keep_0 rfl rfl ?_
  refine j_getfield (v := iv (G 6 0)) dX3_keep_1 jf_X3_32 hG.1 rfl ?_
  refine j_if_lt (tgt := 16) dX3_keep_4 (by decide) (by omega) (fun c1 => ?_) (fun c1 => ?_)
  · refine j_iconst dX3_keep_16 ?_
    subst hZ
    exact j_ireturn dX3_keep_17 rfl rfl (by exfalso; omega) (Nat.le_refl _) (Nat.le_refl _)
  · refine j_aload_n dX3_keep_7 rfl rfl ?_
    refine j_getfield (v := iv (G 6 0)) dX3_keep_8 jf_X3_32 hG.1 rfl ?_
    refine j_bipush dX3_keep_11 (by decide +kernel) ?_
    refine j_icmp_lt (tgt := 18) dX3_keep_13 (by decide) (by omega) (fun c2 => ?_) (fun c2 => ?_)
    · refine j_aload_n dX3_keep_18 rfl rfl ?_
      refine j_getfield (v := .ref (k + 2)) dX3_keep_19 jf_X3_15 hG.1 rfl ?_
      refine j_aload_n dX3_keep_22 rfl rfl ?_
      refine j_getfield (v := iv (G 6 0)) dX3_keep_23 jf_X3_32 hG.1 rfl ?_
      refine j_iload_n dX3_keep_26 rfl rfl ?_
      refine jo_ias (S := sI) (k := k) dX3_keep_27 okI hG (i := 1) (p := 2) rfl (by omega) (by decide) (fun h3 hG3 hX3 => ?_)
      have hE4 := hE0.tr hX3
      refine j_aload_n dX3_keep_28 rfl rfl ?_
      refine j_getfield (v := .ref (k + 3)) dX3_keep_29 jf_X3_19 hG3.1 rfl ?_
      refine j_aload_n dX3_keep_32 rfl rfl ?_
      refine j_getfield (v := iv (G 6 0)) dX3_keep_33 jf_X3_32 hG3.1 rfl ?_
      refine j_iload_n dX3_keep_36 rfl rfl ?_
      refine jo_ias (S := sI) (k := k) dX3_keep_37 okI hG3 (i := 2) (p := 3) rfl (by omega) (by decide) (fun h5 hG5 hX5 => ?_)
      have hE6 := hE4.tr hX5
      refine j_aload_n dX3_keep_38 rfl rfl ?_
      refine j_getfield (v := .ref (k + 4)) dX3_keep_39 jf_X3_22 hG5.1 rfl ?_
      refine j_aload_n dX3_keep_42 rfl rfl ?_
      refine j_getfield (v := iv (G 6 0)) dX3_keep_43 jf_X3_32 hG5.1 rfl ?_
      refine j_iload_n dX3_keep_46 rfl rfl ?_
      refine jo_ias (S := sI) (k := k) dX3_keep_47 okI hG5 (i := 3) (p := 4) rfl (by omega) (by decide) (fun h7 hG7 hX7 => ?_)
      have hE8 := hE6.tr hX7
      refine j_aload_n dX3_keep_48 rfl rfl ?_
      refine j_dup dX3_keep_49 rfl ?_
      refine j_getfield (v := iv (G 6 0)) dX3_keep_50 jf_X3_32 hG7.1 rfl ?_
      refine j_iconst dX3_keep_53 ?_
      refine j_iadd dX3_keep_54 ?_
      refine jo_put (S := sI) dX3_keep_55 jf_X3_32 (fun q hq => by cases hq; exact ⟨rfl, rfl⟩) (jHold_int _) okI hG7 rfl (fun h9 hG9 hX9 => ?_)
      have hE10 := hE8.tr hX9
      refine j_iconst dX3_keep_58 ?_
      subst hZ
      exact j_ireturn dX3_keep_59 rfl rfl (jWi.i rfl hG9 hE10) (Nat.le_refl _) (Nat.le_refl _)
    · refine j_iconst dX3_keep_16 ?_
      subst hZ
      exact j_ireturn dX3_keep_17 rfl rfl (by exfalso; omega) (Nat.le_refl _) (Nat.le_refl _)
