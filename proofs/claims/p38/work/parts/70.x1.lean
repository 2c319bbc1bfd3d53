/-! FAMILYOAKS. Places: 0 the object, 1 now, 8 elders, 11 homes, 14 before, 21 saved, 28 input, 33 written, 36 past, 40 + 10 j the families of the past -/
abbrev sX : jSc := (4, 1, [(2, 1, 0, 0), (2, 14, 0, 0), (2, 21, 0, 0), (0, 0, 0, 0), (2, 36, 0, 0), (0, 0, 0, 0), (2, 8, 0, 0), (2, 11, 0, 0), (2, 28, 0, 0), (2, 33, 0, 0), (0, 0, 0, 0), (0, 0, 0, 0), (0, 0, 0, 0)])
theorem okX : jSok sX := .of (by decide +kernel)
/-- elders are told from the families, once there are persons -/
def eOz (K E : fS) : Prop := 0 < K 6 0 → eOk K E
/-- the object, its families now as K, elders and homes told from them -/
def xS (X K : fS) (h : jH) : Prop := ∃ a b E H, jOb sX 0 X h ∧ jOb sF 1 (kRw K a b) h ∧ jOb sE 8 E h ∧ jOb sH 11 H h ∧ kQv K a b ∧ eOz K E ∧ hHo K H
def xX (X : fS) (q : kR) : fS := if q.1 = -4 then gn (gn X 11 q.2.1) 12 q.2.2.1 else X
/-- an order has been carried out, or not -/
def xTr (X : fS) (q : kR) (h : jH) : jPn := fun r h' => r = some (iv q.1) ∧ xS (xX X q) q.2.2.2 h' ∧ jEx 0 14 h h'
theorem xTr.ok {X K' : fS} {q : kR} {r : Int} {h h' : jH} (e : q = (r, 0, 0, K')) (hr : r ≠ -4) (hS : xS X K' h') (hE : jEx 0 14 h h') : xTr X q h (some (iv r)) h' := by
  subst e
  refine ⟨rfl, ?_, hE⟩
  unfold xX
  rw [if_neg hr]
  exact hS
theorem xTr.rf {X K : fS} {q : kR} {w d : Int} {h h' : jH} (e : q = kRef w d K) (hS : xS (gn (gn X 11 w) 12 d) K h') (hE : jEx 0 14 h h') : xTr X q h (some (iv (-4))) h' := by
  subst e
  exact ⟨rfl, hS, hE⟩
theorem kWhy_c (K : fS) (p o : Int) : (kWhy K p o).1 = 0 ∨ (kWhy K p o).1 = 2 ∨ (kWhy K p o).1 = 6 ∨ ((kWhy K p o).1 = 7 ∧ frt K p = frt K o) := by
  unfold kWhy
  repeat' split
  all_goals first | exact .inl rfl | exact .inr (.inl rfl) | exact .inr (.inr (.inl rfl)) | (refine .inr (.inr (.inr ⟨rfl, ?_⟩)); rename_i q; exact q.1)
theorem kWhy_2 {K : fS} {p o : Int} (h : (kWhy K p o).1 = 2) : (kWhy K p o).2 = if K 3 p = 0 then p else o := by
  unfold kWhy at h ⊢
  by_cases h1 : K 3 p = 0
  · rw [if_pos h1, if_pos h1]
  rw [if_neg h1] at h ⊢
  rw [if_neg h1]
  by_cases h2 : K 3 o = 0
  · rw [if_pos h2]
  rw [if_neg h2] at h
  exfalso
  revert h
  repeat' split
  all_goals (intro h; simp at h)
theorem kWhy_6 {K : fS} {p o : Int} (h : (kWhy K p o).1 = 6) : (kWhy K p o).2 = if K 1 p = -1 then K 1 o else K 1 p := by
  unfold kWhy at h ⊢
  by_cases h1 : K 3 p = 0
  · rw [if_pos h1] at h; simp at h
  rw [if_neg h1] at h ⊢
  by_cases h2 : K 3 o = 0
  · rw [if_pos h2] at h; simp at h
  rw [if_neg h2] at h ⊢
  by_cases h3 : K 1 p ≠ -1
  · rw [if_pos h3, if_neg h3]
  rw [if_neg h3] at h ⊢
  rw [if_pos (Decidable.not_not.mp h3)]
  by_cases h4 : K 1 o ≠ -1
  · rw [if_pos h4]
  rw [if_neg h4] at h
  exfalso
  revert h
  split
  all_goals (intro h; simp at h)
theorem kWhy_7 {K : fS} {p o : Int} (h : (kWhy K p o).1 = 7) : (kWhy K p o).2 = faw K p o := by
  unfold kWhy at h ⊢
  by_cases h1 : K 3 p = 0
  · rw [if_pos h1] at h; simp at h
  rw [if_neg h1] at h ⊢
  by_cases h2 : K 3 o = 0
  · rw [if_pos h2] at h; simp at h
  rw [if_neg h2] at h ⊢
  by_cases h3 : K 1 p ≠ -1
  · rw [if_pos h3] at h; simp at h
  rw [if_neg h3] at h ⊢
  by_cases h4 : K 1 o ≠ -1
  · rw [if_pos h4] at h; simp at h
  rw [if_neg h4] at h ⊢
  by_cases h5 : frt K p = frt K o ∧ faw K p o ≤ 4
  · rw [if_pos h5]
  rw [if_neg h5] at h
  simp at h
theorem k_houseOf {k : Nat} {H K : fS} {B : Int} {h : jH} (hG : jOb sH k H h) (hO : jOk B K) (hH : hHo K H) {p : Int} (hp : 0 ≤ p ∧ p < K 6 0) : jM mX2_houseOf 1 0 0 [] [.ref k, iv p] h (jRet (iv (fho K p)) h) jno := by
  have hn := hO.n
  have w := c2_houseOf hG (p := p) (by omega) hH.1
  rw [(if_pos (show 0 ≤ p ∧ p < 24 by omega)).trans (hH.2 p hp.1 hp.2)] at w
  exact w
theorem frt_r24 {B : Int} {F : fS} (hO : jOk B F) {p : Int} (hp : -1 ≤ p ∧ p < 24) : -1 ≤ frt F p ∧ frt F p < 24 := by
  have hn := hO.n
  have key : ∀ (k : Nat) (x : Int), -1 ≤ x ∧ x < 24 → -1 ≤ urt (F 0) k x ∧ urt (F 0) k x < 24 := by
    intro k
    induction k with
    | zero => intro x hx; exact hx
    | succ k ih =>
      intro x hx
      show -1 ≤ (if F 0 x = -1 then x else urt (F 0) k (F 0 x)) ∧ (if F 0 x = -1 then x else urt (F 0) k (F 0 x)) < 24
      have := hO.p x
      split
      · exact hx
      · exact ih _ (by omega)
  exact key 24 p hp
set_option maxHeartbeats 4000000 in
/-- FamilyOaks.isOneOak -/
theorem x_isOneOak {X K E H : fS} {a b : Int → Int} {B : Int} {h : jH} (hX : jOb sX 0 X h) (hF : jOb sF 1 (kRw K a b) h) (hL : jOb sE 8 E h) (hG : jOb sH 11 H h) (hq : kQv K a b) (hI : kI B K) (hE9 : eOz K E) (hH : hHo K H) {p o : Int} (hp : 0 ≤ p ∧ p < K 6 0) (ho : 0 ≤ o ∧ o < K 6 0) : jM mX4_isOneOak 2 0 0 [] [.ref 0, iv p, iv o] h (jRet (iv (bi (frt K p = frt K o))) h) jno := by
  refine j_method (by decide +kernel) rfl (fun _ _ _ => trivial) (Nat.le_of_ble_eq_true rfl) ?_
  generalize hZ : jZ [] 0 0 _ _ = Z
  show J mX4_isOneOak (jR 2 0 0) [] Z 0 [(0, .ref 0), (1, iv p), (2, iv o)] [] h 0 0
  have hO := hI.1
  have hA := hI.2.1
  have hn := hO.n
  have hqn := hO.q
  refine j_aload_n dX4_isOneOak_0 rfl rfl ?_
  refine j_getfield (v := .ref 1) dX4_isOneOak_1 jf_X4_10 hX.1 rfl ?_
  refine j_iload_n dX4_isOneOak_4 rfl rfl ?_
  refine j_callV (k_rootOf hF hq hO  (by omega)) dX4_isOneOak_5 jc_X4_108 jmV_X1_rootOf rfl rfl hF.1 rfl rfl (by simp) jfr_nil (Nat.le_of_ble_eq_true rfl) ⟨Nat.le_of_ble_eq_true rfl, Nat.le_of_ble_eq_true rfl⟩ ⟨Nat.le_of_ble_eq_true rfl, Nat.le_of_ble_eq_true rfl⟩ (fun r h1 hp9 => ?_) (fun E h9 q => q.elim)
  obtain ⟨rfl, rfl⟩ := hp9
  have zr := frt_r24 hO (p := p) (by omega)
  refine j_aload_n dX4_isOneOak_8 rfl rfl ?_
  refine j_getfield (v := .ref 1) dX4_isOneOak_9 jf_X4_10 hX.1 rfl ?_
  refine j_iload_n dX4_isOneOak_12 rfl rfl ?_
  refine j_callV (k_rootOf hF hq hO  (by omega)) dX4_isOneOak_13 jc_X4_108 jmV_X1_rootOf rfl rfl hF.1 rfl rfl (by simp) jfr_nil (Nat.le_of_ble_eq_true rfl) ⟨Nat.le_of_ble_eq_true rfl, Nat.le_of_ble_eq_true rfl⟩ ⟨Nat.le_of_ble_eq_true rfl, Nat.le_of_ble_eq_true rfl⟩ (fun r h2 hp9 => ?_) (fun E h9 q => q.elim)
  obtain ⟨rfl, rfl⟩ := hp9
  have zr := frt_r24 hO (p := o) (by omega)
  refine j_icmp_ne (tgt := 23) dX4_isOneOak_16 (by decide) (by omega) (fun c3 => ?_) (fun c3 => ?_)
  · refine j_iconst dX4_isOneOak_23 ?_
    subst hZ
    exact j_ireturn dX4_isOneOak_24 rfl (by rfl) (jRet.i (by first | exact bi_t (by omega) | exact bi_f (by omega))) (Nat.le_refl _) (Nat.le_refl _)
  · refine j_iconst dX4_isOneOak_19 ?_
    refine j_goto (tgt := 24) dX4_isOneOak_20 (by decide) ?_
    subst hZ
    exact j_ireturn dX4_isOneOak_24 rfl (by rfl) (jRet.i (by first | exact bi_t (by omega) | exact bi_f (by omega))) (Nat.le_refl _) (Nat.le_refl _)
set_option maxHeartbeats 4000000 in
/-- FamilyOaks.degreeBetween -/
theorem x_degreeBetween {X K E H : fS} {a b : Int → Int} {B : Int} {h : jH} (hX : jOb sX 0 X h) (hF : jOb sF 1 (kRw K a b) h) (hL : jOb sE 8 E h) (hG : jOb sH 11 H h) (hq : kQv K a b) (hI : kI B K) (hE9 : eOz K E) (hH : hHo K H) {p o : Int} (hp : 0 ≤ p ∧ p < K 6 0) (ho : 0 ≤ o ∧ o < K 6 0) (he : frt K p = frt K o) : jM mX4_degreeBetween 4 0 0 [] [.ref 0, iv p, iv o] h (jRet (iv (faw K p o)) h) jno := by
  refine j_method (by decide +kernel) rfl (fun _ _ _ => trivial) (Nat.le_of_ble_eq_true rfl) ?_
  generalize hZ : jZ [] 0 0 _ _ = Z
  show J mX4_degreeBetween (jR 4 0 0) [] Z 0 [(0, .ref 0), (1, iv p), (2, iv o)] [] h 0 0
  have hO := hI.1
  have hA := hI.2.1
  have hn := hO.n
  have hqn := hO.q
  refine j_aload_n dX4_degreeBetween_0 rfl rfl ?_
  refine j_getfield (v := .ref 8) dX4_degreeBetween_1 jf_X4_37 hX.1 rfl ?_
  refine j_iload_n dX4_degreeBetween_4 rfl rfl ?_
  refine j_iload_n dX4_degreeBetween_5 rfl rfl ?_
  refine j_callV (c0_commonByLeaps hL hO hA (hE9 (by omega)) (p := p) (o := o) (by omega) (by omega) he) dX4_degreeBetween_6 jc_X4_141 jmV_X0_commonByLeaps rfl rfl hL.1 rfl rfl (by simp) jfr_nil (Nat.le_of_ble_eq_true rfl) ⟨Nat.le_of_ble_eq_true rfl, Nat.le_of_ble_eq_true rfl⟩ ⟨Nat.le_of_ble_eq_true rfl, Nat.le_of_ble_eq_true rfl⟩ (fun r h1 hp9 => ?_) (fun E h9 q => q.elim)
  obtain ⟨rfl, rfl⟩ := hp9
  have zf := flc_rg hO hA _ p o (Nat.lt_succ_self _) (by omega) (by omega) (by omega) he
  refine j_istore_n (L' := [(0, _), (1, _), (2, _), (3, _)]) dX4_degreeBetween_9 rfl (by decide) rfl ?_
  refine j_aload_n dX4_degreeBetween_10 rfl rfl ?_
  refine j_getfield (v := .ref 1) dX4_degreeBetween_11 jf_X4_10 hX.1 rfl ?_
  refine j_iload_n dX4_degreeBetween_14 rfl rfl ?_
  refine j_callV (k_depthOf hF hq hO  (by omega)) dX4_degreeBetween_15 jc_X4_89 jmV_X1_depthOf rfl rfl hF.1 rfl rfl (by simp) jfr_nil (Nat.le_of_ble_eq_true rfl) ⟨Nat.le_of_ble_eq_true rfl, Nat.le_of_ble_eq_true rfl⟩ ⟨Nat.le_of_ble_eq_true rfl, Nat.le_of_ble_eq_true rfl⟩ (fun r h2 hp9 => ?_) (fun E h9 q => q.elim)
  obtain ⟨rfl, rfl⟩ := hp9
  have zd := fdep_rg K p
  refine j_aload_n dX4_degreeBetween_18 rfl rfl ?_
  refine j_getfield (v := .ref 1) dX4_degreeBetween_19 jf_X4_10 hX.1 rfl ?_
  refine j_iload_n dX4_degreeBetween_22 rfl rfl ?_
  refine j_callV (k_depthOf hF hq hO  (by omega)) dX4_degreeBetween_23 jc_X4_89 jmV_X1_depthOf rfl rfl hF.1 rfl rfl (by simp) jfr_nil (Nat.le_of_ble_eq_true rfl) ⟨Nat.le_of_ble_eq_true rfl, Nat.le_of_ble_eq_true rfl⟩ ⟨Nat.le_of_ble_eq_true rfl, Nat.le_of_ble_eq_true rfl⟩ (fun r h3 hp9 => ?_) (fun E h9 q => q.elim)
  obtain ⟨rfl, rfl⟩ := hp9
  have zd := fdep_rg K o
  refine j_iadd dX4_degreeBetween_26 ?_
  refine j_iconst dX4_degreeBetween_27 ?_
  refine j_aload_n dX4_degreeBetween_28 rfl rfl ?_
  refine j_getfield (v := .ref 1) dX4_degreeBetween_29 jf_X4_10 hX.1 rfl ?_
  refine j_iload_n dX4_degreeBetween_32 rfl rfl ?_
  refine j_callV (k_depthOf hF hq hO  (by omega)) dX4_degreeBetween_33 jc_X4_89 jmV_X1_depthOf rfl rfl hF.1 rfl rfl (by simp) jfr_nil (Nat.le_of_ble_eq_true rfl) ⟨Nat.le_of_ble_eq_true rfl, Nat.le_of_ble_eq_true rfl⟩ ⟨Nat.le_of_ble_eq_true rfl, Nat.le_of_ble_eq_true rfl⟩ (fun r h4 hp9 => ?_) (fun E h9 q => q.elim)
  obtain ⟨rfl, rfl⟩ := hp9
  have zd := fdep_rg K (flc K p o)
  refine j_imul dX4_degreeBetween_36 ?_
  refine j_isub dX4_degreeBetween_37 ?_
  subst hZ
  exact j_ireturn dX4_degreeBetween_38 rfl rfl (jRet.i rfl) (Nat.le_refl _) (Nat.le_refl _)
set_option maxHeartbeats 4000000 in
/-- FamilyOaks.whyNotMarry -/
theorem x_whyNotMarry {X K E H : fS} {a b : Int → Int} {B : Int} {h : jH} (hX : jOb sX 0 X h) (hF : jOb sF 1 (kRw K a b) h) (hL : jOb sE 8 E h) (hG : jOb sH 11 H h) (hq : kQv K a b) (hI : kI B K) (hE9 : eOz K E) (hH : hHo K H) {p o : Int} (hp : 0 ≤ p ∧ p < K 6 0) (ho : 0 ≤ o ∧ o < K 6 0) : jM mX4_whyNotMarry 5 0 0 [] [.ref 0, iv p, iv o] h (jRet (iv (kWhy K p o).1) h) jno := by
  refine j_method (by decide +kernel) rfl (fun _ _ _ => trivial) (Nat.le_of_ble_eq_true rfl) ?_
  generalize hZ : jZ [] 0 0 _ _ = Z
  show J mX4_whyNotMarry (jR 5 0 0) [] Z 0 [(0, .ref 0), (1, iv p), (2, iv o)] [] h 0 0
  have hO := hI.1
  have hA := hI.2.1
  have hn := hO.n
  have hqn := hO.q
  refine j_aload_n dX4_whyNotMarry_0 rfl rfl ?_
  refine j_getfield (v := .ref 1) dX4_whyNotMarry_1 jf_X4_10 hX.1 rfl ?_
  refine j_iload_n dX4_whyNotMarry_4 rfl rfl ?_
  refine j_callV (k_lives hF hq hO  (by omega)) dX4_whyNotMarry_5 jc_X4_104 jmV_X1_lives rfl rfl hF.1 rfl rfl (by simp) jfr_nil (Nat.le_of_ble_eq_true rfl) ⟨Nat.le_of_ble_eq_true rfl, Nat.le_of_ble_eq_true rfl⟩ ⟨Nat.le_of_ble_eq_true rfl, Nat.le_of_ble_eq_true rfl⟩ (fun r h1 hp9 => ?_) (fun E h9 q => q.elim)
  obtain ⟨rfl, rfl⟩ := hp9
  have zl := hO.l p
  refine j_if_eq (tgt := 22) dX4_whyNotMarry_8 (by decide) (by omega) (fun c2 => ?_) (fun c2 => ?_)
  · refine j_iconst dX4_whyNotMarry_22 ?_
    subst hZ
    exact j_ireturn dX4_whyNotMarry_23 rfl rfl (jRet.i (by unfold kWhy; repeat (first | rw [if_pos (by omega)] | rw [if_neg (by omega)]))) (Nat.le_refl _) (Nat.le_refl _)
  · refine j_aload_n dX4_whyNotMarry_11 rfl rfl ?_
    refine j_getfield (v := .ref 1) dX4_whyNotMarry_12 jf_X4_10 hX.1 rfl ?_
    refine j_iload_n dX4_whyNotMarry_15 rfl rfl ?_
    refine j_callV (k_lives hF hq hO  (by omega)) dX4_whyNotMarry_16 jc_X4_104 jmV_X1_lives rfl rfl hF.1 rfl rfl (by simp) jfr_nil (Nat.le_of_ble_eq_true rfl) ⟨Nat.le_of_ble_eq_true rfl, Nat.le_of_ble_eq_true rfl⟩ ⟨Nat.le_of_ble_eq_true rfl, Nat.le_of_ble_eq_true rfl⟩ (fun r h3 hp9 => ?_) (fun E h9 q => q.elim)
    obtain ⟨rfl, rfl⟩ := hp9
    have zl := hO.l o
    refine j_if_ne (tgt := 24) dX4_whyNotMarry_19 (by decide) (by omega) (fun c4 => ?_) (fun c4 => ?_)
    · refine j_aload_n dX4_whyNotMarry_24 rfl rfl ?_
      refine j_getfield (v := .ref 1) dX4_whyNotMarry_25 jf_X4_10 hX.1 rfl ?_
      refine j_iload_n dX4_whyNotMarry_28 rfl rfl ?_
      refine j_callV (k_spouseOf hF hq hO  (by omega)) dX4_whyNotMarry_29 jc_X4_98 jmV_X1_spouseOf rfl rfl hF.1 rfl rfl (by simp) jfr_nil (Nat.le_of_ble_eq_true rfl) ⟨Nat.le_of_ble_eq_true rfl, Nat.le_of_ble_eq_true rfl⟩ ⟨Nat.le_of_ble_eq_true rfl, Nat.le_of_ble_eq_true rfl⟩ (fun r h5 hp9 => ?_) (fun E h9 q => q.elim)
      obtain ⟨rfl, rfl⟩ := hp9
      have zs := hO.s p
      refine j_iconst dX4_whyNotMarry_32 ?_
      refine j_icmp_ne (tgt := 48) dX4_whyNotMarry_33 (by decide) (by omega) (fun c6 => ?_) (fun c6 => ?_)
      · refine j_bipush dX4_whyNotMarry_48 (by decide +kernel) ?_
        subst hZ
        exact j_ireturn dX4_whyNotMarry_50 rfl rfl (jRet.i (by unfold kWhy; repeat (first | rw [if_pos (by omega)] | rw [if_neg (by omega)]))) (Nat.le_refl _) (Nat.le_refl _)
      · refine j_aload_n dX4_whyNotMarry_36 rfl rfl ?_
        refine j_getfield (v := .ref 1) dX4_whyNotMarry_37 jf_X4_10 hX.1 rfl ?_
        refine j_iload_n dX4_whyNotMarry_40 rfl rfl ?_
        refine j_callV (k_spouseOf hF hq hO  (by omega)) dX4_whyNotMarry_41 jc_X4_98 jmV_X1_spouseOf rfl rfl hF.1 rfl rfl (by simp) jfr_nil (Nat.le_of_ble_eq_true rfl) ⟨Nat.le_of_ble_eq_true rfl, Nat.le_of_ble_eq_true rfl⟩ ⟨Nat.le_of_ble_eq_true rfl, Nat.le_of_ble_eq_true rfl⟩ (fun r h7 hp9 => ?_) (fun E h9 q => q.elim)
        obtain ⟨rfl, rfl⟩ := hp9
        have zs := hO.s o
        refine j_iconst dX4_whyNotMarry_44 ?_
        refine j_icmp_eq (tgt := 51) dX4_whyNotMarry_45 (by decide) (by omega) (fun c8 => ?_) (fun c8 => ?_)
        · refine j_aload_n dX4_whyNotMarry_51 rfl rfl ?_
          refine j_iload_n dX4_whyNotMarry_52 rfl rfl ?_
          refine j_iload_n dX4_whyNotMarry_53 rfl rfl ?_
          refine j_callV (x_isOneOak hX hF hL hG hq hI hE9 hH (p := p) (o := o) (by omega) (by omega)) dX4_whyNotMarry_54 jc_X4_153 jmV_X4_isOneOak rfl rfl hX.1 rfl rfl (by simp) jfr_nil (Nat.le_of_ble_eq_true rfl) ⟨Nat.le_of_ble_eq_true rfl, Nat.le_of_ble_eq_true rfl⟩ ⟨Nat.le_of_ble_eq_true rfl, Nat.le_of_ble_eq_true rfl⟩ (fun r h9 hp9 => ?_) (fun E h9 q => q.elim)
          obtain ⟨rfl, rfl⟩ := hp9
          refine j_if_eq (tgt := 74) dX4_whyNotMarry_57 (by decide) (bi_r32 _) (fun c10 => ?_) (fun c10 => ?_)
          · have qc10 := bi_z c10
            refine j_iconst dX4_whyNotMarry_74 ?_
            refine j_istore_n (L' := [(0, _), (1, _), (2, _), (3, _)]) dX4_whyNotMarry_75 rfl (by decide) rfl ?_
            refine j_iload_n dX4_whyNotMarry_76 rfl rfl ?_
            refine j_if_eq (tgt := 85) dX4_whyNotMarry_77 (by decide) (by omega) (fun c11 => ?_) (fun c11 => absurd (by decide) c11)
            refine j_iconst dX4_whyNotMarry_85 ?_
            subst hZ
            exact j_ireturn dX4_whyNotMarry_86 rfl rfl (jRet.i (by unfold kWhy; repeat (first | rw [if_pos (by omega)] | rw [if_neg (by omega)]))) (Nat.le_refl _) (Nat.le_refl _)
          · have qc10 := bi_nz c10
            refine j_aload_n dX4_whyNotMarry_60 rfl rfl ?_
            refine j_iload_n dX4_whyNotMarry_61 rfl rfl ?_
            refine j_iload_n dX4_whyNotMarry_62 rfl rfl ?_
            refine j_callV (x_degreeBetween hX hF hL hG hq hI hE9 hH (p := p) (o := o) (by omega) (by omega) (by omega)) dX4_whyNotMarry_63 jc_X4_144 jmV_X4_degreeBetween rfl rfl hX.1 rfl rfl (by simp) jfr_nil (Nat.le_of_ble_eq_true rfl) ⟨Nat.le_of_ble_eq_true rfl, Nat.le_of_ble_eq_true rfl⟩ ⟨Nat.le_of_ble_eq_true rfl, Nat.le_of_ble_eq_true rfl⟩ (fun r h12 hp9 => ?_) (fun E h9 q => q.elim)
            obtain ⟨rfl, rfl⟩ := hp9
            have za := faw_rg K p o
            refine j_iconst dX4_whyNotMarry_66 ?_
            refine j_icmp_ge (tgt := 74) dX4_whyNotMarry_67 (by decide) (by omega) (fun c13 => ?_) (fun c13 => ?_)
            · refine j_iconst dX4_whyNotMarry_74 ?_
              refine j_istore_n (L' := [(0, _), (1, _), (2, _), (3, _)]) dX4_whyNotMarry_75 rfl (by decide) rfl ?_
              refine j_iload_n dX4_whyNotMarry_76 rfl rfl ?_
              refine j_if_eq (tgt := 85) dX4_whyNotMarry_77 (by decide) (by omega) (fun c14 => ?_) (fun c14 => absurd (by decide) c14)
              refine j_iconst dX4_whyNotMarry_85 ?_
              subst hZ
              exact j_ireturn dX4_whyNotMarry_86 rfl rfl (jRet.i (by unfold kWhy; repeat (first | rw [if_pos (by omega)] | rw [if_neg (by omega)]))) (Nat.le_refl _) (Nat.le_refl _)
            · refine j_iconst dX4_whyNotMarry_70 ?_
              refine j_goto (tgt := 75) dX4_whyNotMarry_71 (by decide) ?_
              refine j_istore_n (L' := [(0, _), (1, _), (2, _), (3, _)]) dX4_whyNotMarry_75 rfl (by decide) rfl ?_
              refine j_iload_n dX4_whyNotMarry_76 rfl rfl ?_
              refine j_if_eq (tgt := 85) dX4_whyNotMarry_77 (by decide) (by omega) (fun c15 => absurd c15 (by decide)) (fun c15 => ?_)
              refine j_bipush dX4_whyNotMarry_80 (by decide +kernel) ?_
              refine j_goto (tgt := 86) dX4_whyNotMarry_82 (by decide) ?_
              subst hZ
              exact j_ireturn dX4_whyNotMarry_86 rfl rfl (jRet.i (by unfold kWhy; repeat (first | rw [if_pos (by omega)] | rw [if_neg (by omega)]))) (Nat.le_refl _) (Nat.le_refl _)
        · refine j_bipush dX4_whyNotMarry_48 (by decide +kernel) ?_
          subst hZ
          exact j_ireturn dX4_whyNotMarry_50 rfl rfl (jRet.i (by unfold kWhy; repeat (first | rw [if_pos (by omega)] | rw [if_neg (by omega)]))) (Nat.le_refl _) (Nat.le_refl _)
    · refine j_iconst dX4_whyNotMarry_22 ?_
      subst hZ
      exact j_ireturn dX4_whyNotMarry_23 rfl rfl (jRet.i (by unfold kWhy; repeat (first | rw [if_pos (by omega)] | rw [if_neg (by omega)]))) (Nat.le_refl _) (Nat.le_refl _)
set_option maxHeartbeats 4000000 in
/-- FamilyOaks.firstDead -/
theorem x_firstDead {X K E H : fS} {a b : Int → Int} {B : Int} {h : jH} (hX : jOb sX 0 X h) (hF : jOb sF 1 (kRw K a b) h) (hL : jOb sE 8 E h) (hG : jOb sH 11 H h) (hq : kQv K a b) (hI : kI B K) (hE9 : eOz K E) (hH : hHo K H) {p o : Int} (hp : 0 ≤ p ∧ p < K 6 0) (ho : 0 ≤ o ∧ o < K 6 0) : jM mX4_firstDead 1 0 0 [] [.ref 0, iv p, iv o] h (jRet (iv (if K 3 p = 0 then p else o)) h) jno := by
  refine j_method (by decide +kernel) rfl (fun _ _ _ => trivial) (Nat.le_of_ble_eq_true rfl) ?_
  generalize hZ : jZ [] 0 0 _ _ = Z
  show J mX4_firstDead (jR 1 0 0) [] Z 0 [(0, .ref 0), (1, iv p), (2, iv o)] [] h 0 0
  have hO := hI.1
  have hA := hI.2.1
  have hn := hO.n
  have hqn := hO.q
  refine j_aload_n dX4_firstDead_0 rfl rfl ?_
  refine j_getfield (v := .ref 1) dX4_firstDead_1 jf_X4_10 hX.1 rfl ?_
  refine j_iload_n dX4_firstDead_4 rfl rfl ?_
  refine j_callV (k_lives hF hq hO  (by omega)) dX4_firstDead_5 jc_X4_104 jmV_X1_lives rfl rfl hF.1 rfl rfl (by simp) jfr_nil (Nat.le_of_ble_eq_true rfl) ⟨Nat.le_of_ble_eq_true rfl, Nat.le_of_ble_eq_true rfl⟩ ⟨Nat.le_of_ble_eq_true rfl, Nat.le_of_ble_eq_true rfl⟩ (fun r h1 hp9 => ?_) (fun E h9 q => q.elim)
  obtain ⟨rfl, rfl⟩ := hp9
  have zl := hO.l p
  refine j_if_eq (tgt := 15) dX4_firstDead_8 (by decide) (by omega) (fun c2 => ?_) (fun c2 => ?_)
  · refine j_iload_n dX4_firstDead_15 rfl rfl ?_
    subst hZ
    exact j_ireturn dX4_firstDead_16 rfl rfl (jRet.i (by first | (rw [if_pos (by omega)]) | (rw [if_neg (by omega)]))) (Nat.le_refl _) (Nat.le_refl _)
  · refine j_iload_n dX4_firstDead_11 rfl rfl ?_
    refine j_goto (tgt := 16) dX4_firstDead_12 (by decide) ?_
    subst hZ
    exact j_ireturn dX4_firstDead_16 rfl rfl (jRet.i (by first | (rw [if_pos (by omega)]) | (rw [if_neg (by omega)]))) (Nat.le_refl _) (Nat.le_refl _)
set_option maxHeartbeats 4000000 in
/-- FamilyOaks.firstSpouse -/
theorem x_firstSpouse {X K E H : fS} {a b : Int → Int} {B : Int} {h : jH} (hX : jOb sX 0 X h) (hF : jOb sF 1 (kRw K a b) h) (hL : jOb sE 8 E h) (hG : jOb sH 11 H h) (hq : kQv K a b) (hI : kI B K) (hE9 : eOz K E) (hH : hHo K H) {p o : Int} (hp : 0 ≤ p ∧ p < K 6 0) (ho : 0 ≤ o ∧ o < K 6 0) : jM mX4_firstSpouse 1 0 0 [] [.ref 0, iv p, iv o] h (jRet (iv (if K 1 p = -1 then K 1 o else K 1 p)) h) jno := by
  refine j_method (by decide +kernel) rfl (fun _ _ _ => trivial) (Nat.le_of_ble_eq_true rfl) ?_
  generalize hZ : jZ [] 0 0 _ _ = Z
  show J mX4_firstSpouse (jR 1 0 0) [] Z 0 [(0, .ref 0), (1, iv p), (2, iv o)] [] h 0 0
  have hO := hI.1
  have hA := hI.2.1
  have hn := hO.n
  have hqn := hO.q
  refine j_aload_n dX4_firstSpouse_0 rfl rfl ?_
  refine j_getfield (v := .ref 1) dX4_firstSpouse_1 jf_X4_10 hX.1 rfl ?_
  refine j_iload_n dX4_firstSpouse_4 rfl rfl ?_
  refine j_callV (k_spouseOf hF hq hO  (by omega)) dX4_firstSpouse_5 jc_X4_98 jmV_X1_spouseOf rfl rfl hF.1 rfl rfl (by simp) jfr_nil (Nat.le_of_ble_eq_true rfl) ⟨Nat.le_of_ble_eq_true rfl, Nat.le_of_ble_eq_true rfl⟩ ⟨Nat.le_of_ble_eq_true rfl, Nat.le_of_ble_eq_true rfl⟩ (fun r h1 hp9 => ?_) (fun E h9 q => q.elim)
  obtain ⟨rfl, rfl⟩ := hp9
  have zs := hO.s p
  refine j_iconst dX4_firstSpouse_8 ?_
  refine j_icmp_eq (tgt := 23) dX4_firstSpouse_9 (by decide) (by omega) (fun c2 => ?_) (fun c2 => ?_)
  · refine j_aload_n dX4_firstSpouse_23 rfl rfl ?_
    refine j_getfield (v := .ref 1) dX4_firstSpouse_24 jf_X4_10 hX.1 rfl ?_
    refine j_iload_n dX4_firstSpouse_27 rfl rfl ?_
    refine j_callV (k_spouseOf hF hq hO  (by omega)) dX4_firstSpouse_28 jc_X4_98 jmV_X1_spouseOf rfl rfl hF.1 rfl rfl (by simp) jfr_nil (Nat.le_of_ble_eq_true rfl) ⟨Nat.le_of_ble_eq_true rfl, Nat.le_of_ble_eq_true rfl⟩ ⟨Nat.le_of_ble_eq_true rfl, Nat.le_of_ble_eq_true rfl⟩ (fun r h3 hp9 => ?_) (fun E h9 q => q.elim)
    obtain ⟨rfl, rfl⟩ := hp9
    have zs := hO.s o
    subst hZ
    exact j_ireturn dX4_firstSpouse_31 rfl rfl (jRet.i (by first | (rw [if_pos (by omega)]) | (rw [if_neg (by omega)]))) (Nat.le_refl _) (Nat.le_refl _)
  · refine j_aload_n dX4_firstSpouse_12 rfl rfl ?_
    refine j_getfield (v := .ref 1) dX4_firstSpouse_13 jf_X4_10 hX.1 rfl ?_
    refine j_iload_n dX4_firstSpouse_16 rfl rfl ?_
    refine j_callV (k_spouseOf hF hq hO  (by omega)) dX4_firstSpouse_17 jc_X4_98 jmV_X1_spouseOf rfl rfl hF.1 rfl rfl (by simp) jfr_nil (Nat.le_of_ble_eq_true rfl) ⟨Nat.le_of_ble_eq_true rfl, Nat.le_of_ble_eq_true rfl⟩ ⟨Nat.le_of_ble_eq_true rfl, Nat.le_of_ble_eq_true rfl⟩ (fun r h4 hp9 => ?_) (fun E h9 q => q.elim)
    obtain ⟨rfl, rfl⟩ := hp9
    have zs := hO.s p
    refine j_goto (tgt := 31) dX4_firstSpouse_20 (by decide) ?_
    subst hZ
    exact j_ireturn dX4_firstSpouse_31 rfl rfl (jRet.i (by first | (rw [if_pos (by omega)]) | (rw [if_neg (by omega)]))) (Nat.le_refl _) (Nat.le_refl _)
set_option maxHeartbeats 4000000 in
/-- FamilyOaks.refuse -/
theorem x_refuse {X : fS} {h : jH} (hX : jOb sX 0 X h) {w d : Int} : jM mX4_refuse 0 0 0 [] [.ref 0, iv w, iv d] h (jWi sX 0 (-4, gn (gn X 11 w) 12 d) h) jno := by
  refine j_method (by decide +kernel) rfl (fun _ _ _ => trivial) (Nat.le_of_ble_eq_true rfl) ?_
  generalize hZ : jZ [] 0 0 _ _ = Z
  show J mX4_refuse (jR 0 0 0) [] Z 0 [(0, .ref 0), (1, iv w), (2, iv d)] [] h 0 0
  have hE0 : jEx 0 1 h h := jEx.rf
  refine j_aload_n dX4_refuse_0 rfl rfl ?_
  refine j_iload_n dX4_refuse_1 rfl rfl ?_
  refine jo_put (S := sX) dX4_refuse_2 jf_X4_65 (fun q hq => by cases hq; exact ⟨rfl, rfl⟩) (jHold_int _) okX hX rfl (fun h1 hG1 hX1 => ?_)
  have hE2 := hE0.tr hX1
  refine j_aload_n dX4_refuse_5 rfl rfl ?_
  refine j_iload_n dX4_refuse_6 rfl rfl ?_
  refine jo_put (S := sX) dX4_refuse_7 jf_X4_68 (fun q hq => by cases hq; exact ⟨rfl, rfl⟩) (jHold_int _) okX hG1 rfl (fun h3 hG3 hX3 => ?_)
  have hE4 := hE2.tr hX3
  refine j_bipush dX4_refuse_10 (by decide +kernel) ?_
  subst hZ
  exact j_ireturn dX4_refuse_12 rfl rfl (jWi.i rfl hG3 hE4) (Nat.le_refl _) (Nat.le_refl _)
set_option maxHeartbeats 4000000 in
/-- FamilyOaks.renew -/
theorem x_renew {X K E H : fS} {a b : Int → Int} {B : Int} {h : jH} (hX : jOb sX 0 X h) (hF : jOb sF 1 (kRw K a b) h) (hL : jOb sE 8 E h) (hG : jOb sH 11 H h) (hq : kQv K a b) (hO : jOk B K)  : jM mX4_renew 4 0 0 [] [.ref 0] h (fun r h' => r = none ∧ ∃ E' H', jOb sE 8 E' h' ∧ jOb sH 11 H' h' ∧ eOz K E' ∧ hHo K H' ∧ jEx 8 6 h h') jno := by
  refine j_method (by decide +kernel) rfl (fun _ _ _ => trivial) (Nat.le_of_ble_eq_true rfl) ?_
  generalize hZ : jZ [] 0 0 _ _ = Z
  show J mX4_renew (jR 4 0 0) [] Z 0 [(0, .ref 0)] [] h 0 0
  have hE0 : jEx 8 6 h h := jEx.rf
  refine j_aload_n dX4_renew_0 rfl rfl ?_
  refine j_getfield (v := .ref 8) dX4_renew_1 jf_X4_37 hX.1 rfl ?_
  refine j_aload_n dX4_renew_4 rfl rfl ?_
  refine j_getfield (v := .ref 1) dX4_renew_5 jf_X4_10 hX.1 rfl ?_
  refine j_callV (c0_renew hL (kf := 1) (by decide) hF (hO.rw hq)) dX4_renew_8 jc_X4_339 jmV_X0_renew rfl rfl hL.1 rfl rfl (by simp) jfr_nil (Nat.le_of_ble_eq_true rfl) ⟨Nat.le_of_ble_eq_true rfl, Nat.le_of_ble_eq_true rfl⟩ ⟨Nat.le_of_ble_eq_true rfl, Nat.le_of_ble_eq_true rfl⟩ (fun r h1 hp9 => ?_) (fun E h9 q => q.elim)
  obtain ⟨rfl, E5, hG2, hE94, hX3⟩ := hp9
  have hG6 := hX.ex okX hX3 (by show 0 + 1 ≤ 8 ∨ 8 + 3 ≤ 0; decide)
  have hG7 := hF.ex okF hX3 (by show 1 + 7 ≤ 8 ∨ 8 + 3 ≤ 1; decide)
  have hG8 := hG.ex okH hX3 (by show 11 + 3 ≤ 8 ∨ 8 + 3 ≤ 11; decide)
  have hE9 : jEx 8 6 h h1 := hE0.tr (hX3.mo (by decide))
  refine j_aload_n dX4_renew_11 rfl rfl ?_
  refine j_getfield (v := .ref 11) dX4_renew_12 jf_X4_44 hG6.1 rfl ?_
  refine j_aload_n dX4_renew_15 rfl rfl ?_
  refine j_getfield (v := .ref 1) dX4_renew_16 jf_X4_10 hG6.1 rfl ?_
  refine j_callV (c2_renew hG8 (kf := 1) (by decide) hG7 (hO.rw hq)) dX4_renew_19 jc_X4_341 jmV_X2_renew rfl rfl hG8.1 rfl rfl (by simp) jfr_nil (Nat.le_of_ble_eq_true rfl) ⟨Nat.le_of_ble_eq_true rfl, Nat.le_of_ble_eq_true rfl⟩ ⟨Nat.le_of_ble_eq_true rfl, Nat.le_of_ble_eq_true rfl⟩ (fun r h10 hp9 => ?_) (fun E h9 q => q.elim)
  obtain ⟨rfl, H14, hG11, hH13, hX12⟩ := hp9
  have hG15 := hG6.ex okX hX12 (by show 0 + 1 ≤ 11 ∨ 11 + 3 ≤ 0; decide)
  have hG16 := hG7.ex okF hX12 (by show 1 + 7 ≤ 11 ∨ 11 + 3 ≤ 1; decide)
  have hG17 := hG2.ex okE hX12 (by show 8 + 3 ≤ 11 ∨ 11 + 3 ≤ 8; decide)
  have hE18 : jEx 8 6 h h10 := hE9.tr (hX12.mo (by decide))
  subst hZ
  exact j_return dX4_renew_22 rfl ⟨rfl, _, _, hG17, hG11, fun _ => hE94, hH13, hE18⟩ (Nat.le_refl _) (Nat.le_refl _)
theorem jOk.rw2 {B : Int} {K : fS} {m : Int} {a b : Int → Int} (h : jOk B K) (hm : 0 ≤ m ∧ m ≤ K 7 0) (hab : ∀ q, 0 ≤ q → q < m → (0 ≤ a q ∧ a q < K 6 0) ∧ (0 ≤ b q ∧ b q < K 6 0)) : jOk B (kRw (gn K 7 m) a b) := by
  obtain ⟨a1, a2, a3, a4, a5, a6, a7, a8, a9, a10, a11, a12⟩ := h
  exact ⟨a1, ⟨by show 0 ≤ m; omega, by show m ≤ 20; omega⟩, a3, a4, a5, a6, a7, fun i h0 h1 => hab i h0 h1, a9, a10, a11, a12⟩
theorem qSt_rg {B : Int} {K : fS} {i m : Int} {a b : Int → Int} (hO : jOk B K) (h : qSt K i m a b) (hi : 0 ≤ i ∧ i ≤ K 7 0) : (i ≤ m ∧ m ≤ K 7 0) ∧ ∀ q, 0 ≤ q → q < m → (0 ≤ a q ∧ a q < K 6 0) ∧ (0 ≤ b q ∧ b q < K 6 0) := by
  obtain ⟨h1, h2, h3⟩ := h
  have hl := List.length_filter_le (hne (fho K)) (qL (K 4) (K 5) (K 7 0 - i).toNat i)
  rw [qL_len] at hl
  have hl2 : (qF K i).length ≤ (K 7 0 - i).toNat := hl
  refine ⟨⟨by omega, by omega⟩, fun q q0 q1 => ?_⟩
  by_cases hqi : q < i
  · rw [(h2 q q0 hqi).1, (h2 q q0 hqi).2]
    exact hO.qq q q0 (by omega)
  · have hz : (qF K i)[(q - i).toNat]? = some (qF K i)[(q - i).toNat] := List.getElem?_eq_getElem (by omega)
    have e := h3 _ _ hz
    rw [show i + ((q - i).toNat : Int) = q by omega] at e
    rw [e.1, e.2]
    obtain ⟨j, j0, j1, j2⟩ := qL_mem _ _ (List.mem_filter.mp (List.mem_of_getElem? hz)).1
    rw [j2]
    exact hO.qq j (by omega) (by omega)
theorem kRw_m7 {k : Nat} {K : fS} {a b : Int → Int} {h : jH} (hF : jOb sF k (kRw K a b) h) : jOb sF k (kRw (gn K 7 (K 7 0)) a b) h := by
  rw [kRw_n7]
  refine hF.eqv (fun i => ?_) fun i p t n hi => ?_
  · by_cases h7 : i = 7
    · subst h7; rfl
    · exact congrFun (gs_n h7) 0
  · by_cases h7 : i = 7
    · subst h7; cases hi
    · exact gs_n h7
set_option maxHeartbeats 4000000 in
/-- FamilyOaks.endQuarrelsAtHome -/
theorem x_endQuarrelsAtHome {X K H : fS} {a b : Int → Int} {B : Int} {h : jH} (hX : jOb sX 0 X h) (hF : jOb sF 1 (kRw K a b) h) (hG : jOb sH 11 H h) (hq : kQv K a b) (hO : jOk B K) (hH : hHo K H)  : jM mX4_endQuarrelsAtHome 3 0 0 [] [.ref 0] h (fun r h' => r = some (iv (K 7 0 - ((kfl K).length : Int))) ∧ (∃ a' b', jOb sF 1 (kRw (kEnd K) a' b') h' ∧ kQv (kEnd K) a' b') ∧ jEx 1 7 h h') jno := by
  refine j_method (by decide +kernel) rfl (fun _ _ _ => trivial) (Nat.le_of_ble_eq_true rfl) ?_
  generalize hZ : jZ [] 0 0 _ _ = Z
  show J mX4_endQuarrelsAtHome (jR 3 0 0) [] Z 0 [(0, .ref 0)] [] h 0 0
  have hn := hO.n
  have hqn := hO.q
  have hE0 : jEx 1 7 h h := jEx.rf
  refine j_iconst dX4_endQuarrelsAtHome_0 ?_
  refine j_istore_n (L' := [(0, _), (1, _)]) dX4_endQuarrelsAtHome_1 rfl (by decide) rfl ?_
  refine j_aload_n dX4_endQuarrelsAtHome_2 rfl rfl ?_
  refine j_getfield (v := .ref 1) dX4_endQuarrelsAtHome_3 jf_X4_10 hX.1 rfl ?_
  refine j_getfield (v := iv (K 7 0)) dX4_endQuarrelsAtHome_6 jf_X4_165 hF.1 rfl ?_
  refine j_iconst dX4_endQuarrelsAtHome_9 ?_
  refine j_isub dX4_endQuarrelsAtHome_10 ?_
  refine j_istore_n (L' := [(0, _), (1, _), (2, _)]) dX4_endQuarrelsAtHome_11 rfl (by decide) rfl ?_
  have hGr := kRw_m7 hF
  refine jloop (P := fun z9 : Int × Int × (Int → Int) × (Int → Int) × Int => ∀ h1 : jH, jOb sF 1 (kRw (gn K 7 z9.2.1) z9.2.2.1 z9.2.2.2.1) h1 → jOb sX 0 X h1 → jOb sH 11 H h1 → jEx 1 7 h h1 → J mX4_endQuarrelsAtHome (jR 3 0 0) [] Z 12 [(0, .ref 0), (1, iv z9.2.2.2.2), (2, iv z9.1)] [] h1 0 0) (fun z9 => -1 ≤ z9.1 ∧ z9.1 < K 7 0 ∧ z9.2.2.2.2 = K 7 0 - z9.2.1 ∧ qSt K (z9.1 + 1) z9.2.1 z9.2.2.1 z9.2.2.2.1) (fun z9 => (z9.1 + 1).toNat) ?_ (K 7 0 - 1, K 7 0, a, b, 0) ?_ _ hGr hX hG hE0
  · rintro ⟨i, m, a1, b1, c⟩ hinv ih
    dsimp only at hinv ih ⊢
    intro h2 hG3 hG4 hG5 hE6
    obtain ⟨i1, i2, i5, i6⟩ := hinv
    obtain ⟨hmi, hab⟩ := qSt_rg hO i6 (by omega)
    refine j_iload_n dX4_endQuarrelsAtHome_12 rfl rfl ?_
    refine j_if_lt (tgt := 59) dX4_endQuarrelsAtHome_13 (by decide) (by omega) (fun c7 => ?_) (fun c7 => ?_)
    · refine j_aload_n dX4_endQuarrelsAtHome_59 rfl rfl ?_
      refine j_getfield (v := .ref 1) dX4_endQuarrelsAtHome_60 jf_X4_10 hG4.1 rfl ?_
      refine j_dup dX4_endQuarrelsAtHome_63 rfl ?_
      refine j_getfield (v := iv (K 8 0)) dX4_endQuarrelsAtHome_64 jf_X4_274 hG3.1 rfl ?_
      refine j_iload_n dX4_endQuarrelsAtHome_67 rfl rfl ?_
      refine j_iadd dX4_endQuarrelsAtHome_68 ?_
      refine jo_put (S := sF) dX4_endQuarrelsAtHome_69 jf_X4_274 (fun q hq => by cases hq; exact ⟨rfl, rfl⟩) (jHold_int _) okF hG3 rfl (fun h8 hG8 hX8 => ?_)
      have hG9 := hG4.ex okX hX8 (by show 0 + 1 ≤ 1 ∨ 1 + 7 ≤ 0; decide)
      have hG10 := hG5.ex okH hX8 (by show 11 + 3 ≤ 1 ∨ 1 + 7 ≤ 11; decide)
      have hE11 := hE6.tr hX8
      refine j_iload_n dX4_endQuarrelsAtHome_72 rfl rfl ?_
      subst hZ
      exact j_ireturn dX4_endQuarrelsAtHome_73 rfl rfl (by
            have i7 : qSt K 0 m a1 b1 := by rw [show i + 1 = 0 by omega] at i6; exact i6
            obtain ⟨hm, hkq⟩ := qSt_end i7
            refine ⟨by rw [i5, hm], ⟨a1, b1, ?_, hkq⟩, hE11⟩
            rw [← kEnd_rw (m := m) (e := c) hm (by omega)]
            exact hG8) (Nat.le_refl _) (Nat.le_refl _)
    · refine j_aload_n dX4_endQuarrelsAtHome_16 rfl rfl ?_
      refine j_getfield (v := .ref 11) dX4_endQuarrelsAtHome_17 jf_X4_44 hG4.1 rfl ?_
      refine j_aload_n dX4_endQuarrelsAtHome_20 rfl rfl ?_
      refine j_getfield (v := .ref 1) dX4_endQuarrelsAtHome_21 jf_X4_10 hG4.1 rfl ?_
      refine j_iload_n dX4_endQuarrelsAtHome_24 rfl rfl ?_
      refine j_callV (c_quarrelerAt hG3.fam (hO.rw2 (by omega) hab) (p := i) (by omega)) dX4_endQuarrelsAtHome_25 jc_X4_171 jmV_X1_quarrelerAt rfl rfl hG3.1 rfl rfl (by simp) jfr_nil (Nat.le_of_ble_eq_true rfl) ⟨Nat.le_of_ble_eq_true rfl, Nat.le_of_ble_eq_true rfl⟩ ⟨Nat.le_of_ble_eq_true rfl, Nat.le_of_ble_eq_true rfl⟩ (fun r h12 hp9 => ?_) (fun E h9 q => q.elim)
      obtain ⟨rfl, rfl⟩ := hp9
      rw [show fqa (kRw (gn K 7 m) a1 b1) i = K 4 i from (if_pos (show 0 ≤ i ∧ i < m by omega)).trans (i6.2.1 i (by omega) (by omega)).1]
      refine j_aload_n dX4_endQuarrelsAtHome_28 rfl rfl ?_
      refine j_getfield (v := .ref 1) dX4_endQuarrelsAtHome_29 jf_X4_10 hG4.1 rfl ?_
      refine j_iload_n dX4_endQuarrelsAtHome_32 rfl rfl ?_
      refine j_callV (c_rivalAt hG3.fam (hO.rw2 (by omega) hab) (p := i) (by omega)) dX4_endQuarrelsAtHome_33 jc_X4_168 jmV_X1_rivalAt rfl rfl hG3.1 rfl rfl (by simp) jfr_nil (Nat.le_of_ble_eq_true rfl) ⟨Nat.le_of_ble_eq_true rfl, Nat.le_of_ble_eq_true rfl⟩ ⟨Nat.le_of_ble_eq_true rfl, Nat.le_of_ble_eq_true rfl⟩ (fun r h13 hp9 => ?_) (fun E h9 q => q.elim)
      obtain ⟨rfl, rfl⟩ := hp9
      rw [show fqb (kRw (gn K 7 m) a1 b1) i = K 5 i from (if_pos (show 0 ≤ i ∧ i < m by omega)).trans (i6.2.1 i (by omega) (by omega)).2]
      have zq := hO.qq i (by omega) (by omega)
      refine j_callV (c2_isOneHouse hG5 hO hH (p := K 4 i) (o := K 5 i) (by omega) (by omega)) dX4_endQuarrelsAtHome_36 jc_X4_392 jmV_X2_isOneHouse rfl rfl hG5.1 rfl rfl (by simp) jfr_nil (Nat.le_of_ble_eq_true rfl) ⟨Nat.le_of_ble_eq_true rfl, Nat.le_of_ble_eq_true rfl⟩ ⟨Nat.le_of_ble_eq_true rfl, Nat.le_of_ble_eq_true rfl⟩ (fun r h14 hp9 => ?_) (fun E h9 q => q.elim)
      obtain ⟨rfl, rfl⟩ := hp9
      refine j_if_eq (tgt := 53) dX4_endQuarrelsAtHome_39 (by decide) (bi_r32 _) (fun c15 => ?_) (fun c15 => ?_)
      · have qc15 := bi_z c15
        refine j_iinc (L' := [(0, _), (1, _), (2, _)]) dX4_endQuarrelsAtHome_53 rfl (by decide) rfl ?_
        refine j_goto (tgt := 12) dX4_endQuarrelsAtHome_56 (by decide) ?_
        have qc := bi_z c15
        exact ih (i - 1, m, a1, b1, c) ⟨by show -1 ≤ i - 1; omega, by show i - 1 < K 7 0; omega, i5, by show qSt K (i - 1 + 1) _ _ _; rw [show i - 1 + 1 = i by omega]; exact qSt_f i6 (by omega) (by omega) qc⟩ (by show (i - 1 + 1).toNat < (i + 1).toNat; omega) _ hG3 hG4 hG5 hE6
      · have qc15 := bi_nz c15
        refine j_aload_n dX4_endQuarrelsAtHome_42 rfl rfl ?_
        refine j_getfield (v := .ref 1) dX4_endQuarrelsAtHome_43 jf_X4_10 hG4.1 rfl ?_
        refine j_iload_n dX4_endQuarrelsAtHome_46 rfl rfl ?_
        refine j_callV (c1_removeQuarrel hG3 (hO.rw2 (by omega) hab) (q := i) (by show 0 ≤ i ∧ i < m; omega)) dX4_endQuarrelsAtHome_47 jc_X4_410 jmV_X1_removeQuarrel rfl rfl hG3.1 rfl rfl (by simp) jfr_nil (Nat.le_of_ble_eq_true rfl) ⟨Nat.le_of_ble_eq_true rfl, Nat.le_of_ble_eq_true rfl⟩ ⟨Nat.le_of_ble_eq_true rfl, Nat.le_of_ble_eq_true rfl⟩ (fun r h16 hp9 => ?_) (fun E h9 q => q.elim)
        obtain ⟨rfl, hG17, hX18⟩ := hp9
        have hG19 := hG4.ex okX hX18 (by show 0 + 1 ≤ 1 ∨ 1 + 7 ≤ 0; decide)
        have hG20 := hG5.ex okH hX18 (by show 11 + 3 ≤ 1 ∨ 1 + 7 ≤ 11; decide)
        have hE21 := hE6.tr hX18
        have hG22 : jOb sF 1 (kRw (gn K 7 (m - 1)) (shf a1 i m) (shf b1 i m)) h16 := Eq.mp (congrArg (fun z => jOb sF 1 z _) k_rem) hG17
        refine j_iinc (L' := [(0, _), (1, _), (2, _)]) dX4_endQuarrelsAtHome_50 rfl (by decide) rfl ?_
        refine j_iinc (L' := [(0, _), (1, _), (2, _)]) dX4_endQuarrelsAtHome_53 rfl (by decide) rfl ?_
        refine j_goto (tgt := 12) dX4_endQuarrelsAtHome_56 (by decide) ?_
        have qc := bi_nz c15
        exact ih (i - 1, m - 1, shf a1 i m, shf b1 i m, c + 1) ⟨by show -1 ≤ i - 1; omega, by show i - 1 < K 7 0; omega, by show c + 1 = K 7 0 - (m - 1); omega, by show qSt K (i - 1 + 1) _ _ _; rw [show i - 1 + 1 = i by omega]; exact qSt_t i6 (by omega) (by omega) qc⟩ (by show (i - 1 + 1).toNat < (i + 1).toNat; omega) _ hG22 hG19 hG20 hE21
  · dsimp only
    exact ⟨by omega, by omega, by omega, by show qSt K (K 7 0 - 1 + 1) _ _ _; rw [show K 7 0 - 1 + 1 = K 7 0 by omega]; exact qSt_0 hq⟩
theorem kOaks_p (K : fS) : 0 ≤ kOaks K := (csum_bi (P := fun c => K 0 c = -1) _).1
theorem eOz.end {K E : fS} (h : eOz K E) : eOz (kEnd K) E := h
theorem hHo.end {K H : fS} (h : hHo K H) : hHo (kEnd K) H := h
set_option maxHeartbeats 4000000 in
/-- FamilyOaks.tryFound -/
theorem x_tryFound {X K : fS} {B : Int} {h : jH} (hS : xS X K h) (hI : kI B K) (hB : B + 1000 ≤ 20000000)  : jM mX4_tryFound 6 0 0 [] [.ref 0] h (xTr X (kFound K) h) jno := by
  refine j_method (by decide +kernel) rfl (fun _ _ _ => trivial) (Nat.le_of_ble_eq_true rfl) ?_
  generalize hZ : jZ [] 0 0 _ _ = Z
  show J mX4_tryFound (jR 6 0 0) [] Z 0 [(0, .ref 0)] [] h 0 0
  obtain ⟨a, b, E, H, hX, hF, hL, hG, hq, hE9, hH⟩ := hS
  have hO := hI.1
  have hA := hI.2.1
  have hn := hO.n
  have hqn := hO.q
  have hE0 : jEx 0 14 h h := jEx.rf
  refine j_aload_n dX4_tryFound_0 rfl rfl ?_
  refine j_getfield (v := .ref 1) dX4_tryFound_1 jf_X4_10 hX.1 rfl ?_
  refine j_getfield (v := iv (K 6 0)) dX4_tryFound_4 jf_X4_150 hF.1 rfl ?_
  refine j_bipush dX4_tryFound_7 (by decide +kernel) ?_
  refine j_icmp_lt (tgt := 20) dX4_tryFound_9 (by decide) (by omega) (fun c1 => ?_) (fun c1 => ?_)
  · refine j_aload_n dX4_tryFound_20 rfl rfl ?_
    refine j_getfield (v := .ref 1) dX4_tryFound_21 jf_X4_10 hX.1 rfl ?_
    refine j_iconst dX4_tryFound_24 ?_
    refine j_callV (k_add hF hq hO (v := (-1)) (by omega)) dX4_tryFound_25 jc_X4_372 jmV_X1_add rfl rfl hF.1 rfl rfl (by simp) jfr_nil (Nat.le_of_ble_eq_true rfl) ⟨Nat.le_of_ble_eq_true rfl, Nat.le_of_ble_eq_true rfl⟩ ⟨Nat.le_of_ble_eq_true rfl, Nat.le_of_ble_eq_true rfl⟩ (fun r h2 hp9 => ?_) (fun E h9 q => q.elim)
    obtain ⟨rfl, hG3, hX4⟩ := hp9
    have hG5 := hX.ex okX hX4 (by show 0 + 1 ≤ 1 ∨ 1 + 7 ≤ 0; decide)
    have hG6 := hL.ex okE hX4 (by show 8 + 3 ≤ 1 ∨ 1 + 7 ≤ 8; decide)
    have hG7 := hG.ex okH hX4 (by show 11 + 3 ≤ 1 ∨ 1 + 7 ≤ 11; decide)
    have hE8 : jEx 0 14 h h2 := hE0.tr (hX4.mo (by decide))
    have hI2 := kI_add hI (v := -1) (by omega) (by omega)
    have hO2 := hI2.1
    have hA2 := hI2.2.1
    refine j_aload_n dX4_tryFound_28 rfl rfl ?_
    refine j_callV (x_renew hG5 hG3 hG6 hG7 hq hO2) dX4_tryFound_29 jc_X4_336 jmV_X4_renew rfl rfl hG5.1 rfl rfl (by simp) jfr_nil (Nat.le_of_ble_eq_true rfl) ⟨Nat.le_of_ble_eq_true rfl, Nat.le_of_ble_eq_true rfl⟩ ⟨Nat.le_of_ble_eq_true rfl, Nat.le_of_ble_eq_true rfl⟩ (fun r h9 hp9 => ?_) (fun E h9 q => q.elim)
    obtain ⟨rfl, E15, H16, hG10, hG11, hE913, hH14, hX12⟩ := hp9
    have hG17 := hG5.ex okX hX12 (by show 0 + 1 ≤ 8 ∨ 8 + 6 ≤ 0; omega)
    have hG18 := hG3.ex okF hX12 (by show 1 + 7 ≤ 8 ∨ 8 + 6 ≤ 1; omega)
    have hE19 : jEx 0 14 h h9 := hE8.tr (hX12.mo (by decide))
    refine j_aload_n dX4_tryFound_32 rfl rfl ?_
    refine j_getfield (v := .ref 1) dX4_tryFound_33 jf_X4_10 hG17.1 rfl ?_
    refine j_getfield (v := iv (K 6 0 + 1)) dX4_tryFound_36 jf_X4_150 hG18.1 rfl ?_
    refine j_iconst dX4_tryFound_39 ?_
    refine j_isub dX4_tryFound_40 ?_
    subst hZ
    exact j_ireturn dX4_tryFound_41 rfl rfl (xTr.ok (by unfold kFound; first | rw [if_pos (by omega)] | (rw [if_neg (by omega)]; show _ = ((K 6 0 + 1) - 1, 0, 0, _); rw [show K 6 0 + 1 - 1 = K 6 0 by omega])) (by omega) ⟨a, b, _, _, hG17, hG18, hG10, hG11, hq, hE913, hH14⟩ hE19) (Nat.le_refl _) (Nat.le_refl _)
  · refine j_aload_n dX4_tryFound_12 rfl rfl ?_
    refine j_iconst dX4_tryFound_13 ?_
    refine j_bipush dX4_tryFound_14 (by decide +kernel) ?_
    refine j_callV (x_refuse hX (w := 1) (d := 24)) dX4_tryFound_16 jc_X4_369 jmV_X4_refuse rfl rfl hX.1 rfl rfl (by simp) jfr_nil (Nat.le_of_ble_eq_true rfl) ⟨Nat.le_of_ble_eq_true rfl, Nat.le_of_ble_eq_true rfl⟩ ⟨Nat.le_of_ble_eq_true rfl, Nat.le_of_ble_eq_true rfl⟩ (fun r h20 hp9 => ?_) (fun E h9 q => q.elim)
    obtain ⟨rfl, hG21, hX22⟩ := hp9
    have hG23 := hF.ex okF hX22 (by show 1 + 7 ≤ 0 ∨ 0 + 1 ≤ 1; decide)
    have hG24 := hL.ex okE hX22 (by show 8 + 3 ≤ 0 ∨ 0 + 1 ≤ 8; decide)
    have hG25 := hG.ex okH hX22 (by show 11 + 3 ≤ 0 ∨ 0 + 1 ≤ 11; decide)
    have hE26 : jEx 0 14 h h20 := hE0.tr (hX22.mo (by decide))
    subst hZ
    exact j_ireturn dX4_tryFound_19 rfl rfl (xTr.rf (by unfold kFound; first | rw [if_pos (by omega)] | (rw [if_neg (by omega)]; show _ = ((K 6 0 + 1) - 1, 0, 0, _); rw [show K 6 0 + 1 - 1 = K 6 0 by omega])) ⟨a, b, _, _, hG21, hG23, hG24, hG25, hq, hE9, hH⟩ hE26) (Nat.le_refl _) (Nat.le_refl _)
set_option maxHeartbeats 4000000 in
/-- FamilyOaks.tryBorn -/
theorem x_tryBorn {X K : fS} {B : Int} {h : jH} (hS : xS X K h) (hI : kI B K) (hB : B + 1000 ≤ 20000000) {p : Int} (hp : 0 ≤ p ∧ p < K 6 0) : jM mX4_tryBorn 6 0 0 [] [.ref 0, iv p] h (xTr X (kBorn K p) h) jno := by
  refine j_method (by decide +kernel) rfl (fun _ _ _ => trivial) (Nat.le_of_ble_eq_true rfl) ?_
  generalize hZ : jZ [] 0 0 _ _ = Z
  show J mX4_tryBorn (jR 6 0 0) [] Z 0 [(0, .ref 0), (1, iv p)] [] h 0 0
  obtain ⟨a, b, E, H, hX, hF, hL, hG, hq, hE9, hH⟩ := hS
  have hO := hI.1
  have hA := hI.2.1
  have hn := hO.n
  have hqn := hO.q
  have hE0 : jEx 0 14 h h := jEx.rf
  refine j_aload_n dX4_tryBorn_0 rfl rfl ?_
  refine j_getfield (v := .ref 1) dX4_tryBorn_1 jf_X4_10 hX.1 rfl ?_
  refine j_iload_n dX4_tryBorn_4 rfl rfl ?_
  refine j_callV (k_lives hF hq hO  (by omega)) dX4_tryBorn_5 jc_X4_104 jmV_X1_lives rfl rfl hF.1 rfl rfl (by simp) jfr_nil (Nat.le_of_ble_eq_true rfl) ⟨Nat.le_of_ble_eq_true rfl, Nat.le_of_ble_eq_true rfl⟩ ⟨Nat.le_of_ble_eq_true rfl, Nat.le_of_ble_eq_true rfl⟩ (fun r h1 hp9 => ?_) (fun E h9 q => q.elim)
  obtain ⟨rfl, rfl⟩ := hp9
  have zl := hO.l p
  refine j_if_ne (tgt := 18) dX4_tryBorn_8 (by decide) (by omega) (fun c2 => ?_) (fun c2 => ?_)
  · refine j_aload_n dX4_tryBorn_18 rfl rfl ?_
    refine j_getfield (v := .ref 1) dX4_tryBorn_19 jf_X4_10 hX.1 rfl ?_
    refine j_getfield (v := iv (K 6 0)) dX4_tryBorn_22 jf_X4_150 hF.1 rfl ?_
    refine j_bipush dX4_tryBorn_25 (by decide +kernel) ?_
    refine j_icmp_lt (tgt := 38) dX4_tryBorn_27 (by decide) (by omega) (fun c3 => ?_) (fun c3 => ?_)
    · refine j_aload_n dX4_tryBorn_38 rfl rfl ?_
      refine j_getfield (v := .ref 1) dX4_tryBorn_39 jf_X4_10 hX.1 rfl ?_
      refine j_iload_n dX4_tryBorn_42 rfl rfl ?_
      refine j_callV (k_add hF hq hO (v := p) (by omega)) dX4_tryBorn_43 jc_X4_372 jmV_X1_add rfl rfl hF.1 rfl rfl (by simp) jfr_nil (Nat.le_of_ble_eq_true rfl) ⟨Nat.le_of_ble_eq_true rfl, Nat.le_of_ble_eq_true rfl⟩ ⟨Nat.le_of_ble_eq_true rfl, Nat.le_of_ble_eq_true rfl⟩ (fun r h4 hp9 => ?_) (fun E h9 q => q.elim)
      obtain ⟨rfl, hG5, hX6⟩ := hp9
      have hG7 := hX.ex okX hX6 (by show 0 + 1 ≤ 1 ∨ 1 + 7 ≤ 0; decide)
      have hG8 := hL.ex okE hX6 (by show 8 + 3 ≤ 1 ∨ 1 + 7 ≤ 8; decide)
      have hG9 := hG.ex okH hX6 (by show 11 + 3 ≤ 1 ∨ 1 + 7 ≤ 11; decide)
      have hE10 : jEx 0 14 h h4 := hE0.tr (hX6.mo (by decide))
      have hI2 := kI_add hI (v := p) (by omega) (by omega)
      have hO2 := hI2.1
      have hA2 := hI2.2.1
      refine j_aload_n dX4_tryBorn_46 rfl rfl ?_
      refine j_callV (x_renew hG7 hG5 hG8 hG9 hq hO2) dX4_tryBorn_47 jc_X4_336 jmV_X4_renew rfl rfl hG7.1 rfl rfl (by simp) jfr_nil (Nat.le_of_ble_eq_true rfl) ⟨Nat.le_of_ble_eq_true rfl, Nat.le_of_ble_eq_true rfl⟩ ⟨Nat.le_of_ble_eq_true rfl, Nat.le_of_ble_eq_true rfl⟩ (fun r h11 hp9 => ?_) (fun E h9 q => q.elim)
      obtain ⟨rfl, E17, H18, hG12, hG13, hE915, hH16, hX14⟩ := hp9
      have hG19 := hG7.ex okX hX14 (by show 0 + 1 ≤ 8 ∨ 8 + 6 ≤ 0; omega)
      have hG20 := hG5.ex okF hX14 (by show 1 + 7 ≤ 8 ∨ 8 + 6 ≤ 1; omega)
      have hE21 : jEx 0 14 h h11 := hE10.tr (hX14.mo (by decide))
      refine j_aload_n dX4_tryBorn_50 rfl rfl ?_
      refine j_getfield (v := .ref 1) dX4_tryBorn_51 jf_X4_10 hG19.1 rfl ?_
      refine j_getfield (v := iv (K 6 0 + 1)) dX4_tryBorn_54 jf_X4_150 hG20.1 rfl ?_
      refine j_iconst dX4_tryBorn_57 ?_
      refine j_isub dX4_tryBorn_58 ?_
      subst hZ
      exact j_ireturn dX4_tryBorn_59 rfl rfl (xTr.ok (by unfold kBorn; rw [if_pos hp]; first | rw [if_pos (by omega)] | (rw [if_neg (by omega), if_pos (by omega)]) | (rw [if_neg (by omega), if_neg (by omega)]; show _ = ((K 6 0 + 1) - 1, 0, 0, _); rw [show K 6 0 + 1 - 1 = K 6 0 by omega])) (by omega) ⟨a, b, _, _, hG19, hG20, hG12, hG13, hq, hE915, hH16⟩ hE21) (Nat.le_refl _) (Nat.le_refl _)
    · refine j_aload_n dX4_tryBorn_30 rfl rfl ?_
      refine j_iconst dX4_tryBorn_31 ?_
      refine j_bipush dX4_tryBorn_32 (by decide +kernel) ?_
      refine j_callV (x_refuse hX (w := 1) (d := 24)) dX4_tryBorn_34 jc_X4_369 jmV_X4_refuse rfl rfl hX.1 rfl rfl (by simp) jfr_nil (Nat.le_of_ble_eq_true rfl) ⟨Nat.le_of_ble_eq_true rfl, Nat.le_of_ble_eq_true rfl⟩ ⟨Nat.le_of_ble_eq_true rfl, Nat.le_of_ble_eq_true rfl⟩ (fun r h22 hp9 => ?_) (fun E h9 q => q.elim)
      obtain ⟨rfl, hG23, hX24⟩ := hp9
      have hG25 := hF.ex okF hX24 (by show 1 + 7 ≤ 0 ∨ 0 + 1 ≤ 1; decide)
      have hG26 := hL.ex okE hX24 (by show 8 + 3 ≤ 0 ∨ 0 + 1 ≤ 8; decide)
      have hG27 := hG.ex okH hX24 (by show 11 + 3 ≤ 0 ∨ 0 + 1 ≤ 11; decide)
      have hE28 : jEx 0 14 h h22 := hE0.tr (hX24.mo (by decide))
      subst hZ
      exact j_ireturn dX4_tryBorn_37 rfl rfl (xTr.rf (by unfold kBorn; rw [if_pos hp]; first | rw [if_pos (by omega)] | (rw [if_neg (by omega), if_pos (by omega)]) | (rw [if_neg (by omega), if_neg (by omega)]; show _ = ((K 6 0 + 1) - 1, 0, 0, _); rw [show K 6 0 + 1 - 1 = K 6 0 by omega])) ⟨a, b, _, _, hG23, hG25, hG26, hG27, hq, hE9, hH⟩ hE28) (Nat.le_refl _) (Nat.le_refl _)
  · refine j_aload_n dX4_tryBorn_11 rfl rfl ?_
    refine j_iconst dX4_tryBorn_12 ?_
    refine j_iload_n dX4_tryBorn_13 rfl rfl ?_
    refine j_callV (x_refuse hX (w := 2) (d := p)) dX4_tryBorn_14 jc_X4_369 jmV_X4_refuse rfl rfl hX.1 rfl rfl (by simp) jfr_nil (Nat.le_of_ble_eq_true rfl) ⟨Nat.le_of_ble_eq_true rfl, Nat.le_of_ble_eq_true rfl⟩ ⟨Nat.le_of_ble_eq_true rfl, Nat.le_of_ble_eq_true rfl⟩ (fun r h29 hp9 => ?_) (fun E h9 q => q.elim)
    obtain ⟨rfl, hG30, hX31⟩ := hp9
    have hG32 := hF.ex okF hX31 (by show 1 + 7 ≤ 0 ∨ 0 + 1 ≤ 1; decide)
    have hG33 := hL.ex okE hX31 (by show 8 + 3 ≤ 0 ∨ 0 + 1 ≤ 8; decide)
    have hG34 := hG.ex okH hX31 (by show 11 + 3 ≤ 0 ∨ 0 + 1 ≤ 11; decide)
    have hE35 : jEx 0 14 h h29 := hE0.tr (hX31.mo (by decide))
    subst hZ
    exact j_ireturn dX4_tryBorn_17 rfl rfl (xTr.rf (by unfold kBorn; rw [if_pos hp]; first | rw [if_pos (by omega)] | (rw [if_neg (by omega), if_pos (by omega)]) | (rw [if_neg (by omega), if_neg (by omega)]; show _ = ((K 6 0 + 1) - 1, 0, 0, _); rw [show K 6 0 + 1 - 1 = K 6 0 by omega])) ⟨a, b, _, _, hG30, hG32, hG33, hG34, hq, hE9, hH⟩ hE35) (Nat.le_refl _) (Nat.le_refl _)
set_option maxHeartbeats 4000000 in
/-- FamilyOaks.tryCut -/
theorem x_tryCut {X K : fS} {B : Int} {h : jH} (hS : xS X K h) (hI : kI B K) (hB : B + 1000 ≤ 20000000) {p : Int} (hp : 0 ≤ p ∧ p < K 6 0) : jM mX4_tryCut 6 0 0 [] [.ref 0, iv p] h (xTr X (kCut K p) h) jno := by
  refine j_method (by decide +kernel) rfl (fun _ _ _ => trivial) (Nat.le_of_ble_eq_true rfl) ?_
  generalize hZ : jZ [] 0 0 _ _ = Z
  show J mX4_tryCut (jR 6 0 0) [] Z 0 [(0, .ref 0), (1, iv p)] [] h 0 0
  obtain ⟨a, b, E, H, hX, hF, hL, hG, hq, hE9, hH⟩ := hS
  have hO := hI.1
  have hA := hI.2.1
  have hn := hO.n
  have hqn := hO.q
  have hE0 : jEx 0 14 h h := jEx.rf
  refine j_aload_n dX4_tryCut_0 rfl rfl ?_
  refine j_getfield (v := .ref 1) dX4_tryCut_1 jf_X4_10 hX.1 rfl ?_
  refine j_iload_n dX4_tryCut_4 rfl rfl ?_
  refine j_callV (k_parentOf hF hq hO  (by omega)) dX4_tryCut_5 jc_X4_86 jmV_X1_parentOf rfl rfl hF.1 rfl rfl (by simp) jfr_nil (Nat.le_of_ble_eq_true rfl) ⟨Nat.le_of_ble_eq_true rfl, Nat.le_of_ble_eq_true rfl⟩ ⟨Nat.le_of_ble_eq_true rfl, Nat.le_of_ble_eq_true rfl⟩ (fun r h1 hp9 => ?_) (fun E h9 q => q.elim)
  obtain ⟨rfl, rfl⟩ := hp9
  have zp := hO.p p
  refine j_iconst dX4_tryCut_8 ?_
  refine j_icmp_ne (tgt := 19) dX4_tryCut_9 (by decide) (by omega) (fun c2 => ?_) (fun c2 => ?_)
  · refine j_aload_n dX4_tryCut_19 rfl rfl ?_
    refine j_getfield (v := .ref 1) dX4_tryCut_20 jf_X4_10 hX.1 rfl ?_
    refine j_iload_n dX4_tryCut_23 rfl rfl ?_
    refine j_iconst dX4_tryCut_24 ?_
    refine j_callV (k_setParent hF hq hO (p := p) (v := (-1)) hp) dX4_tryCut_25 jc_X4_374 jmV_X1_setParent rfl rfl hF.1 rfl rfl (by simp) jfr_nil (Nat.le_of_ble_eq_true rfl) ⟨Nat.le_of_ble_eq_true rfl, Nat.le_of_ble_eq_true rfl⟩ ⟨Nat.le_of_ble_eq_true rfl, Nat.le_of_ble_eq_true rfl⟩ (fun r h3 hp9 => ?_) (fun E h9 q => q.elim)
    obtain ⟨rfl, hG4, hX5⟩ := hp9
    have hG6 := hX.ex okX hX5 (by show 0 + 1 ≤ 1 ∨ 1 + 7 ≤ 0; decide)
    have hG7 := hL.ex okE hX5 (by show 8 + 3 ≤ 1 ∨ 1 + 7 ≤ 8; decide)
    have hG8 := hG.ex okH hX5 (by show 11 + 3 ≤ 1 ∨ 1 + 7 ≤ 11; decide)
    have hE9 : jEx 0 14 h h3 := hE0.tr (hX5.mo (by decide))
    have hI2 := kI_cut hI hp
    have hO2 := hI2.1
    have hA2 := hI2.2.1
    refine j_aload_n dX4_tryCut_28 rfl rfl ?_
    refine j_callV (x_renew hG6 hG4 hG7 hG8 hq hO2) dX4_tryCut_29 jc_X4_336 jmV_X4_renew rfl rfl hG6.1 rfl rfl (by simp) jfr_nil (Nat.le_of_ble_eq_true rfl) ⟨Nat.le_of_ble_eq_true rfl, Nat.le_of_ble_eq_true rfl⟩ ⟨Nat.le_of_ble_eq_true rfl, Nat.le_of_ble_eq_true rfl⟩ (fun r h10 hp9 => ?_) (fun E h9 q => q.elim)
    obtain ⟨rfl, E16, H17, hG11, hG12, hE914, hH15, hX13⟩ := hp9
    have hG18 := hG6.ex okX hX13 (by show 0 + 1 ≤ 8 ∨ 8 + 6 ≤ 0; omega)
    have hG19 := hG4.ex okF hX13 (by show 1 + 7 ≤ 8 ∨ 8 + 6 ≤ 1; omega)
    have hE20 : jEx 0 14 h h10 := hE9.tr (hX13.mo (by decide))
    refine j_aload_n dX4_tryCut_32 rfl rfl ?_
    refine j_getfield (v := .ref 1) dX4_tryCut_33 jf_X4_10 hG18.1 rfl ?_
    refine j_callV (k_oaks hG19 hq hO2  ) dX4_tryCut_36 jc_X4_268 jmV_X1_oaks rfl rfl hG19.1 rfl rfl (by simp) jfr_nil (Nat.le_of_ble_eq_true rfl) ⟨Nat.le_of_ble_eq_true rfl, Nat.le_of_ble_eq_true rfl⟩ ⟨Nat.le_of_ble_eq_true rfl, Nat.le_of_ble_eq_true rfl⟩ (fun r h21 hp9 => ?_) (fun E h9 q => q.elim)
    obtain ⟨rfl, rfl⟩ := hp9
    have zk := kOaks_p (kpar K p (-1))
    subst hZ
    exact j_ireturn dX4_tryCut_39 rfl rfl (xTr.ok (by unfold kCut; rw [if_pos hp]; (repeat (first | rw [if_pos (by first | omega | assumption)] | rw [if_neg (by first | omega | assumption)])); all_goals rfl) (by omega) ⟨a, b, _, _, hG18, hG19, hG11, hG12, hq, hE914, hH15⟩ hE20) (Nat.le_refl _) (Nat.le_refl _)
  · refine j_aload_n dX4_tryCut_12 rfl rfl ?_
    refine j_iconst dX4_tryCut_13 ?_
    refine j_iload_n dX4_tryCut_14 rfl rfl ?_
    refine j_callV (x_refuse hX (w := 5) (d := p)) dX4_tryCut_15 jc_X4_369 jmV_X4_refuse rfl rfl hX.1 rfl rfl (by simp) jfr_nil (Nat.le_of_ble_eq_true rfl) ⟨Nat.le_of_ble_eq_true rfl, Nat.le_of_ble_eq_true rfl⟩ ⟨Nat.le_of_ble_eq_true rfl, Nat.le_of_ble_eq_true rfl⟩ (fun r h22 hp9 => ?_) (fun E h9 q => q.elim)
    obtain ⟨rfl, hG23, hX24⟩ := hp9
    have hG25 := hF.ex okF hX24 (by show 1 + 7 ≤ 0 ∨ 0 + 1 ≤ 1; decide)
    have hG26 := hL.ex okE hX24 (by show 8 + 3 ≤ 0 ∨ 0 + 1 ≤ 8; decide)
    have hG27 := hG.ex okH hX24 (by show 11 + 3 ≤ 0 ∨ 0 + 1 ≤ 11; decide)
    have hE28 : jEx 0 14 h h22 := hE0.tr (hX24.mo (by decide))
    subst hZ
    exact j_ireturn dX4_tryCut_18 rfl rfl (xTr.rf (by unfold kCut; rw [if_pos hp]; (repeat (first | rw [if_pos (by first | omega | assumption)] | rw [if_neg (by first | omega | assumption)])); all_goals rfl) ⟨a, b, _, _, hG23, hG25, hG26, hG27, hq, hE9, hH⟩ hE28) (Nat.le_refl _) (Nat.le_refl _)
set_option maxHeartbeats 4000000 in
/-- FamilyOaks.tryGraft -/
theorem x_tryGraft {X K : fS} {B : Int} {h : jH} (hS : xS X K h) (hI : kI B K) (hB : B + 1000 ≤ 20000000) {p o : Int} (hp : 0 ≤ p ∧ p < K 6 0) (ho : 0 ≤ o ∧ o < K 6 0) : jM mX4_tryGraft 6 0 0 [] [.ref 0, iv p, iv o] h (xTr X (kGraft K p o) h) jno := by
  refine j_method (by decide +kernel) rfl (fun _ _ _ => trivial) (Nat.le_of_ble_eq_true rfl) ?_
  generalize hZ : jZ [] 0 0 _ _ = Z
  show J mX4_tryGraft (jR 6 0 0) [] Z 0 [(0, .ref 0), (1, iv p), (2, iv o)] [] h 0 0
  obtain ⟨a, b, E, H, hX, hF, hL, hG, hq, hE9, hH⟩ := hS
  have hO := hI.1
  have hA := hI.2.1
  have hn := hO.n
  have hqn := hO.q
  have hE0 : jEx 0 14 h h := jEx.rf
  refine j_aload_n dX4_tryGraft_0 rfl rfl ?_
  refine j_getfield (v := .ref 1) dX4_tryGraft_1 jf_X4_10 hX.1 rfl ?_
  refine j_iload_n dX4_tryGraft_4 rfl rfl ?_
  refine j_callV (k_parentOf hF hq hO  (by omega)) dX4_tryGraft_5 jc_X4_86 jmV_X1_parentOf rfl rfl hF.1 rfl rfl (by simp) jfr_nil (Nat.le_of_ble_eq_true rfl) ⟨Nat.le_of_ble_eq_true rfl, Nat.le_of_ble_eq_true rfl⟩ ⟨Nat.le_of_ble_eq_true rfl, Nat.le_of_ble_eq_true rfl⟩ (fun r h1 hp9 => ?_) (fun E h9 q => q.elim)
  obtain ⟨rfl, rfl⟩ := hp9
  have zp := hO.p p
  refine j_iconst dX4_tryGraft_8 ?_
  refine j_icmp_eq (tgt := 26) dX4_tryGraft_9 (by decide) (by omega) (fun c2 => ?_) (fun c2 => ?_)
  · have hz := frt_z (F := K) (x := p) c2
    refine j_aload_n dX4_tryGraft_26 rfl rfl ?_
    refine j_iload_n dX4_tryGraft_27 rfl rfl ?_
    refine j_iload_n dX4_tryGraft_28 rfl rfl ?_
    refine j_callV (x_isOneOak hX hF hL hG hq hI hE9 hH (p := p) (o := o) (by omega) (by omega)) dX4_tryGraft_29 jc_X4_153 jmV_X4_isOneOak rfl rfl hX.1 rfl rfl (by simp) jfr_nil (Nat.le_of_ble_eq_true rfl) ⟨Nat.le_of_ble_eq_true rfl, Nat.le_of_ble_eq_true rfl⟩ ⟨Nat.le_of_ble_eq_true rfl, Nat.le_of_ble_eq_true rfl⟩ (fun r h3 hp9 => ?_) (fun E h9 q => q.elim)
    obtain ⟨rfl, rfl⟩ := hp9
    refine j_if_eq (tgt := 42) dX4_tryGraft_32 (by decide) (bi_r32 _) (fun c4 => ?_) (fun c4 => ?_)
    · have qc4 := bi_z c4
      refine j_aload_n dX4_tryGraft_42 rfl rfl ?_
      refine j_getfield (v := .ref 1) dX4_tryGraft_43 jf_X4_10 hX.1 rfl ?_
      refine j_iload_n dX4_tryGraft_46 rfl rfl ?_
      refine j_iload_n dX4_tryGraft_47 rfl rfl ?_
      refine j_callV (k_setParent hF hq hO (p := p) (v := o) hp) dX4_tryGraft_48 jc_X4_374 jmV_X1_setParent rfl rfl hF.1 rfl rfl (by simp) jfr_nil (Nat.le_of_ble_eq_true rfl) ⟨Nat.le_of_ble_eq_true rfl, Nat.le_of_ble_eq_true rfl⟩ ⟨Nat.le_of_ble_eq_true rfl, Nat.le_of_ble_eq_true rfl⟩ (fun r h5 hp9 => ?_) (fun E h9 q => q.elim)
      obtain ⟨rfl, hG6, hX7⟩ := hp9
      have hG8 := hX.ex okX hX7 (by show 0 + 1 ≤ 1 ∨ 1 + 7 ≤ 0; decide)
      have hG9 := hL.ex okE hX7 (by show 8 + 3 ≤ 1 ∨ 1 + 7 ≤ 8; decide)
      have hG10 := hG.ex okH hX7 (by show 11 + 3 ≤ 1 ∨ 1 + 7 ≤ 11; decide)
      have hE11 : jEx 0 14 h h5 := hE0.tr (hX7.mo (by decide))
      have hI2 := kI_graft hI hp ho (by omega) (by omega)
      have hO2 := hI2.1
      have hA2 := hI2.2.1
      refine j_aload_n dX4_tryGraft_51 rfl rfl ?_
      refine j_callV (x_renew hG8 hG6 hG9 hG10 hq hO2) dX4_tryGraft_52 jc_X4_336 jmV_X4_renew rfl rfl hG8.1 rfl rfl (by simp) jfr_nil (Nat.le_of_ble_eq_true rfl) ⟨Nat.le_of_ble_eq_true rfl, Nat.le_of_ble_eq_true rfl⟩ ⟨Nat.le_of_ble_eq_true rfl, Nat.le_of_ble_eq_true rfl⟩ (fun r h12 hp9 => ?_) (fun E h9 q => q.elim)
      obtain ⟨rfl, E18, H19, hG13, hG14, hE916, hH17, hX15⟩ := hp9
      have hG20 := hG8.ex okX hX15 (by show 0 + 1 ≤ 8 ∨ 8 + 6 ≤ 0; omega)
      have hG21 := hG6.ex okF hX15 (by show 1 + 7 ≤ 8 ∨ 8 + 6 ≤ 1; omega)
      have hE22 : jEx 0 14 h h12 := hE11.tr (hX15.mo (by decide))
      refine j_aload_n dX4_tryGraft_55 rfl rfl ?_
      have zl := kfl_len hO2
      refine j_callV (x_endQuarrelsAtHome hG20 hG21 hG14 hq hO2 hH17) dX4_tryGraft_56 jc_X4_377 jmV_X4_endQuarrelsAtHome rfl rfl hG20.1 rfl rfl (by simp) jfr_nil (Nat.le_of_ble_eq_true rfl) ⟨Nat.le_of_ble_eq_true rfl, Nat.le_of_ble_eq_true rfl⟩ ⟨Nat.le_of_ble_eq_true rfl, Nat.le_of_ble_eq_true rfl⟩ (fun r h23 hp9 => ?_) (fun E h9 q => q.elim)
      obtain ⟨rfl, ⟨a27, b28, hG24, hq26⟩, hX25⟩ := hp9
      have hG29 := hG20.ex okX hX25 (by show 0 + 1 ≤ 1 ∨ 1 + 7 ≤ 0; decide)
      have hG30 := hG13.ex okE hX25 (by show 8 + 3 ≤ 1 ∨ 1 + 7 ≤ 8; decide)
      have hG31 := hG14.ex okH hX25 (by show 11 + 3 ≤ 1 ∨ 1 + 7 ≤ 11; decide)
      have hE32 : jEx 0 14 h h23 := hE22.tr (hX25.mo (by decide))
      refine j_pop dX4_tryGraft_59 rfl ?_
      refine j_aload_n dX4_tryGraft_60 rfl rfl ?_
      refine j_getfield (v := .ref 1) dX4_tryGraft_61 jf_X4_10 hG29.1 rfl ?_
      refine j_callV (k_oaks hG24 hq26 (jOk_end hO2 (by omega))  ) dX4_tryGraft_64 jc_X4_268 jmV_X1_oaks rfl rfl hG24.1 rfl rfl (by simp) jfr_nil (Nat.le_of_ble_eq_true rfl) ⟨Nat.le_of_ble_eq_true rfl, Nat.le_of_ble_eq_true rfl⟩ ⟨Nat.le_of_ble_eq_true rfl, Nat.le_of_ble_eq_true rfl⟩ (fun r h33 hp9 => ?_) (fun E h9 q => q.elim)
      obtain ⟨rfl, rfl⟩ := hp9
      have zk := kOaks_p (kEnd (kpar K p o))
      subst hZ
      exact j_ireturn dX4_tryGraft_67 rfl rfl (xTr.ok (by unfold kGraft; rw [if_pos ⟨hp, ho⟩]; (repeat (first | rw [if_pos (by first | omega | assumption)] | rw [if_neg (by first | omega | assumption)])); all_goals rfl) (by omega) ⟨a27, b28, _, _, hG29, hG24, hG30, hG31, hq26, hE916.end, hH17.end⟩ hE32) (Nat.le_refl _) (Nat.le_refl _)
    · have qc4 := bi_nz c4
      refine j_aload_n dX4_tryGraft_35 rfl rfl ?_
      refine j_iconst dX4_tryGraft_36 ?_
      refine j_iload_n dX4_tryGraft_37 rfl rfl ?_
      refine j_callV (x_refuse hX (w := 4) (d := p)) dX4_tryGraft_38 jc_X4_369 jmV_X4_refuse rfl rfl hX.1 rfl rfl (by simp) jfr_nil (Nat.le_of_ble_eq_true rfl) ⟨Nat.le_of_ble_eq_true rfl, Nat.le_of_ble_eq_true rfl⟩ ⟨Nat.le_of_ble_eq_true rfl, Nat.le_of_ble_eq_true rfl⟩ (fun r h34 hp9 => ?_) (fun E h9 q => q.elim)
      obtain ⟨rfl, hG35, hX36⟩ := hp9
      have hG37 := hF.ex okF hX36 (by show 1 + 7 ≤ 0 ∨ 0 + 1 ≤ 1; decide)
      have hG38 := hL.ex okE hX36 (by show 8 + 3 ≤ 0 ∨ 0 + 1 ≤ 8; decide)
      have hG39 := hG.ex okH hX36 (by show 11 + 3 ≤ 0 ∨ 0 + 1 ≤ 11; decide)
      have hE40 : jEx 0 14 h h34 := hE0.tr (hX36.mo (by decide))
      subst hZ
      exact j_ireturn dX4_tryGraft_41 rfl rfl (xTr.rf (by unfold kGraft; rw [if_pos ⟨hp, ho⟩]; (repeat (first | rw [if_pos (by first | omega | assumption)] | rw [if_neg (by first | omega | assumption)])); all_goals rfl) ⟨a, b, _, _, hG35, hG37, hG38, hG39, hq, hE9, hH⟩ hE40) (Nat.le_refl _) (Nat.le_refl _)
  · refine j_aload_n dX4_tryGraft_12 rfl rfl ?_
    refine j_iconst dX4_tryGraft_13 ?_
    refine j_aload_n dX4_tryGraft_14 rfl rfl ?_
    refine j_getfield (v := .ref 1) dX4_tryGraft_15 jf_X4_10 hX.1 rfl ?_
    refine j_iload_n dX4_tryGraft_18 rfl rfl ?_
    refine j_callV (k_parentOf hF hq hO  (by omega)) dX4_tryGraft_19 jc_X4_86 jmV_X1_parentOf rfl rfl hF.1 rfl rfl (by simp) jfr_nil (Nat.le_of_ble_eq_true rfl) ⟨Nat.le_of_ble_eq_true rfl, Nat.le_of_ble_eq_true rfl⟩ ⟨Nat.le_of_ble_eq_true rfl, Nat.le_of_ble_eq_true rfl⟩ (fun r h41 hp9 => ?_) (fun E h9 q => q.elim)
    obtain ⟨rfl, rfl⟩ := hp9
    have zp := hO.p p
    refine j_callV (x_refuse hX (w := 3) (d := (K 0 p))) dX4_tryGraft_22 jc_X4_369 jmV_X4_refuse rfl rfl hX.1 rfl rfl (by simp) jfr_nil (Nat.le_of_ble_eq_true rfl) ⟨Nat.le_of_ble_eq_true rfl, Nat.le_of_ble_eq_true rfl⟩ ⟨Nat.le_of_ble_eq_true rfl, Nat.le_of_ble_eq_true rfl⟩ (fun r h42 hp9 => ?_) (fun E h9 q => q.elim)
    obtain ⟨rfl, hG43, hX44⟩ := hp9
    have hG45 := hF.ex okF hX44 (by show 1 + 7 ≤ 0 ∨ 0 + 1 ≤ 1; decide)
    have hG46 := hL.ex okE hX44 (by show 8 + 3 ≤ 0 ∨ 0 + 1 ≤ 8; decide)
    have hG47 := hG.ex okH hX44 (by show 11 + 3 ≤ 0 ∨ 0 + 1 ≤ 11; decide)
    have hE48 : jEx 0 14 h h42 := hE0.tr (hX44.mo (by decide))
    subst hZ
    exact j_ireturn dX4_tryGraft_25 rfl rfl (xTr.rf (by unfold kGraft; rw [if_pos ⟨hp, ho⟩]; (repeat (first | rw [if_pos (by first | omega | assumption)] | rw [if_neg (by first | omega | assumption)])); all_goals rfl) ⟨a, b, _, _, hG43, hG45, hG46, hG47, hq, hE9, hH⟩ hE48) (Nat.le_refl _) (Nat.le_refl _)
set_option maxHeartbeats 4000000 in
/-- FamilyOaks.tryMarry -/
theorem x_tryMarry {X K : fS} {B : Int} {h : jH} (hS : xS X K h) (hI : kI B K) (hB : B + 1000 ≤ 20000000) {p o : Int} (hp : 0 ≤ p ∧ p < K 6 0) (ho : 0 ≤ o ∧ o < K 6 0) : jM mX4_tryMarry 7 0 0 [] [.ref 0, iv p, iv o] h (xTr X (kMarry K p o) h) jno := by
  refine j_method (by decide +kernel) rfl (fun _ _ _ => trivial) (Nat.le_of_ble_eq_true rfl) ?_
  generalize hZ : jZ [] 0 0 _ _ = Z
  show J mX4_tryMarry (jR 7 0 0) [] Z 0 [(0, .ref 0), (1, iv p), (2, iv o)] [] h 0 0
  obtain ⟨a, b, E, H, hX, hF, hL, hG, hq, hE9, hH⟩ := hS
  have hO := hI.1
  have hA := hI.2.1
  have hn := hO.n
  have hqn := hO.q
  have hE0 : jEx 0 14 h h := jEx.rf
  refine j_aload_n dX4_tryMarry_0 rfl rfl ?_
  refine j_iload_n dX4_tryMarry_1 rfl rfl ?_
  refine j_iload_n dX4_tryMarry_2 rfl rfl ?_
  refine j_callV (x_whyNotMarry hX hF hL hG hq hI hE9 hH (p := p) (o := o) (by omega) (by omega)) dX4_tryMarry_3 jc_X4_174 jmV_X4_whyNotMarry rfl rfl hX.1 rfl rfl (by simp) jfr_nil (Nat.le_of_ble_eq_true rfl) ⟨Nat.le_of_ble_eq_true rfl, Nat.le_of_ble_eq_true rfl⟩ ⟨Nat.le_of_ble_eq_true rfl, Nat.le_of_ble_eq_true rfl⟩ (fun r h1 hp9 => ?_) (fun E h9 q => q.elim)
  obtain ⟨rfl, rfl⟩ := hp9
  have zw := kWhy_c K p o
  refine j_istore_n (L' := [(0, _), (1, _), (2, _), (3, _)]) dX4_tryMarry_6 rfl (by decide) rfl ?_
  refine j_iload_n dX4_tryMarry_7 rfl rfl ?_
  refine j_iconst dX4_tryMarry_8 ?_
  refine j_icmp_ne (tgt := 24) dX4_tryMarry_9 (by decide) (by omega) (fun c2 => ?_) (fun c2 => ?_)
  · refine j_iload_n dX4_tryMarry_24 rfl rfl ?_
    refine j_bipush dX4_tryMarry_25 (by decide +kernel) ?_
    refine j_icmp_ne (tgt := 43) dX4_tryMarry_27 (by decide) (by omega) (fun c3 => ?_) (fun c3 => ?_)
    · refine j_iload_n dX4_tryMarry_43 rfl rfl ?_
      refine j_bipush dX4_tryMarry_44 (by decide +kernel) ?_
      refine j_icmp_ne (tgt := 62) dX4_tryMarry_46 (by decide) (by omega) (fun c4 => ?_) (fun c4 => ?_)
      · have hw0 : ¬ (kWhy K p o).1 ≠ 0 := by omega
        obtain ⟨_, _, hm1, hm2, _⟩ := kWhy_0 hw0
        refine j_aload_n dX4_tryMarry_62 rfl rfl ?_
        refine j_getfield (v := .ref 1) dX4_tryMarry_63 jf_X4_10 hX.1 rfl ?_
        refine j_iload_n dX4_tryMarry_66 rfl rfl ?_
        refine j_iload_n dX4_tryMarry_67 rfl rfl ?_
        refine j_callV (k_setSpouse hF hq hO (p := p) (v := o) hp) dX4_tryMarry_68 jc_X4_386 jmV_X1_setSpouse rfl rfl hF.1 rfl rfl (by simp) jfr_nil (Nat.le_of_ble_eq_true rfl) ⟨Nat.le_of_ble_eq_true rfl, Nat.le_of_ble_eq_true rfl⟩ ⟨Nat.le_of_ble_eq_true rfl, Nat.le_of_ble_eq_true rfl⟩ (fun r h5 hp9 => ?_) (fun E h9 q => q.elim)
        obtain ⟨rfl, hG6, hX7⟩ := hp9
        have hG8 := hX.ex okX hX7 (by show 0 + 1 ≤ 1 ∨ 1 + 7 ≤ 0; decide)
        have hG9 := hL.ex okE hX7 (by show 8 + 3 ≤ 1 ∨ 1 + 7 ≤ 8; decide)
        have hG10 := hG.ex okH hX7 (by show 11 + 3 ≤ 1 ∨ 1 + 7 ≤ 11; decide)
        have hE11 : jEx 0 14 h h5 := hE0.tr (hX7.mo (by decide))
        have hO2 : jOk B (kspo K p o) := jOk_spo hO hp (by omega)
        have hA2 : fAc (kspo K p o) := hA
        refine j_aload_n dX4_tryMarry_71 rfl rfl ?_
        refine j_getfield (v := .ref 1) dX4_tryMarry_72 jf_X4_10 hG8.1 rfl ?_
        refine j_iload_n dX4_tryMarry_75 rfl rfl ?_
        refine j_iload_n dX4_tryMarry_76 rfl rfl ?_
        refine j_callV (k_setSpouse hG6 hq hO2 (p := o) (v := p) ho) dX4_tryMarry_77 jc_X4_386 jmV_X1_setSpouse rfl rfl hG6.1 rfl rfl (by simp) jfr_nil (Nat.le_of_ble_eq_true rfl) ⟨Nat.le_of_ble_eq_true rfl, Nat.le_of_ble_eq_true rfl⟩ ⟨Nat.le_of_ble_eq_true rfl, Nat.le_of_ble_eq_true rfl⟩ (fun r h12 hp9 => ?_) (fun E h9 q => q.elim)
        obtain ⟨rfl, hG13, hX14⟩ := hp9
        have hG15 := hG8.ex okX hX14 (by show 0 + 1 ≤ 1 ∨ 1 + 7 ≤ 0; decide)
        have hG16 := hG9.ex okE hX14 (by show 8 + 3 ≤ 1 ∨ 1 + 7 ≤ 8; decide)
        have hG17 := hG10.ex okH hX14 (by show 11 + 3 ≤ 1 ∨ 1 + 7 ≤ 11; decide)
        have hE18 : jEx 0 14 h h12 := hE11.tr (hX14.mo (by decide))
        have hI2 := kI_marry hI hp ho hm1 hm2
        have hO3 : jOk B (kspo (kspo K p o) o p) := hI2.1
        have hA3 : fAc (kspo (kspo K p o) o p) := hI2.2.1
        refine j_aload_n dX4_tryMarry_80 rfl rfl ?_
        refine j_callV (x_renew hG15 hG13 hG16 hG17 hq hO3) dX4_tryMarry_81 jc_X4_336 jmV_X4_renew rfl rfl hG15.1 rfl rfl (by simp) jfr_nil (Nat.le_of_ble_eq_true rfl) ⟨Nat.le_of_ble_eq_true rfl, Nat.le_of_ble_eq_true rfl⟩ ⟨Nat.le_of_ble_eq_true rfl, Nat.le_of_ble_eq_true rfl⟩ (fun r h19 hp9 => ?_) (fun E h9 q => q.elim)
        obtain ⟨rfl, E25, H26, hG20, hG21, hE923, hH24, hX22⟩ := hp9
        have hG27 := hG15.ex okX hX22 (by show 0 + 1 ≤ 8 ∨ 8 + 6 ≤ 0; omega)
        have hG28 := hG13.ex okF hX22 (by show 1 + 7 ≤ 8 ∨ 8 + 6 ≤ 1; omega)
        have hE29 : jEx 0 14 h h19 := hE18.tr (hX22.mo (by decide))
        refine j_aload_n dX4_tryMarry_84 rfl rfl ?_
        have zl := kfl_len hO3
        refine j_callV (x_endQuarrelsAtHome hG27 hG28 hG21 hq hO3 hH24) dX4_tryMarry_85 jc_X4_377 jmV_X4_endQuarrelsAtHome rfl rfl hG27.1 rfl rfl (by simp) jfr_nil (Nat.le_of_ble_eq_true rfl) ⟨Nat.le_of_ble_eq_true rfl, Nat.le_of_ble_eq_true rfl⟩ ⟨Nat.le_of_ble_eq_true rfl, Nat.le_of_ble_eq_true rfl⟩ (fun r h30 hp9 => ?_) (fun E h9 q => q.elim)
        obtain ⟨rfl, ⟨a34, b35, hG31, hq33⟩, hX32⟩ := hp9
        have hG36 := hG27.ex okX hX32 (by show 0 + 1 ≤ 1 ∨ 1 + 7 ≤ 0; decide)
        have hG37 := hG20.ex okE hX32 (by show 8 + 3 ≤ 1 ∨ 1 + 7 ≤ 8; decide)
        have hG38 := hG21.ex okH hX32 (by show 11 + 3 ≤ 1 ∨ 1 + 7 ≤ 11; decide)
        have hE39 : jEx 0 14 h h30 := hE29.tr (hX32.mo (by decide))
        subst hZ
        exact j_ireturn dX4_tryMarry_88 rfl rfl (xTr.ok (by unfold kMarry; rw [if_pos ⟨hp, ho⟩, if_neg hw0]; rfl) (by omega) ⟨a34, b35, _, _, hG36, hG31, hG37, hG38, hq33, hE923.end, hH24.end⟩ hE39) (Nat.le_refl _) (Nat.le_refl _)
      · refine j_aload_n dX4_tryMarry_49 rfl rfl ?_
        refine j_bipush dX4_tryMarry_50 (by decide +kernel) ?_
        refine j_aload_n dX4_tryMarry_52 rfl rfl ?_
        refine j_iload_n dX4_tryMarry_53 rfl rfl ?_
        refine j_iload_n dX4_tryMarry_54 rfl rfl ?_
        refine j_callV (x_degreeBetween hX hF hL hG hq hI hE9 hH (p := p) (o := o) (by omega) (by omega) (by omega)) dX4_tryMarry_55 jc_X4_144 jmV_X4_degreeBetween rfl rfl hX.1 rfl rfl (by simp) jfr_nil (Nat.le_of_ble_eq_true rfl) ⟨Nat.le_of_ble_eq_true rfl, Nat.le_of_ble_eq_true rfl⟩ ⟨Nat.le_of_ble_eq_true rfl, Nat.le_of_ble_eq_true rfl⟩ (fun r h40 hp9 => ?_) (fun E h9 q => q.elim)
        obtain ⟨rfl, rfl⟩ := hp9
        have za := faw_rg K p o
        refine j_callV (x_refuse hX (w := 7) (d := (faw K p o))) dX4_tryMarry_58 jc_X4_369 jmV_X4_refuse rfl rfl hX.1 rfl rfl (by simp) jfr_nil (Nat.le_of_ble_eq_true rfl) ⟨Nat.le_of_ble_eq_true rfl, Nat.le_of_ble_eq_true rfl⟩ ⟨Nat.le_of_ble_eq_true rfl, Nat.le_of_ble_eq_true rfl⟩ (fun r h41 hp9 => ?_) (fun E h9 q => q.elim)
        obtain ⟨rfl, hG42, hX43⟩ := hp9
        have hG44 := hF.ex okF hX43 (by show 1 + 7 ≤ 0 ∨ 0 + 1 ≤ 1; decide)
        have hG45 := hL.ex okE hX43 (by show 8 + 3 ≤ 0 ∨ 0 + 1 ≤ 8; decide)
        have hG46 := hG.ex okH hX43 (by show 11 + 3 ≤ 0 ∨ 0 + 1 ≤ 11; decide)
        have hE47 : jEx 0 14 h h41 := hE0.tr (hX43.mo (by decide))
        subst hZ
        exact j_ireturn dX4_tryMarry_61 rfl rfl (xTr.rf (by unfold kMarry; rw [if_pos ⟨hp, ho⟩, if_pos (by omega), kWhy_7 c4, c4]) ⟨a, b, _, _, hG42, hG44, hG45, hG46, hq, hE9, hH⟩ hE47) (Nat.le_refl _) (Nat.le_refl _)
    · refine j_aload_n dX4_tryMarry_30 rfl rfl ?_
      refine j_bipush dX4_tryMarry_31 (by decide +kernel) ?_
      refine j_aload_n dX4_tryMarry_33 rfl rfl ?_
      refine j_iload_n dX4_tryMarry_34 rfl rfl ?_
      refine j_iload_n dX4_tryMarry_35 rfl rfl ?_
      refine j_callV (x_firstSpouse hX hF hL hG hq hI hE9 hH (p := p) (o := o) (by omega) (by omega)) dX4_tryMarry_36 jc_X4_383 jmV_X4_firstSpouse rfl rfl hX.1 rfl rfl (by simp) jfr_nil (Nat.le_of_ble_eq_true rfl) ⟨Nat.le_of_ble_eq_true rfl, Nat.le_of_ble_eq_true rfl⟩ ⟨Nat.le_of_ble_eq_true rfl, Nat.le_of_ble_eq_true rfl⟩ (fun r h48 hp9 => ?_) (fun E h9 q => q.elim)
      obtain ⟨rfl, rfl⟩ := hp9
      refine j_callV (x_refuse hX (w := 6) (d := (if K 1 p = -1 then K 1 o else K 1 p))) dX4_tryMarry_39 jc_X4_369 jmV_X4_refuse rfl rfl hX.1 rfl rfl (by simp) jfr_nil (Nat.le_of_ble_eq_true rfl) ⟨Nat.le_of_ble_eq_true rfl, Nat.le_of_ble_eq_true rfl⟩ ⟨Nat.le_of_ble_eq_true rfl, Nat.le_of_ble_eq_true rfl⟩ (fun r h49 hp9 => ?_) (fun E h9 q => q.elim)
      obtain ⟨rfl, hG50, hX51⟩ := hp9
      have hG52 := hF.ex okF hX51 (by show 1 + 7 ≤ 0 ∨ 0 + 1 ≤ 1; decide)
      have hG53 := hL.ex okE hX51 (by show 8 + 3 ≤ 0 ∨ 0 + 1 ≤ 8; decide)
      have hG54 := hG.ex okH hX51 (by show 11 + 3 ≤ 0 ∨ 0 + 1 ≤ 11; decide)
      have hE55 : jEx 0 14 h h49 := hE0.tr (hX51.mo (by decide))
      subst hZ
      exact j_ireturn dX4_tryMarry_42 rfl rfl (xTr.rf (by unfold kMarry; rw [if_pos ⟨hp, ho⟩, if_pos (by omega), kWhy_6 c3, c3]) ⟨a, b, _, _, hG50, hG52, hG53, hG54, hq, hE9, hH⟩ hE55) (Nat.le_refl _) (Nat.le_refl _)
  · refine j_aload_n dX4_tryMarry_12 rfl rfl ?_
    refine j_iconst dX4_tryMarry_13 ?_
    refine j_aload_n dX4_tryMarry_14 rfl rfl ?_
    refine j_iload_n dX4_tryMarry_15 rfl rfl ?_
    refine j_iload_n dX4_tryMarry_16 rfl rfl ?_
    refine j_callV (x_firstDead hX hF hL hG hq hI hE9 hH (p := p) (o := o) (by omega) (by omega)) dX4_tryMarry_17 jc_X4_380 jmV_X4_firstDead rfl rfl hX.1 rfl rfl (by simp) jfr_nil (Nat.le_of_ble_eq_true rfl) ⟨Nat.le_of_ble_eq_true rfl, Nat.le_of_ble_eq_true rfl⟩ ⟨Nat.le_of_ble_eq_true rfl, Nat.le_of_ble_eq_true rfl⟩ (fun r h56 hp9 => ?_) (fun E h9 q => q.elim)
    obtain ⟨rfl, rfl⟩ := hp9
    refine j_callV (x_refuse hX (w := 2) (d := (if K 3 p = 0 then p else o))) dX4_tryMarry_20 jc_X4_369 jmV_X4_refuse rfl rfl hX.1 rfl rfl (by simp) jfr_nil (Nat.le_of_ble_eq_true rfl) ⟨Nat.le_of_ble_eq_true rfl, Nat.le_of_ble_eq_true rfl⟩ ⟨Nat.le_of_ble_eq_true rfl, Nat.le_of_ble_eq_true rfl⟩ (fun r h57 hp9 => ?_) (fun E h9 q => q.elim)
    obtain ⟨rfl, hG58, hX59⟩ := hp9
    have hG60 := hF.ex okF hX59 (by show 1 + 7 ≤ 0 ∨ 0 + 1 ≤ 1; decide)
    have hG61 := hL.ex okE hX59 (by show 8 + 3 ≤ 0 ∨ 0 + 1 ≤ 8; decide)
    have hG62 := hG.ex okH hX59 (by show 11 + 3 ≤ 0 ∨ 0 + 1 ≤ 11; decide)
    have hE63 : jEx 0 14 h h57 := hE0.tr (hX59.mo (by decide))
    subst hZ
    exact j_ireturn dX4_tryMarry_23 rfl rfl (xTr.rf (by unfold kMarry; rw [if_pos ⟨hp, ho⟩, if_pos (by omega), kWhy_2 c2, c2]) ⟨a, b, _, _, hG58, hG60, hG61, hG62, hq, hE9, hH⟩ hE63) (Nat.le_refl _) (Nat.le_refl _)
set_option maxHeartbeats 4000000 in
/-- FamilyOaks.tryPart -/
theorem x_tryPart {X K : fS} {B : Int} {h : jH} (hS : xS X K h) (hI : kI B K) (hB : B + 1000 ≤ 20000000) {p : Int} (hp : 0 ≤ p ∧ p < K 6 0) : jM mX4_tryPart 6 0 0 [] [.ref 0, iv p] h (xTr X (kPartR K p) h) jno := by
  refine j_method (by decide +kernel) rfl (fun _ _ _ => trivial) (Nat.le_of_ble_eq_true rfl) ?_
  generalize hZ : jZ [] 0 0 _ _ = Z
  show J mX4_tryPart (jR 6 0 0) [] Z 0 [(0, .ref 0), (1, iv p)] [] h 0 0
  obtain ⟨a, b, E, H, hX, hF, hL, hG, hq, hE9, hH⟩ := hS
  have hO := hI.1
  have hA := hI.2.1
  have hn := hO.n
  have hqn := hO.q
  have hE0 : jEx 0 14 h h := jEx.rf
  refine j_aload_n dX4_tryPart_0 rfl rfl ?_
  refine j_getfield (v := .ref 1) dX4_tryPart_1 jf_X4_10 hX.1 rfl ?_
  refine j_iload_n dX4_tryPart_4 rfl rfl ?_
  refine j_callV (k_spouseOf hF hq hO  (by omega)) dX4_tryPart_5 jc_X4_98 jmV_X1_spouseOf rfl rfl hF.1 rfl rfl (by simp) jfr_nil (Nat.le_of_ble_eq_true rfl) ⟨Nat.le_of_ble_eq_true rfl, Nat.le_of_ble_eq_true rfl⟩ ⟨Nat.le_of_ble_eq_true rfl, Nat.le_of_ble_eq_true rfl⟩ (fun r h1 hp9 => ?_) (fun E h9 q => q.elim)
  obtain ⟨rfl, rfl⟩ := hp9
  have zs := hO.s p
  refine j_istore_n (L' := [(0, _), (1, _), (2, _)]) dX4_tryPart_8 rfl (by decide) rfl ?_
  refine j_iload_n dX4_tryPart_9 rfl rfl ?_
  refine j_iconst dX4_tryPart_10 ?_
  refine j_icmp_ne (tgt := 22) dX4_tryPart_11 (by decide) (by omega) (fun c2 => ?_) (fun c2 => ?_)
  · refine j_aload_n dX4_tryPart_22 rfl rfl ?_
    refine j_getfield (v := .ref 1) dX4_tryPart_23 jf_X4_10 hX.1 rfl ?_
    refine j_iload_n dX4_tryPart_26 rfl rfl ?_
    refine j_callV (k_endMarriage hF hq hO (p := p) hp) dX4_tryPart_27 jc_X4_389 jmV_X1_endMarriage rfl rfl hF.1 rfl rfl (by simp) jfr_nil (Nat.le_of_ble_eq_true rfl) ⟨Nat.le_of_ble_eq_true rfl, Nat.le_of_ble_eq_true rfl⟩ ⟨Nat.le_of_ble_eq_true rfl, Nat.le_of_ble_eq_true rfl⟩ (fun r h3 hp9 => ?_) (fun E h9 q => q.elim)
    obtain ⟨rfl, hG4, hX5⟩ := hp9
    have hG6 := hX.ex okX hX5 (by show 0 + 1 ≤ 1 ∨ 1 + 7 ≤ 0; decide)
    have hG7 := hL.ex okE hX5 (by show 8 + 3 ≤ 1 ∨ 1 + 7 ≤ 8; decide)
    have hG8 := hG.ex okH hX5 (by show 11 + 3 ≤ 1 ∨ 1 + 7 ≤ 11; decide)
    have hE9 : jEx 0 14 h h3 := hE0.tr (hX5.mo (by decide))
    have hI2 := kI_part hI hp (by omega)
    have hO2 : jOk B (if K 1 p < 0 then K else kPart K p) := by rw [if_neg (by omega)]; exact hI2.1
    have hA2 : fAc (if K 1 p < 0 then K else kPart K p) := by rw [if_neg (by omega)]; exact hI2.2.1
    have hq2 : kQv (if K 1 p < 0 then K else kPart K p) a b := by rw [if_neg (by omega)]; exact hq
    refine j_aload_n dX4_tryPart_30 rfl rfl ?_
    refine j_callV (x_renew hG6 hG4 hG7 hG8 hq2 hO2) dX4_tryPart_31 jc_X4_336 jmV_X4_renew rfl rfl hG6.1 rfl rfl (by simp) jfr_nil (Nat.le_of_ble_eq_true rfl) ⟨Nat.le_of_ble_eq_true rfl, Nat.le_of_ble_eq_true rfl⟩ ⟨Nat.le_of_ble_eq_true rfl, Nat.le_of_ble_eq_true rfl⟩ (fun r h10 hp9 => ?_) (fun E h9 q => q.elim)
    obtain ⟨rfl, E16, H17, hG11, hG12, hE914, hH15, hX13⟩ := hp9
    have hG18 := hG6.ex okX hX13 (by show 0 + 1 ≤ 8 ∨ 8 + 6 ≤ 0; omega)
    have hG19 := hG4.ex okF hX13 (by show 1 + 7 ≤ 8 ∨ 8 + 6 ≤ 1; omega)
    have hE20 : jEx 0 14 h h10 := hE9.tr (hX13.mo (by decide))
    refine j_iload_n dX4_tryPart_34 rfl rfl ?_
    subst hZ
    exact j_ireturn dX4_tryPart_35 rfl rfl (xTr.ok (by unfold kPartR; rw [if_pos hp, if_neg (by omega), if_neg (show ¬ K 1 p < 0 by omega)]) (by omega) ⟨a, b, _, _, hG18, hG19, hG11, hG12, hq2, hE914, hH15⟩ hE20) (Nat.le_refl _) (Nat.le_refl _)
  · refine j_aload_n dX4_tryPart_14 rfl rfl ?_
    refine j_bipush dX4_tryPart_15 (by decide +kernel) ?_
    refine j_iload_n dX4_tryPart_17 rfl rfl ?_
    refine j_callV (x_refuse hX (w := 8) (d := p)) dX4_tryPart_18 jc_X4_369 jmV_X4_refuse rfl rfl hX.1 rfl rfl (by simp) jfr_nil (Nat.le_of_ble_eq_true rfl) ⟨Nat.le_of_ble_eq_true rfl, Nat.le_of_ble_eq_true rfl⟩ ⟨Nat.le_of_ble_eq_true rfl, Nat.le_of_ble_eq_true rfl⟩ (fun r h21 hp9 => ?_) (fun E h9 q => q.elim)
    obtain ⟨rfl, hG22, hX23⟩ := hp9
    have hG24 := hF.ex okF hX23 (by show 1 + 7 ≤ 0 ∨ 0 + 1 ≤ 1; decide)
    have hG25 := hL.ex okE hX23 (by show 8 + 3 ≤ 0 ∨ 0 + 1 ≤ 8; decide)
    have hG26 := hG.ex okH hX23 (by show 11 + 3 ≤ 0 ∨ 0 + 1 ≤ 11; decide)
    have hE27 : jEx 0 14 h h21 := hE0.tr (hX23.mo (by decide))
    subst hZ
    exact j_ireturn dX4_tryPart_21 rfl rfl (xTr.rf (by unfold kPartR; rw [if_pos hp]; (repeat (first | rw [if_pos (by first | omega | assumption)] | rw [if_neg (by first | omega | assumption)])); all_goals rfl) ⟨a, b, _, _, hG22, hG24, hG25, hG26, hq, hE9, hH⟩ hE27) (Nat.le_refl _) (Nat.le_refl _)
set_option maxHeartbeats 4000000 in
/-- FamilyOaks.tryQuarrel -/
theorem x_tryQuarrel {X K : fS} {B : Int} {h : jH} (hS : xS X K h) (hI : kI B K) (hB : B + 1000 ≤ 20000000) {p o : Int} (hp : 0 ≤ p ∧ p < K 6 0) (ho : 0 ≤ o ∧ o < K 6 0) : jM mX4_tryQuarrel 3 0 0 [] [.ref 0, iv p, iv o] h (xTr X (kQuarrel K p o) h) jno := by
  refine j_method (by decide +kernel) rfl (fun _ _ _ => trivial) (Nat.le_of_ble_eq_true rfl) ?_
  generalize hZ : jZ [] 0 0 _ _ = Z
  show J mX4_tryQuarrel (jR 3 0 0) [] Z 0 [(0, .ref 0), (1, iv p), (2, iv o)] [] h 0 0
  obtain ⟨a, b, E, H, hX, hF, hL, hG, hq, hE9, hH⟩ := hS
  have hO := hI.1
  have hA := hI.2.1
  have hn := hO.n
  have hqn := hO.q
  have hE0 : jEx 0 14 h h := jEx.rf
  refine j_aload_n dX4_tryQuarrel_0 rfl rfl ?_
  refine j_getfield (v := .ref 1) dX4_tryQuarrel_1 jf_X4_10 hX.1 rfl ?_
  refine j_iload_n dX4_tryQuarrel_4 rfl rfl ?_
  refine j_callV (k_lives hF hq hO  (by omega)) dX4_tryQuarrel_5 jc_X4_104 jmV_X1_lives rfl rfl hF.1 rfl rfl (by simp) jfr_nil (Nat.le_of_ble_eq_true rfl) ⟨Nat.le_of_ble_eq_true rfl, Nat.le_of_ble_eq_true rfl⟩ ⟨Nat.le_of_ble_eq_true rfl, Nat.le_of_ble_eq_true rfl⟩ (fun r h1 hp9 => ?_) (fun E h9 q => q.elim)
  obtain ⟨rfl, rfl⟩ := hp9
  have zl := hO.l p
  refine j_if_eq (tgt := 22) dX4_tryQuarrel_8 (by decide) (by omega) (fun c2 => ?_) (fun c2 => ?_)
  · refine j_aload_n dX4_tryQuarrel_22 rfl rfl ?_
    refine j_iconst dX4_tryQuarrel_23 ?_
    refine j_aload_n dX4_tryQuarrel_24 rfl rfl ?_
    refine j_iload_n dX4_tryQuarrel_25 rfl rfl ?_
    refine j_iload_n dX4_tryQuarrel_26 rfl rfl ?_
    refine j_callV (x_firstDead hX hF hL hG hq hI hE9 hH (p := p) (o := o) (by omega) (by omega)) dX4_tryQuarrel_27 jc_X4_380 jmV_X4_firstDead rfl rfl hX.1 rfl rfl (by simp) jfr_nil (Nat.le_of_ble_eq_true rfl) ⟨Nat.le_of_ble_eq_true rfl, Nat.le_of_ble_eq_true rfl⟩ ⟨Nat.le_of_ble_eq_true rfl, Nat.le_of_ble_eq_true rfl⟩ (fun r h3 hp9 => ?_) (fun E h9 q => q.elim)
    obtain ⟨rfl, rfl⟩ := hp9
    refine j_callV (x_refuse hX (w := 2) (d := (if K 3 p = 0 then p else o))) dX4_tryQuarrel_30 jc_X4_369 jmV_X4_refuse rfl rfl hX.1 rfl rfl (by simp) jfr_nil (Nat.le_of_ble_eq_true rfl) ⟨Nat.le_of_ble_eq_true rfl, Nat.le_of_ble_eq_true rfl⟩ ⟨Nat.le_of_ble_eq_true rfl, Nat.le_of_ble_eq_true rfl⟩ (fun r h4 hp9 => ?_) (fun E h9 q => q.elim)
    obtain ⟨rfl, hG5, hX6⟩ := hp9
    have hG7 := hF.ex okF hX6 (by show 1 + 7 ≤ 0 ∨ 0 + 1 ≤ 1; decide)
    have hG8 := hL.ex okE hX6 (by show 8 + 3 ≤ 0 ∨ 0 + 1 ≤ 8; decide)
    have hG9 := hG.ex okH hX6 (by show 11 + 3 ≤ 0 ∨ 0 + 1 ≤ 11; decide)
    have hE10 : jEx 0 14 h h4 := hE0.tr (hX6.mo (by decide))
    subst hZ
    exact j_ireturn dX4_tryQuarrel_33 rfl rfl (xTr.rf (by unfold kQuarrel; rw [if_pos ⟨hp, ho⟩]; by_cases q9 : K 3 p = 0 <;> first | (rw [if_pos q9, if_pos q9]; done) | (rw [if_neg q9, if_neg q9, if_pos (by omega)]; done)) ⟨a, b, _, _, hG5, hG7, hG8, hG9, hq, hE9, hH⟩ hE10) (Nat.le_refl _) (Nat.le_refl _)
  · refine j_aload_n dX4_tryQuarrel_11 rfl rfl ?_
    refine j_getfield (v := .ref 1) dX4_tryQuarrel_12 jf_X4_10 hX.1 rfl ?_
    refine j_iload_n dX4_tryQuarrel_15 rfl rfl ?_
    refine j_callV (k_lives hF hq hO  (by omega)) dX4_tryQuarrel_16 jc_X4_104 jmV_X1_lives rfl rfl hF.1 rfl rfl (by simp) jfr_nil (Nat.le_of_ble_eq_true rfl) ⟨Nat.le_of_ble_eq_true rfl, Nat.le_of_ble_eq_true rfl⟩ ⟨Nat.le_of_ble_eq_true rfl, Nat.le_of_ble_eq_true rfl⟩ (fun r h11 hp9 => ?_) (fun E h9 q => q.elim)
    obtain ⟨rfl, rfl⟩ := hp9
    have zl := hO.l o
    refine j_if_ne (tgt := 34) dX4_tryQuarrel_19 (by decide) (by omega) (fun c12 => ?_) (fun c12 => ?_)
    · refine j_aload_n dX4_tryQuarrel_34 rfl rfl ?_
      refine j_getfield (v := .ref 11) dX4_tryQuarrel_35 jf_X4_44 hX.1 rfl ?_
      refine j_iload_n dX4_tryQuarrel_38 rfl rfl ?_
      refine j_iload_n dX4_tryQuarrel_39 rfl rfl ?_
      refine j_callV (c2_isOneHouse hG hO hH (p := p) (o := o) (by omega) (by omega)) dX4_tryQuarrel_40 jc_X4_392 jmV_X2_isOneHouse rfl rfl hG.1 rfl rfl (by simp) jfr_nil (Nat.le_of_ble_eq_true rfl) ⟨Nat.le_of_ble_eq_true rfl, Nat.le_of_ble_eq_true rfl⟩ ⟨Nat.le_of_ble_eq_true rfl, Nat.le_of_ble_eq_true rfl⟩ (fun r h13 hp9 => ?_) (fun E h9 q => q.elim)
      obtain ⟨rfl, rfl⟩ := hp9
      refine j_if_eq (tgt := 61) dX4_tryQuarrel_43 (by decide) (bi_r32 _) (fun c14 => ?_) (fun c14 => ?_)
      · have qc14 := bi_z c14
        have hpo : p ≠ o := fun e => qc14 (by rw [e])
        refine j_aload_n dX4_tryQuarrel_61 rfl rfl ?_
        refine j_getfield (v := .ref 1) dX4_tryQuarrel_62 jf_X4_10 hX.1 rfl ?_
        refine j_iload_n dX4_tryQuarrel_65 rfl rfl ?_
        refine j_iload_n dX4_tryQuarrel_66 rfl rfl ?_
        refine j_callV (k_doQuarrel hF hq hO  (by omega) (by omega) hpo) dX4_tryQuarrel_67 jc_X4_395 jmV_X1_doQuarrel rfl rfl hF.1 rfl rfl (by simp) jfr_nil (Nat.le_of_ble_eq_true rfl) ⟨Nat.le_of_ble_eq_true rfl, Nat.le_of_ble_eq_true rfl⟩ ⟨Nat.le_of_ble_eq_true rfl, Nat.le_of_ble_eq_true rfl⟩ (fun r h15 hp9 => ?_) (fun E h9 q => q.elim)
        obtain ⟨rfl, rfl⟩ := hp9
        refine j_if_eq (tgt := 87) dX4_tryQuarrel_70 (by decide) (bi_r32 _) (fun c16 => ?_) (fun c16 => ?_)
        · have qc16 := bi_z c16
          refine j_aload_n dX4_tryQuarrel_87 rfl rfl ?_
          refine j_getfield (v := .ref 1) dX4_tryQuarrel_88 jf_X4_10 hX.1 rfl ?_
          refine j_getfield (v := iv (K 7 0)) dX4_tryQuarrel_91 jf_X4_165 hF.1 rfl ?_
          refine j_bipush dX4_tryQuarrel_94 (by decide +kernel) ?_
          refine j_icmp_lt (tgt := 107) dX4_tryQuarrel_96 (by decide) (by omega) (fun c17 => ?_) (fun c17 => ?_)
          · refine j_aload_n dX4_tryQuarrel_107 rfl rfl ?_
            refine j_getfield (v := .ref 1) dX4_tryQuarrel_108 jf_X4_10 hX.1 rfl ?_
            refine j_iload_n dX4_tryQuarrel_111 rfl rfl ?_
            refine j_iload_n dX4_tryQuarrel_112 rfl rfl ?_
            refine j_callV (k_addQuarrel hF hq hO (p := p) (o := o) (by omega)) dX4_tryQuarrel_113 jc_X4_398 jmV_X1_addQuarrel rfl rfl hF.1 rfl rfl (by simp) jfr_nil (Nat.le_of_ble_eq_true rfl) ⟨Nat.le_of_ble_eq_true rfl, Nat.le_of_ble_eq_true rfl⟩ ⟨Nat.le_of_ble_eq_true rfl, Nat.le_of_ble_eq_true rfl⟩ (fun r h18 hp9 => ?_) (fun E h9 q => q.elim)
            obtain ⟨rfl, hG19, hX20⟩ := hp9
            have hG21 := hX.ex okX hX20 (by show 0 + 1 ≤ 1 ∨ 1 + 7 ≤ 0; decide)
            have hG22 := hL.ex okE hX20 (by show 8 + 3 ≤ 1 ∨ 1 + 7 ≤ 8; decide)
            have hG23 := hG.ex okH hX20 (by show 11 + 3 ≤ 1 ∨ 1 + 7 ≤ 11; decide)
            have hE24 : jEx 0 14 h h18 := hE0.tr (hX20.mo (by decide))
            have hI2 := kI_addq hI hp ho (by omega)
            have hO2 := hI2.1
            have hA2 := hI2.2.1
            refine j_aload_n dX4_tryQuarrel_116 rfl rfl ?_
            refine j_getfield (v := .ref 1) dX4_tryQuarrel_117 jf_X4_10 hG21.1 rfl ?_
            refine j_getfield (v := iv (K 7 0 + 1)) dX4_tryQuarrel_120 jf_X4_165 hG19.1 rfl ?_
            subst hZ
            exact j_ireturn dX4_tryQuarrel_123 rfl rfl (xTr.ok (by unfold kQuarrel; rw [if_pos ⟨hp, ho⟩]; (repeat (first | rw [if_pos (by first | omega | assumption)] | rw [if_neg (by first | omega | assumption)])); all_goals rfl) (by omega) ⟨(jfu a (K 7 0) p), (jfu b (K 7 0) o), _, _, hG21, hG19, hG22, hG23, (kQv_add hO hq), hE9, hH⟩ hE24) (Nat.le_refl _) (Nat.le_refl _)
          · refine j_aload_n dX4_tryQuarrel_99 rfl rfl ?_
            refine j_iconst dX4_tryQuarrel_100 ?_
            refine j_bipush dX4_tryQuarrel_101 (by decide +kernel) ?_
            refine j_callV (x_refuse hX (w := 1) (d := 20)) dX4_tryQuarrel_103 jc_X4_369 jmV_X4_refuse rfl rfl hX.1 rfl rfl (by simp) jfr_nil (Nat.le_of_ble_eq_true rfl) ⟨Nat.le_of_ble_eq_true rfl, Nat.le_of_ble_eq_true rfl⟩ ⟨Nat.le_of_ble_eq_true rfl, Nat.le_of_ble_eq_true rfl⟩ (fun r h25 hp9 => ?_) (fun E h9 q => q.elim)
            obtain ⟨rfl, hG26, hX27⟩ := hp9
            have hG28 := hF.ex okF hX27 (by show 1 + 7 ≤ 0 ∨ 0 + 1 ≤ 1; decide)
            have hG29 := hL.ex okE hX27 (by show 8 + 3 ≤ 0 ∨ 0 + 1 ≤ 8; decide)
            have hG30 := hG.ex okH hX27 (by show 11 + 3 ≤ 0 ∨ 0 + 1 ≤ 11; decide)
            have hE31 : jEx 0 14 h h25 := hE0.tr (hX27.mo (by decide))
            subst hZ
            exact j_ireturn dX4_tryQuarrel_106 rfl rfl (xTr.rf (by unfold kQuarrel; rw [if_pos ⟨hp, ho⟩]; (repeat (first | rw [if_pos (by first | omega | assumption)] | rw [if_neg (by first | omega | assumption)])); all_goals rfl) ⟨a, b, _, _, hG26, hG28, hG29, hG30, hq, hE9, hH⟩ hE31) (Nat.le_refl _) (Nat.le_refl _)
        · have qc16 := bi_nz c16
          refine j_aload_n dX4_tryQuarrel_73 rfl rfl ?_
          refine j_bipush dX4_tryQuarrel_74 (by decide +kernel) ?_
          refine j_aload_n dX4_tryQuarrel_76 rfl rfl ?_
          refine j_getfield (v := .ref 1) dX4_tryQuarrel_77 jf_X4_10 hX.1 rfl ?_
          refine j_getfield (v := iv (K 7 0)) dX4_tryQuarrel_80 jf_X4_165 hF.1 rfl ?_
          refine j_callV (x_refuse hX (w := 10) (d := (K 7 0))) dX4_tryQuarrel_83 jc_X4_369 jmV_X4_refuse rfl rfl hX.1 rfl rfl (by simp) jfr_nil (Nat.le_of_ble_eq_true rfl) ⟨Nat.le_of_ble_eq_true rfl, Nat.le_of_ble_eq_true rfl⟩ ⟨Nat.le_of_ble_eq_true rfl, Nat.le_of_ble_eq_true rfl⟩ (fun r h32 hp9 => ?_) (fun E h9 q => q.elim)
          obtain ⟨rfl, hG33, hX34⟩ := hp9
          have hG35 := hF.ex okF hX34 (by show 1 + 7 ≤ 0 ∨ 0 + 1 ≤ 1; decide)
          have hG36 := hL.ex okE hX34 (by show 8 + 3 ≤ 0 ∨ 0 + 1 ≤ 8; decide)
          have hG37 := hG.ex okH hX34 (by show 11 + 3 ≤ 0 ∨ 0 + 1 ≤ 11; decide)
          have hE38 : jEx 0 14 h h32 := hE0.tr (hX34.mo (by decide))
          subst hZ
          exact j_ireturn dX4_tryQuarrel_86 rfl rfl (xTr.rf (by unfold kQuarrel; rw [if_pos ⟨hp, ho⟩]; (repeat (first | rw [if_pos (by first | omega | assumption)] | rw [if_neg (by first | omega | assumption)])); all_goals rfl) ⟨a, b, _, _, hG33, hG35, hG36, hG37, hq, hE9, hH⟩ hE38) (Nat.le_refl _) (Nat.le_refl _)
      · have qc14 := bi_nz c14
        refine j_aload_n dX4_tryQuarrel_46 rfl rfl ?_
        refine j_bipush dX4_tryQuarrel_47 (by decide +kernel) ?_
        refine j_aload_n dX4_tryQuarrel_49 rfl rfl ?_
        refine j_getfield (v := .ref 11) dX4_tryQuarrel_50 jf_X4_44 hX.1 rfl ?_
        refine j_iload_n dX4_tryQuarrel_53 rfl rfl ?_
        refine j_callV (k_houseOf hG hO hH (by omega)) dX4_tryQuarrel_54 jc_X4_111 jmV_X2_houseOf rfl rfl hG.1 rfl rfl (by simp) jfr_nil (Nat.le_of_ble_eq_true rfl) ⟨Nat.le_of_ble_eq_true rfl, Nat.le_of_ble_eq_true rfl⟩ ⟨Nat.le_of_ble_eq_true rfl, Nat.le_of_ble_eq_true rfl⟩ (fun r h39 hp9 => ?_) (fun E h9 q => q.elim)
        obtain ⟨rfl, rfl⟩ := hp9
        have zh := fho_rg hO (p := p) (by omega)
        refine j_callV (x_refuse hX (w := 9) (d := (fho K p))) dX4_tryQuarrel_57 jc_X4_369 jmV_X4_refuse rfl rfl hX.1 rfl rfl (by simp) jfr_nil (Nat.le_of_ble_eq_true rfl) ⟨Nat.le_of_ble_eq_true rfl, Nat.le_of_ble_eq_true rfl⟩ ⟨Nat.le_of_ble_eq_true rfl, Nat.le_of_ble_eq_true rfl⟩ (fun r h40 hp9 => ?_) (fun E h9 q => q.elim)
        obtain ⟨rfl, hG41, hX42⟩ := hp9
        have hG43 := hF.ex okF hX42 (by show 1 + 7 ≤ 0 ∨ 0 + 1 ≤ 1; decide)
        have hG44 := hL.ex okE hX42 (by show 8 + 3 ≤ 0 ∨ 0 + 1 ≤ 8; decide)
        have hG45 := hG.ex okH hX42 (by show 11 + 3 ≤ 0 ∨ 0 + 1 ≤ 11; decide)
        have hE46 : jEx 0 14 h h40 := hE0.tr (hX42.mo (by decide))
        subst hZ
        exact j_ireturn dX4_tryQuarrel_60 rfl rfl (xTr.rf (by unfold kQuarrel; rw [if_pos ⟨hp, ho⟩]; (repeat (first | rw [if_pos (by first | omega | assumption)] | rw [if_neg (by first | omega | assumption)])); all_goals rfl) ⟨a, b, _, _, hG41, hG43, hG44, hG45, hq, hE9, hH⟩ hE46) (Nat.le_refl _) (Nat.le_refl _)
    · refine j_aload_n dX4_tryQuarrel_22 rfl rfl ?_
      refine j_iconst dX4_tryQuarrel_23 ?_
      refine j_aload_n dX4_tryQuarrel_24 rfl rfl ?_
      refine j_iload_n dX4_tryQuarrel_25 rfl rfl ?_
      refine j_iload_n dX4_tryQuarrel_26 rfl rfl ?_
      refine j_callV (x_firstDead hX hF hL hG hq hI hE9 hH (p := p) (o := o) (by omega) (by omega)) dX4_tryQuarrel_27 jc_X4_380 jmV_X4_firstDead rfl rfl hX.1 rfl rfl (by simp) jfr_nil (Nat.le_of_ble_eq_true rfl) ⟨Nat.le_of_ble_eq_true rfl, Nat.le_of_ble_eq_true rfl⟩ ⟨Nat.le_of_ble_eq_true rfl, Nat.le_of_ble_eq_true rfl⟩ (fun r h47 hp9 => ?_) (fun E h9 q => q.elim)
      obtain ⟨rfl, rfl⟩ := hp9
      refine j_callV (x_refuse hX (w := 2) (d := (if K 3 p = 0 then p else o))) dX4_tryQuarrel_30 jc_X4_369 jmV_X4_refuse rfl rfl hX.1 rfl rfl (by simp) jfr_nil (Nat.le_of_ble_eq_true rfl) ⟨Nat.le_of_ble_eq_true rfl, Nat.le_of_ble_eq_true rfl⟩ ⟨Nat.le_of_ble_eq_true rfl, Nat.le_of_ble_eq_true rfl⟩ (fun r h48 hp9 => ?_) (fun E h9 q => q.elim)
      obtain ⟨rfl, hG49, hX50⟩ := hp9
      have hG51 := hF.ex okF hX50 (by show 1 + 7 ≤ 0 ∨ 0 + 1 ≤ 1; decide)
      have hG52 := hL.ex okE hX50 (by show 8 + 3 ≤ 0 ∨ 0 + 1 ≤ 8; decide)
      have hG53 := hG.ex okH hX50 (by show 11 + 3 ≤ 0 ∨ 0 + 1 ≤ 11; decide)
      have hE54 : jEx 0 14 h h48 := hE0.tr (hX50.mo (by decide))
      subst hZ
      exact j_ireturn dX4_tryQuarrel_33 rfl rfl (xTr.rf (by unfold kQuarrel; rw [if_pos ⟨hp, ho⟩]; by_cases q9 : K 3 p = 0 <;> first | (rw [if_pos q9, if_pos q9]; done) | (rw [if_neg q9, if_neg q9, if_pos (by omega)]; done)) ⟨a, b, _, _, hG49, hG51, hG52, hG53, hq, hE9, hH⟩ hE54) (Nat.le_refl _) (Nat.le_refl _)
set_option maxHeartbeats 4000000 in
/-- FamilyOaks.tryGive -/
theorem x_tryGive {X K : fS} {B : Int} {h : jH} (hS : xS X K h) (hI : kI B K) (hB : B + 1000 ≤ 20000000) {p : Int} (hp : 0 ≤ p ∧ p < K 6 0) {v : Int} (hv : -2147483648 ≤ v ∧ v ≤ 2147483647) : jM mX4_tryGive 2 0 0 [] [.ref 0, iv p, iv v] h (xTr X (kGiveR K p v) h) jno := by
  refine j_method (by decide +kernel) rfl (fun _ _ _ => trivial) (Nat.le_of_ble_eq_true rfl) ?_
  generalize hZ : jZ [] 0 0 _ _ = Z
  show J mX4_tryGive (jR 2 0 0) [] Z 0 [(0, .ref 0), (1, iv p), (2, iv v)] [] h 0 0
  obtain ⟨a, b, E, H, hX, hF, hL, hG, hq, hE9, hH⟩ := hS
  have hO := hI.1
  have hA := hI.2.1
  have hn := hO.n
  have hqn := hO.q
  have hE0 : jEx 0 14 h h := jEx.rf
  refine j_iload_n dX4_tryGive_0 rfl rfl ?_
  refine j_iconst dX4_tryGive_1 ?_
  refine j_icmp_lt (tgt := 12) dX4_tryGive_2 (by decide) (by omega) (fun c1 => ?_) (fun c1 => ?_)
  · refine j_bipush dX4_tryGive_12 (by decide +kernel) ?_
    subst hZ
    exact j_ireturn dX4_tryGive_14 rfl rfl (xTr.ok (by unfold kGiveR; rw [if_pos hp]; (repeat (first | rw [if_pos (by first | omega | assumption)] | rw [if_neg (by first | omega | assumption)])); all_goals rfl) (by omega) ⟨a, b, _, _, hX, hF, hL, hG, hq, hE9, hH⟩ hE0) (Nat.le_refl _) (Nat.le_refl _)
  · refine j_iload_n dX4_tryGive_5 rfl rfl ?_
    refine j_sipush dX4_tryGive_6 (by decide +kernel) ?_
    refine j_icmp_le (tgt := 15) dX4_tryGive_9 (by decide) (by omega) (fun c2 => ?_) (fun c2 => ?_)
    · refine j_aload_n dX4_tryGive_15 rfl rfl ?_
      refine j_getfield (v := .ref 1) dX4_tryGive_16 jf_X4_10 hX.1 rfl ?_
      refine j_iload_n dX4_tryGive_19 rfl rfl ?_
      refine j_callV (k_lives hF hq hO  (by omega)) dX4_tryGive_20 jc_X4_104 jmV_X1_lives rfl rfl hF.1 rfl rfl (by simp) jfr_nil (Nat.le_of_ble_eq_true rfl) ⟨Nat.le_of_ble_eq_true rfl, Nat.le_of_ble_eq_true rfl⟩ ⟨Nat.le_of_ble_eq_true rfl, Nat.le_of_ble_eq_true rfl⟩ (fun r h3 hp9 => ?_) (fun E h9 q => q.elim)
      obtain ⟨rfl, rfl⟩ := hp9
      have zl := hO.l p
      refine j_if_ne (tgt := 33) dX4_tryGive_23 (by decide) (by omega) (fun c4 => ?_) (fun c4 => ?_)
      · refine j_aload_n dX4_tryGive_33 rfl rfl ?_
        refine j_getfield (v := .ref 1) dX4_tryGive_34 jf_X4_10 hX.1 rfl ?_
        refine j_iload_n dX4_tryGive_37 rfl rfl ?_
        refine j_iload_n dX4_tryGive_38 rfl rfl ?_
        refine j_callV (k_addCoins hF hq hO (p := p) (v := v) hp) dX4_tryGive_39 jc_X4_401 jmV_X1_addCoins rfl rfl hF.1 rfl rfl (by simp) jfr_nil (Nat.le_of_ble_eq_true rfl) ⟨Nat.le_of_ble_eq_true rfl, Nat.le_of_ble_eq_true rfl⟩ ⟨Nat.le_of_ble_eq_true rfl, Nat.le_of_ble_eq_true rfl⟩ (fun r h5 hp9 => ?_) (fun E h9 q => q.elim)
        obtain ⟨rfl, hG6, hX7⟩ := hp9
        have hG8 := hX.ex okX hX7 (by show 0 + 1 ≤ 1 ∨ 1 + 7 ≤ 0; decide)
        have hG9 := hL.ex okE hX7 (by show 8 + 3 ≤ 1 ∨ 1 + 7 ≤ 8; decide)
        have hG10 := hG.ex okH hX7 (by show 11 + 3 ≤ 1 ∨ 1 + 7 ≤ 11; decide)
        have hE11 : jEx 0 14 h h5 := hE0.tr (hX7.mo (by decide))
        refine j_aload_n dX4_tryGive_42 rfl rfl ?_
        refine j_getfield (v := .ref 1) dX4_tryGive_43 jf_X4_10 hG8.1 rfl ?_
        refine j_dup dX4_tryGive_46 rfl ?_
        refine j_getfield (v := iv ((kcoi K p (K 2 p + v)) 9 0)) dX4_tryGive_47 jf_X4_283 hG6.1 rfl ?_
        refine j_iload_n dX4_tryGive_50 rfl rfl ?_
        refine j_iadd dX4_tryGive_51 ?_
        refine jo_put (S := sF) dX4_tryGive_52 jf_X4_283 (fun q hq => by cases hq; exact ⟨rfl, rfl⟩) (jHold_int _) okF hG6 rfl (fun h12 hG12 hX12 => ?_)
        have hG13 := hG8.ex okX hX12 (by show 0 + 1 ≤ 1 ∨ 1 + 7 ≤ 0; decide)
        have hG14 := hG9.ex okE hX12 (by show 8 + 3 ≤ 1 ∨ 1 + 7 ≤ 8; decide)
        have hG15 := hG10.ex okH hX12 (by show 11 + 3 ≤ 1 ∨ 1 + 7 ≤ 11; decide)
        have hE16 : jEx 0 14 h h12 := hE11.tr (hX12.mo (by decide))
        have hI2 := kI_give hI hp (c := v) (by omega) (by omega)
        have hO2 := hI2.1
        have hA2 := hI2.2.1
        have hG17 : jOb sF 1 (kRw (kGive K p v) a b) h12 := by unfold kGive; rw [kRw_n9]; exact hG12
        refine j_aload_n dX4_tryGive_55 rfl rfl ?_
        refine j_getfield (v := .ref 1) dX4_tryGive_56 jf_X4_10 hG13.1 rfl ?_
        refine j_iload_n dX4_tryGive_59 rfl rfl ?_
        refine j_callV (k_coinsOf hG17 hq hO2  (by omega)) dX4_tryGive_60 jc_X4_101 jmV_X1_coinsOf rfl rfl hG17.1 rfl rfl (by simp) jfr_nil (Nat.le_of_ble_eq_true rfl) ⟨Nat.le_of_ble_eq_true rfl, Nat.le_of_ble_eq_true rfl⟩ ⟨Nat.le_of_ble_eq_true rfl, Nat.le_of_ble_eq_true rfl⟩ (fun r h18 hp9 => ?_) (fun E h9 q => q.elim)
        obtain ⟨rfl, rfl⟩ := hp9
        have zc := hO2.c p
        subst hZ
        exact j_ireturn dX4_tryGive_63 rfl rfl (xTr.ok (by unfold kGiveR; rw [if_pos hp, if_pos (by omega), if_neg (by omega), show kGive K p v 2 p = K 2 p + v from jfu_s]) (by omega) ⟨a, b, _, _, hG13, hG17, hG14, hG15, hq, hE9, hH⟩ hE16) (Nat.le_refl _) (Nat.le_refl _)
      · refine j_aload_n dX4_tryGive_26 rfl rfl ?_
        refine j_iconst dX4_tryGive_27 ?_
        refine j_iload_n dX4_tryGive_28 rfl rfl ?_
        refine j_callV (x_refuse hX (w := 2) (d := p)) dX4_tryGive_29 jc_X4_369 jmV_X4_refuse rfl rfl hX.1 rfl rfl (by simp) jfr_nil (Nat.le_of_ble_eq_true rfl) ⟨Nat.le_of_ble_eq_true rfl, Nat.le_of_ble_eq_true rfl⟩ ⟨Nat.le_of_ble_eq_true rfl, Nat.le_of_ble_eq_true rfl⟩ (fun r h19 hp9 => ?_) (fun E h9 q => q.elim)
        obtain ⟨rfl, hG20, hX21⟩ := hp9
        have hG22 := hF.ex okF hX21 (by show 1 + 7 ≤ 0 ∨ 0 + 1 ≤ 1; decide)
        have hG23 := hL.ex okE hX21 (by show 8 + 3 ≤ 0 ∨ 0 + 1 ≤ 8; decide)
        have hG24 := hG.ex okH hX21 (by show 11 + 3 ≤ 0 ∨ 0 + 1 ≤ 11; decide)
        have hE25 : jEx 0 14 h h19 := hE0.tr (hX21.mo (by decide))
        subst hZ
        exact j_ireturn dX4_tryGive_32 rfl rfl (xTr.rf (by unfold kGiveR; rw [if_pos hp]; (repeat (first | rw [if_pos (by first | omega | assumption)] | rw [if_neg (by first | omega | assumption)])); all_goals rfl) ⟨a, b, _, _, hG20, hG22, hG23, hG24, hq, hE9, hH⟩ hE25) (Nat.le_refl _) (Nat.le_refl _)
    · refine j_bipush dX4_tryGive_12 (by decide +kernel) ?_
      subst hZ
      exact j_ireturn dX4_tryGive_14 rfl rfl (xTr.ok (by unfold kGiveR; rw [if_pos hp]; (repeat (first | rw [if_pos (by first | omega | assumption)] | rw [if_neg (by first | omega | assumption)])); all_goals rfl) (by omega) ⟨a, b, _, _, hX, hF, hL, hG, hq, hE9, hH⟩ hE0) (Nat.le_refl _) (Nat.le_refl _)
set_option maxHeartbeats 4000000 in
/-- FamilyOaks.tryDie -/
theorem x_tryDie {X K : fS} {B : Int} {h : jH} (hS : xS X K h) (hI : kI B K) (hB : B + 1000 ≤ 20000000) {p : Int} (hp : 0 ≤ p ∧ p < K 6 0) : jM mX4_tryDie 6 0 0 [] [.ref 0, iv p] h (xTr X (kDieR K p) h) jno := by
  refine j_method (by decide +kernel) rfl (fun _ _ _ => trivial) (Nat.le_of_ble_eq_true rfl) ?_
  generalize hZ : jZ [] 0 0 _ _ = Z
  show J mX4_tryDie (jR 6 0 0) [] Z 0 [(0, .ref 0), (1, iv p)] [] h 0 0
  obtain ⟨a, b, E, H, hX, hF, hL, hG, hq, hE9, hH⟩ := hS
  have hO := hI.1
  have hA := hI.2.1
  have hn := hO.n
  have hqn := hO.q
  have hE0 : jEx 0 14 h h := jEx.rf
  refine j_aload_n dX4_tryDie_0 rfl rfl ?_
  refine j_getfield (v := .ref 1) dX4_tryDie_1 jf_X4_10 hX.1 rfl ?_
  refine j_iload_n dX4_tryDie_4 rfl rfl ?_
  refine j_callV (k_lives hF hq hO  (by omega)) dX4_tryDie_5 jc_X4_104 jmV_X1_lives rfl rfl hF.1 rfl rfl (by simp) jfr_nil (Nat.le_of_ble_eq_true rfl) ⟨Nat.le_of_ble_eq_true rfl, Nat.le_of_ble_eq_true rfl⟩ ⟨Nat.le_of_ble_eq_true rfl, Nat.le_of_ble_eq_true rfl⟩ (fun r h1 hp9 => ?_) (fun E h9 q => q.elim)
  obtain ⟨rfl, rfl⟩ := hp9
  have zl := hO.l p
  refine j_if_ne (tgt := 18) dX4_tryDie_8 (by decide) (by omega) (fun c2 => ?_) (fun c2 => ?_)
  · refine j_aload_n dX4_tryDie_18 rfl rfl ?_
    refine j_getfield (v := .ref 1) dX4_tryDie_19 jf_X4_10 hX.1 rfl ?_
    refine j_iload_n dX4_tryDie_22 rfl rfl ?_
    refine j_callV (k_heirOf hF hq hO hA (by omega)) dX4_tryDie_23 jc_X4_194 jmV_X1_heirOf rfl rfl hF.1 rfl rfl (by simp) jfr_nil (Nat.le_of_ble_eq_true rfl) ⟨Nat.le_of_ble_eq_true rfl, Nat.le_of_ble_eq_true rfl⟩ ⟨Nat.le_of_ble_eq_true rfl, Nat.le_of_ble_eq_true rfl⟩ (fun r h3 hp9 => ?_) (fun E h9 q => q.elim)
    obtain ⟨rfl, rfl⟩ := hp9
    have zhe := fhe_rg hO hA (p := p) (by omega)
    refine j_istore_n (L' := [(0, _), (1, _), (2, _)]) dX4_tryDie_26 rfl (by decide) rfl ?_
    refine j_aload_n dX4_tryDie_27 rfl rfl ?_
    refine j_getfield (v := .ref 1) dX4_tryDie_28 jf_X4_10 hX.1 rfl ?_
    refine j_iload_n dX4_tryDie_31 rfl rfl ?_
    refine j_iload_n dX4_tryDie_32 rfl rfl ?_
    refine j_callV (k_passCoins hF hq hO (p := p) (e := (fhe K p)) hp zhe) dX4_tryDie_33 jc_X4_404 jmV_X1_passCoins rfl rfl hF.1 rfl rfl (by simp) jfr_nil (Nat.le_of_ble_eq_true rfl) ⟨Nat.le_of_ble_eq_true rfl, Nat.le_of_ble_eq_true rfl⟩ ⟨Nat.le_of_ble_eq_true rfl, Nat.le_of_ble_eq_true rfl⟩ (fun r h4 hp9 => ?_) (fun E h9 q => q.elim)
    obtain ⟨rfl, hG5, hX6⟩ := hp9
    have hG7 := hX.ex okX hX6 (by show 0 + 1 ≤ 1 ∨ 1 + 7 ≤ 0; decide)
    have hG8 := hL.ex okE hX6 (by show 8 + 3 ≤ 1 ∨ 1 + 7 ≤ 8; decide)
    have hG9 := hG.ex okH hX6 (by show 11 + 3 ≤ 1 ∨ 1 + 7 ≤ 11; decide)
    have hE10 : jEx 0 14 h h4 := hE0.tr (hX6.mo (by decide))
    have hP9 := kPass_ok hO hI.2.2.2 hp zhe
    have hO2 := hP9.1
    have hI1 : kI B (kPass K p (fhe K p)) := ⟨hP9.1, fun x => (by rw [(kPass_1 (K := K) (p := p) (e := fhe K p)).2.1]; exact hA x), fun x => (by rw [(kPass_1 (K := K) (p := p) (e := fhe K p)).1]; exact hI.2.2.1 x), hP9.2⟩
    have hA2 := hI1.2.1
    have hp6 : 0 ≤ p ∧ p < kPass K p (fhe K p) 6 0 := by rw [(kPass_1 (K := K) (p := p) (e := fhe K p)).2.2.1]; exact hp
    have hq6 : kQv (kPass K p (fhe K p)) a b := by unfold kPass; split <;> exact hq
    refine j_aload_n dX4_tryDie_36 rfl rfl ?_
    refine j_getfield (v := .ref 1) dX4_tryDie_37 jf_X4_10 hG7.1 rfl ?_
    refine j_iload_n dX4_tryDie_40 rfl rfl ?_
    refine j_callV (k_endMarriage hG5 hq6 hO2 (p := p) hp6) dX4_tryDie_41 jc_X4_389 jmV_X1_endMarriage rfl rfl hG5.1 rfl rfl (by simp) jfr_nil (Nat.le_of_ble_eq_true rfl) ⟨Nat.le_of_ble_eq_true rfl, Nat.le_of_ble_eq_true rfl⟩ ⟨Nat.le_of_ble_eq_true rfl, Nat.le_of_ble_eq_true rfl⟩ (fun r h11 hp9 => ?_) (fun E h9 q => q.elim)
    obtain ⟨rfl, hG12, hX13⟩ := hp9
    have hG14 := hG7.ex okX hX13 (by show 0 + 1 ≤ 1 ∨ 1 + 7 ≤ 0; decide)
    have hG15 := hG8.ex okE hX13 (by show 8 + 3 ≤ 1 ∨ 1 + 7 ≤ 8; decide)
    have hG16 := hG9.ex okH hX13 (by show 11 + 3 ≤ 1 ∨ 1 + 7 ≤ 11; decide)
    have hE17 : jEx 0 14 h h11 := hE10.tr (hX13.mo (by decide))
    have hI3 : kI B (if kPass K p (fhe K p) 1 p < 0 then kPass K p (fhe K p) else kPart (kPass K p (fhe K p)) p) := by
      split
      · exact hI1
      · exact kI_part hI1 hp6 (by omega)
    have hp7 : 0 ≤ p ∧ p < (if kPass K p (fhe K p) 1 p < 0 then kPass K p (fhe K p) else kPart (kPass K p (fhe K p)) p) 6 0 := by split <;> exact hp6
    have hq7 : kQv (if kPass K p (fhe K p) 1 p < 0 then kPass K p (fhe K p) else kPart (kPass K p (fhe K p)) p) a b := by split <;> exact hq6
    refine j_aload_n dX4_tryDie_44 rfl rfl ?_
    refine j_getfield (v := .ref 1) dX4_tryDie_45 jf_X4_10 hG14.1 rfl ?_
    refine j_iload_n dX4_tryDie_48 rfl rfl ?_
    refine j_callV (k_setDead hG12 hq7 hI3.1 (p := p) hp7) dX4_tryDie_49 jc_X4_407 jmV_X1_setDead rfl rfl hG12.1 rfl rfl (by simp) jfr_nil (Nat.le_of_ble_eq_true rfl) ⟨Nat.le_of_ble_eq_true rfl, Nat.le_of_ble_eq_true rfl⟩ ⟨Nat.le_of_ble_eq_true rfl, Nat.le_of_ble_eq_true rfl⟩ (fun r h18 hp9 => ?_) (fun E h9 q => q.elim)
    obtain ⟨rfl, hG19, hX20⟩ := hp9
    have hG21 := hG14.ex okX hX20 (by show 0 + 1 ≤ 1 ∨ 1 + 7 ≤ 0; decide)
    have hG22 := hG15.ex okE hX20 (by show 8 + 3 ≤ 1 ∨ 1 + 7 ≤ 8; decide)
    have hG23 := hG16.ex okH hX20 (by show 11 + 3 ≤ 1 ∨ 1 + 7 ≤ 11; decide)
    have hE24 : jEx 0 14 h h18 := hE17.tr (hX20.mo (by decide))
    have hO4 : jOk B (kliv (if kPass K p (fhe K p) 1 p < 0 then kPass K p (fhe K p) else kPart (kPass K p (fhe K p)) p) p 0) := jOk_liv hI3.1 hp7 (.inl rfl)
    refine j_aload_n dX4_tryDie_52 rfl rfl ?_
    refine j_callV (x_renew hG21 hG19 hG22 hG23 hq7 hO4) dX4_tryDie_53 jc_X4_336 jmV_X4_renew rfl rfl hG21.1 rfl rfl (by simp) jfr_nil (Nat.le_of_ble_eq_true rfl) ⟨Nat.le_of_ble_eq_true rfl, Nat.le_of_ble_eq_true rfl⟩ ⟨Nat.le_of_ble_eq_true rfl, Nat.le_of_ble_eq_true rfl⟩ (fun r h25 hp9 => ?_) (fun E h9 q => q.elim)
    obtain ⟨rfl, E31, H32, hG26, hG27, hE929, hH30, hX28⟩ := hp9
    have hG33 := hG21.ex okX hX28 (by show 0 + 1 ≤ 8 ∨ 8 + 6 ≤ 0; omega)
    have hG34 := hG19.ex okF hX28 (by show 1 + 7 ≤ 8 ∨ 8 + 6 ≤ 1; omega)
    have hE35 : jEx 0 14 h h25 := hE24.tr (hX28.mo (by decide))
    refine j_iload_n dX4_tryDie_56 rfl rfl ?_
    subst hZ
    exact j_ireturn dX4_tryDie_57 rfl rfl (xTr.ok (by unfold kDieR kDie; rw [if_pos hp, if_neg (by omega), (kPass_1 (K := K) (p := p) (e := fhe K p)).1]) (by omega) ⟨a, b, _, _, hG33, hG34, hG26, hG27, hq7, hE929, hH30⟩ hE35) (Nat.le_refl _) (Nat.le_refl _)
  · refine j_aload_n dX4_tryDie_11 rfl rfl ?_
    refine j_iconst dX4_tryDie_12 ?_
    refine j_iload_n dX4_tryDie_13 rfl rfl ?_
    refine j_callV (x_refuse hX (w := 2) (d := p)) dX4_tryDie_14 jc_X4_369 jmV_X4_refuse rfl rfl hX.1 rfl rfl (by simp) jfr_nil (Nat.le_of_ble_eq_true rfl) ⟨Nat.le_of_ble_eq_true rfl, Nat.le_of_ble_eq_true rfl⟩ ⟨Nat.le_of_ble_eq_true rfl, Nat.le_of_ble_eq_true rfl⟩ (fun r h36 hp9 => ?_) (fun E h9 q => q.elim)
    obtain ⟨rfl, hG37, hX38⟩ := hp9
    have hG39 := hF.ex okF hX38 (by show 1 + 7 ≤ 0 ∨ 0 + 1 ≤ 1; decide)
    have hG40 := hL.ex okE hX38 (by show 8 + 3 ≤ 0 ∨ 0 + 1 ≤ 8; decide)
    have hG41 := hG.ex okH hX38 (by show 11 + 3 ≤ 0 ∨ 0 + 1 ≤ 11; decide)
    have hE42 : jEx 0 14 h h36 := hE0.tr (hX38.mo (by decide))
    subst hZ
    exact j_ireturn dX4_tryDie_17 rfl rfl (xTr.rf (by unfold kDieR; rw [if_pos hp]; (repeat (first | rw [if_pos (by first | omega | assumption)] | rw [if_neg (by first | omega | assumption)])); all_goals rfl) ⟨a, b, _, _, hG37, hG39, hG40, hG41, hq, hE9, hH⟩ hE42) (Nat.le_refl _) (Nat.le_refl _)
