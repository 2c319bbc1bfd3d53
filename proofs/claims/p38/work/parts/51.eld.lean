theorem eNo_l {B : Int} {F E : fS} (hO : jOk B F) {l0 : Int} (h0 : l0 ≤ 5) (h : ∀ l p : Int, 0 ≤ l → l < l0 → 0 ≤ p → p < 24 → E 0 (l * 24 + p) = upk (F 0) (2 ^ l.toNat) p) {l p : Int} (hl : 0 ≤ l ∧ l < l0) (hp : -1 ≤ p ∧ p < 24) : eNo E l p = upk (F 0) (2 ^ l.toNat) p := by
  unfold eNo
  by_cases h1 : 0 ≤ p
  · rw [if_pos ⟨⟨hl.1, by omega⟩, h1, hp.2⟩]
    exact h l p hl.1 hl.2 h1 hp.2
  · rw [if_neg (fun q => h1 q.2.1), show p = -1 by omega, upk_e hO.par1]
theorem upk_dbl {par : Int → Int} {l p : Int} (hl : 0 < l) : upk par (2 ^ (l - 1).toNat) (upk par (2 ^ (l - 1).toNat) p) = upk par (2 ^ l.toNat) p := by
  rw [← upk_a, show l = (l - 1) + 1 by omega, pow_s (by omega : 0 ≤ l - 1), show l - 1 + 1 - 1 = l - 1 by omega, show 2 * 2 ^ (l - 1).toNat = 2 ^ (l - 1).toNat + 2 ^ (l - 1).toNat by omega]
theorem jOk.u24 {B : Int} {F : fS} (h : jOk B F) {x : Int} (hx : -1 ≤ x ∧ x < 24) (k : Nat) : -1 ≤ upk (F 0) k x ∧ upk (F 0) k x < 24 := upk_in h.r24 hx k
set_option maxHeartbeats 4000000 in
/-- Elders.notedOf -/
theorem c0_notedOf {k : Nat} {E : fS} {h : jH} (hL : jOb sE k E h) {l p : Int} (hl : -2147483648 ≤ l ∧ l ≤ 2147483647) (hp : -2147483648 ≤ p ∧ p ≤ 2147483647) : jM mX0_notedOf 1 0 0 [] [.ref k, iv l, iv p] h (jRet (iv (eNo E l p)) h) jno := by
  refine j_method (by decide +kernel) rfl (fun _ _ _ => trivial) (Nat.le_of_ble_eq_true rfl) ?_
  generalize hZ : jZ [] 0 0 _ _ = Z
  show J mX0_notedOf (jR 1 0 0) [] Z 0 [(0, .ref k), (1, iv l), (2, iv p)] [] h 0 0
  refine j_iload_n dX0_notedOf_0 rfl rfl ?_
  refine j_if_lt (tgt := 23) dX0_notedOf_1 (by decide) (by omega) (fun c1 => ?_) (fun c1 => ?_)
  · refine j_iconst dX0_notedOf_23 ?_
    refine j_istore_n (L' := [(0, _), (1, _), (2, _), (3, _)]) dX0_notedOf_24 rfl (by decide) rfl ?_
    refine j_iload_n dX0_notedOf_25 rfl rfl ?_
    refine j_if_eq (tgt := 43) dX0_notedOf_26 (by decide) (by omega) (fun c2 => ?_) (fun c2 => absurd (by decide) c2)
    refine j_iconst dX0_notedOf_43 ?_
    subst hZ
    exact j_ireturn dX0_notedOf_44 rfl rfl (jRet.i (by unfold eNo; first | rw [if_pos (by omega)] | rw [if_neg (by omega)])) (Nat.le_refl _) (Nat.le_refl _)
  · refine j_iload_n dX0_notedOf_4 rfl rfl ?_
    refine j_iconst dX0_notedOf_5 ?_
    refine j_icmp_ge (tgt := 23) dX0_notedOf_6 (by decide) (by omega) (fun c3 => ?_) (fun c3 => ?_)
    · refine j_iconst dX0_notedOf_23 ?_
      refine j_istore_n (L' := [(0, _), (1, _), (2, _), (3, _)]) dX0_notedOf_24 rfl (by decide) rfl ?_
      refine j_iload_n dX0_notedOf_25 rfl rfl ?_
      refine j_if_eq (tgt := 43) dX0_notedOf_26 (by decide) (by omega) (fun c4 => ?_) (fun c4 => absurd (by decide) c4)
      refine j_iconst dX0_notedOf_43 ?_
      subst hZ
      exact j_ireturn dX0_notedOf_44 rfl rfl (jRet.i (by unfold eNo; first | rw [if_pos (by omega)] | rw [if_neg (by omega)])) (Nat.le_refl _) (Nat.le_refl _)
    · refine j_iload_n dX0_notedOf_9 rfl rfl ?_
      refine j_if_lt (tgt := 23) dX0_notedOf_10 (by decide) (by omega) (fun c5 => ?_) (fun c5 => ?_)
      · refine j_iconst dX0_notedOf_23 ?_
        refine j_istore_n (L' := [(0, _), (1, _), (2, _), (3, _)]) dX0_notedOf_24 rfl (by decide) rfl ?_
        refine j_iload_n dX0_notedOf_25 rfl rfl ?_
        refine j_if_eq (tgt := 43) dX0_notedOf_26 (by decide) (by omega) (fun c6 => ?_) (fun c6 => absurd (by decide) c6)
        refine j_iconst dX0_notedOf_43 ?_
        subst hZ
        exact j_ireturn dX0_notedOf_44 rfl rfl (jRet.i (by unfold eNo; first | rw [if_pos (by omega)] | rw [if_neg (by omega)])) (Nat.le_refl _) (Nat.le_refl _)
      · refine j_iload_n dX0_notedOf_13 rfl rfl ?_
        refine j_bipush dX0_notedOf_14 (by decide +kernel) ?_
        refine j_icmp_ge (tgt := 23) dX0_notedOf_16 (by decide) (by omega) (fun c7 => ?_) (fun c7 => ?_)
        · refine j_iconst dX0_notedOf_23 ?_
          refine j_istore_n (L' := [(0, _), (1, _), (2, _), (3, _)]) dX0_notedOf_24 rfl (by decide) rfl ?_
          refine j_iload_n dX0_notedOf_25 rfl rfl ?_
          refine j_if_eq (tgt := 43) dX0_notedOf_26 (by decide) (by omega) (fun c8 => ?_) (fun c8 => absurd (by decide) c8)
          refine j_iconst dX0_notedOf_43 ?_
          subst hZ
          exact j_ireturn dX0_notedOf_44 rfl rfl (jRet.i (by unfold eNo; first | rw [if_pos (by omega)] | rw [if_neg (by omega)])) (Nat.le_refl _) (Nat.le_refl _)
        · refine j_iconst dX0_notedOf_19 ?_
          refine j_goto (tgt := 24) dX0_notedOf_20 (by decide) ?_
          refine j_istore_n (L' := [(0, _), (1, _), (2, _), (3, _)]) dX0_notedOf_24 rfl (by decide) rfl ?_
          refine j_iload_n dX0_notedOf_25 rfl rfl ?_
          refine j_if_eq (tgt := 43) dX0_notedOf_26 (by decide) (by omega) (fun c9 => absurd c9 (by decide)) (fun c9 => ?_)
          refine j_aload_n dX0_notedOf_29 rfl rfl ?_
          refine j_getfield (v := .ref (k + 1)) dX0_notedOf_30 jf_X0_11 hL.1 rfl ?_
          refine j_iload_n dX0_notedOf_33 rfl rfl ?_
          refine j_bipush dX0_notedOf_34 (by decide +kernel) ?_
          refine j_imul dX0_notedOf_36 ?_
          refine j_iload_n dX0_notedOf_37 rfl rfl ?_
          refine j_iadd dX0_notedOf_38 ?_
          refine j_iaload (f := E 0) dX0_notedOf_39 (hL.a 0 1 0 120 rfl) (by omega) (by decide) ?_
          refine j_goto (tgt := 44) dX0_notedOf_40 (by decide) ?_
          subst hZ
          exact j_ireturn dX0_notedOf_44 rfl rfl (jRet.i (by unfold eNo; first | rw [if_pos (by omega)] | rw [if_neg (by omega)])) (Nat.le_refl _) (Nat.le_refl _)
set_option maxHeartbeats 4000000 in
/-- Elders.depthOf -/
theorem c0_depthOf {k : Nat} {E : fS} {h : jH} (hL : jOb sE k E h) {p : Int} (hp : -2147483648 ≤ p ∧ p ≤ 2147483647) : jM mX0_depthOf 1 0 0 [] [.ref k, iv p] h (jRet (iv (if 0 ≤ p ∧ p < 24 then E 1 p else 0)) h) jno := by
  refine j_method (by decide +kernel) rfl (fun _ _ _ => trivial) (Nat.le_of_ble_eq_true rfl) ?_
  generalize hZ : jZ [] 0 0 _ _ = Z
  show J mX0_depthOf (jR 1 0 0) [] Z 0 [(0, .ref k), (1, iv p)] [] h 0 0
  refine j_iload_n dX0_depthOf_0 rfl rfl ?_
  refine j_if_lt (tgt := 19) dX0_depthOf_1 (by decide) (by omega) (fun c1 => ?_) (fun c1 => ?_)
  · refine j_iconst dX0_depthOf_19 ?_
    subst hZ
    exact j_ireturn dX0_depthOf_20 rfl rfl (jRet.i (by first | rw [if_pos (by omega)] | rw [if_neg (by omega)])) (Nat.le_refl _) (Nat.le_refl _)
  · refine j_iload_n dX0_depthOf_4 rfl rfl ?_
    refine j_bipush dX0_depthOf_5 (by decide +kernel) ?_
    refine j_icmp_ge (tgt := 19) dX0_depthOf_7 (by decide) (by omega) (fun c2 => ?_) (fun c2 => ?_)
    · refine j_iconst dX0_depthOf_19 ?_
      subst hZ
      exact j_ireturn dX0_depthOf_20 rfl rfl (jRet.i (by first | rw [if_pos (by omega)] | rw [if_neg (by omega)])) (Nat.le_refl _) (Nat.le_refl _)
    · refine j_aload_n dX0_depthOf_10 rfl rfl ?_
      refine j_getfield (v := .ref (k + 2)) dX0_depthOf_11 jf_X0_15 hL.1 rfl ?_
      refine j_iload_n dX0_depthOf_14 rfl rfl ?_
      refine j_iaload (f := E 1) dX0_depthOf_15 (hL.a 1 2 0 24 rfl) (by omega) (by decide) ?_
      refine j_goto (tgt := 20) dX0_depthOf_16 (by decide) ?_
      subst hZ
      exact j_ireturn dX0_depthOf_20 rfl rfl (jRet.i (by first | rw [if_pos (by omega)] | rw [if_neg (by omega)])) (Nat.le_refl _) (Nat.le_refl _)
set_option maxHeartbeats 4000000 in
/-- Elders.leapUp -/
theorem c0_leapUp {k : Nat} {F E : fS} {B : Int} {h : jH} (hL : jOb sE k E h) (hO : jOk B F) (hA : fAc F) (hE9 : eOk F E) {p e : Int} (hp : 0 ≤ p ∧ p < 24) (he : 0 ≤ e ∧ e < 32) : jM mX0_leapUp 1 0 0 [] [.ref k, iv p, iv e] h (jRet (iv (upk (F 0) e.toNat p)) h) jno := by
  refine j_method (by decide +kernel) rfl (fun _ _ _ => trivial) (Nat.le_of_ble_eq_true rfl) ?_
  generalize hZ : jZ [] 0 0 _ _ = Z
  show J mX0_leapUp (jR 1 0 0) [] Z 0 [(0, .ref k), (1, iv p), (2, iv e)] [] h 0 0
  refine j_iload_n dX0_leapUp_0 rfl rfl ?_
  refine j_istore_n (L' := [(0, _), (1, _), (2, _), (3, _)]) dX0_leapUp_1 rfl (by decide) rfl ?_
  refine j_iload_n dX0_leapUp_2 rfl rfl ?_
  refine j_istore (L' := [(0, _), (1, _), (2, _), (3, _), (4, _)]) dX0_leapUp_3 (by decide) rfl ?_
  refine j_iconst dX0_leapUp_5 ?_
  refine j_istore (L' := [(0, _), (1, _), (2, _), (3, _), (4, _), (5, _)]) dX0_leapUp_6 (by decide) rfl ?_
  refine jloop (P := fun z9 : Int × Int × Int => J mX0_leapUp (jR 1 0 0) [] Z 8 [(0, .ref k), (1, iv p), (2, iv e), (3, iv z9.1), (4, iv z9.2.1), (5, iv z9.2.2)] [] h 0 0) (fun z9 => -1 ≤ z9.2.2 ∧ z9.2.2 < 5 ∧ -1 ≤ z9.1 ∧ z9.1 < 24 ∧ 0 ≤ z9.2.1 ∧ z9.2.1 < 32 ∧ (z9.1 ≠ -1 → z9.2.1 < ((2 ^ (z9.2.2 + 1).toNat : Nat) : Int)) ∧ upk (F 0) z9.2.1.toNat z9.1 = upk (F 0) e.toNat p) (fun z9 => (z9.2.2 + 1).toNat) ?_ (p, e, 4) ?_
  · rintro ⟨a, q, l⟩ hinv ih
    dsimp only at hinv ih ⊢
    obtain ⟨i1, i2, i3, i4, i5, i6, i7, i8⟩ := hinv
    have w1 := pow_p l
    have w2 := fun q => pow_b (l := l) q
    have w3 := fun q => pow_s (l := l) q
    have w4 := w2 i2
    refine j_iload dX0_leapUp_8 rfl ?_
    refine j_if_lt (tgt := 60) dX0_leapUp_10 (by decide) (by omega) (fun c1 => ?_) (fun c1 => ?_)
    · refine j_iload dX0_leapUp_60 rfl ?_
      refine j_if_ne (tgt := 69) dX0_leapUp_62 (by decide) (by omega) (fun c2 => ?_) (fun c2 => ?_)
      · refine j_iconst dX0_leapUp_69 ?_
        subst hZ
        exact j_ireturn dX0_leapUp_70 rfl rfl (jRet.i (by rw [← i8]; first | (rw [show q = 0 by omega]; rfl) | (have e9 : a = -1 := (by refine Decidable.not_not.mp fun z => ?_; have := i7 z; rw [show l = -1 by omega] at this; have : q < ((1 : Nat) : Int) := this; omega); rw [e9, upk_e hO.par1]))) (Nat.le_refl _) (Nat.le_refl _)
      · refine j_iload_n dX0_leapUp_65 rfl rfl ?_
        refine j_goto (tgt := 70) dX0_leapUp_66 (by decide) ?_
        subst hZ
        exact j_ireturn dX0_leapUp_70 rfl rfl (jRet.i (by rw [← i8]; first | (rw [show q = 0 by omega]; rfl) | (have e9 : a = -1 := (by refine Decidable.not_not.mp fun z => ?_; have := i7 z; rw [show l = -1 by omega] at this; have : q < ((1 : Nat) : Int) := this; omega); rw [e9, upk_e hO.par1]))) (Nat.le_refl _) (Nat.le_refl _)
    · refine j_iload dX0_leapUp_13 rfl ?_
      refine j_iconst dX0_leapUp_15 ?_
      refine j_iload dX0_leapUp_16 rfl ?_
      refine j_ishl (z := ((2 ^ Int.toNat l : Nat) : Int)) dX0_leapUp_18 (jz_shl1 (by omega)) ?_
      refine j_icmp_lt (tgt := 54) dX0_leapUp_19 (by decide) (by omega) (fun c3 => ?_) (fun c3 => ?_)
      · refine j_iinc (L' := [(0, _), (1, _), (2, _), (3, _), (4, _), (5, _)]) dX0_leapUp_54 rfl (by decide) rfl ?_
        refine j_goto (tgt := 8) dX0_leapUp_57 (by decide) ?_
        have w5 := w3 (by omega)
        refine ih (a, q, l - 1) ⟨by show -1 ≤ l - 1; omega, by show l - 1 < 5; omega, i3, i4, i5, i6, fun _ => ?_, i8⟩ (by show (l - 1 + 1).toNat < (l + 1).toNat; omega)
        show q < ((2 ^ (l - 1 + 1).toNat : Nat) : Int)
        rw [show l - 1 + 1 = l by omega]
        have := i7 (by omega)
        omega
      · refine j_iload_n dX0_leapUp_22 rfl rfl ?_
        refine j_if_lt (tgt := 54) dX0_leapUp_23 (by decide) (by omega) (fun c4 => ?_) (fun c4 => ?_)
        · refine j_iinc (L' := [(0, _), (1, _), (2, _), (3, _), (4, _), (5, _)]) dX0_leapUp_54 rfl (by decide) rfl ?_
          refine j_goto (tgt := 8) dX0_leapUp_57 (by decide) ?_
          have w5 := w3 (by omega)
          refine ih (a, q, l - 1) ⟨by show -1 ≤ l - 1; omega, by show l - 1 < 5; omega, i3, i4, i5, i6, fun _ => ?_, i8⟩ (by show (l - 1 + 1).toNat < (l + 1).toNat; omega)
          show q < ((2 ^ (l - 1 + 1).toNat : Nat) : Int)
          rw [show l - 1 + 1 = l by omega]
          have := i7 (by omega)
          omega
        · refine j_iload_n dX0_leapUp_26 rfl rfl ?_
          refine j_bipush dX0_leapUp_27 (by decide +kernel) ?_
          refine j_icmp_ge (tgt := 54) dX0_leapUp_29 (by decide) (by omega) (fun c5 => ?_) (fun c5 => ?_)
          · refine j_iinc (L' := [(0, _), (1, _), (2, _), (3, _), (4, _), (5, _)]) dX0_leapUp_54 rfl (by decide) rfl ?_
            refine j_goto (tgt := 8) dX0_leapUp_57 (by decide) ?_
            have w5 := w3 (by omega)
            refine ih (a, q, l - 1) ⟨by show -1 ≤ l - 1; omega, by show l - 1 < 5; omega, i3, i4, i5, i6, fun _ => ?_, i8⟩ (by show (l - 1 + 1).toNat < (l + 1).toNat; omega)
            show q < ((2 ^ (l - 1 + 1).toNat : Nat) : Int)
            rw [show l - 1 + 1 = l by omega]
            have := i7 (by omega)
            omega
          · refine j_aload_n dX0_leapUp_32 rfl rfl ?_
            refine j_getfield (v := .ref (k + 1)) dX0_leapUp_33 jf_X0_11 hL.1 rfl ?_
            refine j_iload dX0_leapUp_36 rfl ?_
            refine j_bipush dX0_leapUp_38 (by decide +kernel) ?_
            refine j_imul dX0_leapUp_40 ?_
            refine j_iload_n dX0_leapUp_41 rfl rfl ?_
            refine j_iadd dX0_leapUp_42 ?_
            refine j_iaload (f := E 0) dX0_leapUp_43 (hL.a 0 1 0 120 rfl) (by omega) (by decide) ?_
            refine j_istore_n (L' := [(0, _), (1, _), (2, _), (3, _), (4, _), (5, _)]) dX0_leapUp_44 rfl (by decide) rfl ?_
            refine j_iload dX0_leapUp_45 rfl ?_
            refine j_iconst dX0_leapUp_47 ?_
            refine j_iload dX0_leapUp_48 rfl ?_
            refine j_ishl (z := ((2 ^ Int.toNat l : Nat) : Int)) dX0_leapUp_50 (jz_shl1 (by omega)) ?_
            refine j_isub dX0_leapUp_51 ?_
            refine j_istore (L' := [(0, _), (1, _), (2, _), (3, _), (4, _), (5, _)]) dX0_leapUp_52 (by decide) rfl ?_
            refine j_iinc (L' := [(0, _), (1, _), (2, _), (3, _), (4, _), (5, _)]) dX0_leapUp_54 rfl (by decide) rfl ?_
            refine j_goto (tgt := 8) dX0_leapUp_57 (by decide) ?_
            have w5 := w3 (by omega)
            have e9 := hE9.1 l a (by omega) i2 (by omega) i4
            have e8 := hO.u24 (x := a) ⟨i3, i4⟩ (2 ^ l.toNat)
            have e7 := i7 (by omega)
            refine ih (E 0 (l * 24 + a), q - ((2 ^ l.toNat : Nat) : Int), l - 1) ⟨by show -1 ≤ l - 1; omega, by show l - 1 < 5; omega, by show -1 ≤ E 0 (l * 24 + a); omega, by show E 0 (l * 24 + a) < 24; omega, by show 0 ≤ q - _; omega, by show q - _ < 32; omega, fun _ => ?_, ?_⟩ (by show (l - 1 + 1).toNat < (l + 1).toNat; omega)
            · show q - _ < ((2 ^ (l - 1 + 1).toNat : Nat) : Int)
              rw [show l - 1 + 1 = l by omega]
              omega
            · show upk (F 0) (q - ((2 ^ l.toNat : Nat) : Int)).toNat (E 0 (l * 24 + a)) = _
              rw [e9, ← upk_a, show 2 ^ l.toNat + (q - ((2 ^ l.toNat : Nat) : Int)).toNat = q.toNat by omega]
              exact i8
  · dsimp only
    exact ⟨by omega, by omega, by omega, by omega, by omega, by omega, fun _ => by show e < ((32 : Nat) : Int); omega, rfl⟩
theorem mlp_pow {l q : Int} (hl : 0 ≤ l ∧ l < 5) (h1 : ((2 ^ l.toNat : Nat) : Int) ≤ q) (h2 : q < ((2 ^ (l + 1).toNat : Nat) : Int)) : mlp 5 q = 1 + mlp 5 (q - ((2 ^ l.toNat : Nat) : Int)) := by
  have k : ∀ l : Fin 5, ∀ q : Fin 32, 2 ^ l.val ≤ q.val → q.val < 2 ^ (l.val + 1) → mlp 5 ((q.val : Nat) : Int) = 1 + mlp 5 (((q.val : Nat) : Int) - ((2 ^ l.val : Nat) : Int)) := by decide +kernel
  have b := pow_b (l := l) hl.2
  rw [show (l + 1).toNat = l.toNat + 1 by omega] at h2
  have hq : q < 32 := by
    have := pow_s hl.1
    rw [show (l + 1).toNat = l.toNat + 1 by omega] at this
    omega
  have e := k ⟨l.toNat, by omega⟩ ⟨q.toNat, by omega⟩ (by show 2 ^ l.toNat ≤ q.toNat; omega) (by show q.toNat < 2 ^ (l.toNat + 1); omega)
  dsimp only at e
  rw [Int.toNat_of_nonneg (by omega)] at e
  exact e
set_option maxHeartbeats 4000000 in
/-- Elders.leapsFor -/
theorem c0_leapsFor {k : Nat} {E : fS} {h : jH} (hL : jOb sE k E h) {e : Int} (he : 0 ≤ e ∧ e < 32) : jM mX0_leapsFor 1 0 0 [] [.ref k, iv e] h (jRet (iv (mlp 5 e)) h) jno := by
  refine j_method (by decide +kernel) rfl (fun _ _ _ => trivial) (Nat.le_of_ble_eq_true rfl) ?_
  generalize hZ : jZ [] 0 0 _ _ = Z
  show J mX0_leapsFor (jR 1 0 0) [] Z 0 [(0, .ref k), (1, iv e)] [] h 0 0
  refine j_iconst dX0_leapsFor_0 ?_
  refine j_istore_n (L' := [(0, _), (1, _), (2, _)]) dX0_leapsFor_1 rfl (by decide) rfl ?_
  refine j_iload_n dX0_leapsFor_2 rfl rfl ?_
  refine j_istore_n (L' := [(0, _), (1, _), (2, _), (3, _)]) dX0_leapsFor_3 rfl (by decide) rfl ?_
  refine j_iconst dX0_leapsFor_4 ?_
  refine j_istore (L' := [(0, _), (1, _), (2, _), (3, _), (4, _)]) dX0_leapsFor_5 (by decide) rfl ?_
  refine jloop (P := fun z9 : Int × Int × Int => J mX0_leapsFor (jR 1 0 0) [] Z 7 [(0, .ref k), (1, iv e), (2, iv z9.1), (3, iv z9.2.1), (4, iv z9.2.2)] [] h 0 0) (fun z9 => -1 ≤ z9.2.2 ∧ z9.2.2 < 5 ∧ 0 ≤ z9.2.1 ∧ z9.2.1 < ((2 ^ (z9.2.2 + 1).toNat : Nat) : Int) ∧ mlp 5 e = z9.1 + mlp 5 z9.2.1) (fun z9 => (z9.2.2 + 1).toNat) ?_ (0, e, 4) ?_
  · rintro ⟨a, q, l⟩ hinv ih
    dsimp only at hinv ih ⊢
    obtain ⟨i1, i2, i3, i4, i5⟩ := hinv
    have w1 := pow_p l
    have w2 := fun q => pow_b (l := l) q
    have w3 := fun q => pow_s (l := l) q
    have w4 := w2 i2
    refine j_iload dX0_leapsFor_7 rfl ?_
    refine j_if_lt (tgt := 36) dX0_leapsFor_9 (by decide) (by omega) (fun c1 => ?_) (fun c1 => ?_)
    · refine j_iload_n dX0_leapsFor_36 rfl rfl ?_
      subst hZ
      exact j_ireturn dX0_leapsFor_37 rfl rfl (jRet.i (by rw [show l = -1 by omega] at i4; have i6 : q < ((1 : Nat) : Int) := i4; rw [i5, show q = 0 by omega]; show a + 0 = a; omega)) (Nat.le_refl _) (Nat.le_refl _)
    · refine j_iload_n dX0_leapsFor_12 rfl rfl ?_
      refine j_iconst dX0_leapsFor_13 ?_
      refine j_iload dX0_leapsFor_14 rfl ?_
      refine j_ishl (z := ((2 ^ Int.toNat l : Nat) : Int)) dX0_leapsFor_16 (jz_shl1 (by omega)) ?_
      refine j_icmp_lt (tgt := 30) dX0_leapsFor_17 (by decide) (by omega) (fun c2 => ?_) (fun c2 => ?_)
      · refine j_iinc (L' := [(0, _), (1, _), (2, _), (3, _), (4, _)]) dX0_leapsFor_30 rfl (by decide) rfl ?_
        refine j_goto (tgt := 7) dX0_leapsFor_33 (by decide) ?_
        have w5 := w3 (by omega)
        refine ih (a, q, l - 1) ⟨by show -1 ≤ l - 1; omega, by show l - 1 < 5; omega, i3, ?_, i5⟩ (by show (l - 1 + 1).toNat < (l + 1).toNat; omega)
        show q < ((2 ^ (l - 1 + 1).toNat : Nat) : Int)
        rw [show l - 1 + 1 = l by omega]
        omega
      · refine j_iinc (L' := [(0, _), (1, _), (2, _), (3, _), (4, _)]) dX0_leapsFor_20 rfl (by decide) rfl ?_
        refine j_iload_n dX0_leapsFor_23 rfl rfl ?_
        refine j_iconst dX0_leapsFor_24 ?_
        refine j_iload dX0_leapsFor_25 rfl ?_
        refine j_ishl (z := ((2 ^ Int.toNat l : Nat) : Int)) dX0_leapsFor_27 (jz_shl1 (by omega)) ?_
        refine j_isub dX0_leapsFor_28 ?_
        refine j_istore_n (L' := [(0, _), (1, _), (2, _), (3, _), (4, _)]) dX0_leapsFor_29 rfl (by decide) rfl ?_
        refine j_iinc (L' := [(0, _), (1, _), (2, _), (3, _), (4, _)]) dX0_leapsFor_30 rfl (by decide) rfl ?_
        refine j_goto (tgt := 7) dX0_leapsFor_33 (by decide) ?_
        have w5 := w3 (by omega)
        have e9 := mlp_pow (l := l) (q := q) ⟨by omega, i2⟩ (by omega) i4
        refine ih (a + 1, q - ((2 ^ l.toNat : Nat) : Int), l - 1) ⟨by show -1 ≤ l - 1; omega, by show l - 1 < 5; omega, by show 0 ≤ q - _; omega, ?_, by show mlp 5 e = a + 1 + mlp 5 (q - ((2 ^ l.toNat : Nat) : Int)); omega⟩ (by show (l - 1 + 1).toNat < (l + 1).toNat; omega)
        show q - _ < ((2 ^ (l - 1 + 1).toNat : Nat) : Int)
        rw [show l - 1 + 1 = l by omega]
        omega
  · dsimp only
    exact ⟨by omega, by omega, by omega, by show e < ((32 : Nat) : Int); omega, by omega⟩
set_option maxHeartbeats 4000000 in
/-- Elders.renew -/
theorem c0_renew {k : Nat} {E : fS} {h : jH} (hL : jOb sE k E h) {kf : Nat} {F : fS} {B : Int} (hd : k + 3 ≤ kf ∨ kf + 7 ≤ k) (hF : jOb sF kf F h) (hO : jOk B F) : jM mX0_renew 2 0 0 [] [.ref k, .ref kf] h (fun r h' => r = none ∧ ∃ E', jOb sE k E' h' ∧ eOk F E' ∧ jEx k 3 h h') jno := by
  refine j_method (by decide +kernel) rfl (fun _ _ _ => trivial) (Nat.le_of_ble_eq_true rfl) ?_
  generalize hZ : jZ [] 0 0 _ _ = Z
  show J mX0_renew (jR 2 0 0) [] Z 0 [(0, .ref k), (1, .ref kf)] [] h 0 0
  have hE0 : jEx k 3 h h := jEx.rf
  refine j_iconst dX0_renew_0 ?_
  refine j_istore_n (L' := [(0, _), (1, _), (2, _)]) dX0_renew_1 rfl (by decide) rfl ?_
  refine jloop (P := fun z9 : Int × fS => ∀ h1 : jH, jOb sE k z9.2 h1 → jOb sF kf F h1 → jEx k 3 h h1 → J mX0_renew (jR 2 0 0) [] Z 2 [(0, .ref k), (1, .ref kf), (2, iv z9.1)] [] h1 0 0) (fun z9 => 0 ≤ z9.1 ∧ z9.1 ≤ 24 ∧ ∀ p, 0 ≤ p → p < z9.1 → z9.2 0 p = F 0 p ∧ z9.2 1 p = fdep F p) (fun z9 => (24 - z9.1).toNat) ?_ (0, E) ?_ _ hL hF hE0
  · rintro ⟨i, X⟩ hinv ih
    dsimp only at hinv ih ⊢
    intro h2 hG3 hG4 hE5
    obtain ⟨i1, i2, i3⟩ := hinv
    refine j_iload_n dX0_renew_2 rfl rfl ?_
    refine j_bipush dX0_renew_3 (by decide +kernel) ?_
    refine j_icmp_ge (tgt := 36) dX0_renew_5 (by decide) (by omega) (fun c6 => ?_) (fun c6 => ?_)
    · refine j_iconst dX0_renew_36 ?_
      refine j_istore_n (L' := [(0, _), (1, _), (2, _)]) dX0_renew_37 rfl (by decide) rfl ?_
      refine jloop (P := fun z9 : Int × fS => ∀ h7 : jH, jOb sE k z9.2 h7 → jOb sF kf F h7 → jEx k 3 h h7 → J mX0_renew (jR 2 0 0) [] Z 38 [(0, .ref k), (1, .ref kf), (2, iv z9.1)] [] h7 0 0) (fun z9 => 1 ≤ z9.1 ∧ z9.1 ≤ 5 ∧ (∀ m p : Int, 0 ≤ m → m < z9.1 → 0 ≤ p → p < 24 → z9.2 0 (m * 24 + p) = upk (F 0) (2 ^ m.toNat) p) ∧ ∀ p : Int, 0 ≤ p → p < 24 → z9.2 1 p = fdep F p) (fun z9 => (5 - z9.1).toNat) ?_ (1, X) ?_ _ hG3 hG4 hE5
      · rintro ⟨l, Y⟩ hinv2 ih2
        dsimp only at hinv2 ih2 ⊢
        intro h8 hG9 hG10 hE11
        obtain ⟨l1, l2, l3, l4⟩ := hinv2
        refine j_iload_n dX0_renew_38 rfl rfl ?_
        refine j_iconst dX0_renew_39 ?_
        refine j_icmp_ge (tgt := 89) dX0_renew_40 (by decide) (by omega) (fun c12 => ?_) (fun c12 => ?_)
        · subst hZ
          exact j_return dX0_renew_89 rfl ⟨rfl, _, hG9, ⟨fun m p m0 m1 p0 p1 => l3 m p m0 (by omega) p0 p1, l4⟩, hE11⟩ (Nat.le_refl _) (Nat.le_refl _)
        · refine j_iconst dX0_renew_43 ?_
          refine j_istore_n (L' := [(0, _), (1, _), (2, _), (3, _)]) dX0_renew_44 rfl (by decide) rfl ?_
          refine jloop (P := fun z9 : Int × fS => ∀ h13 : jH, jOb sE k z9.2 h13 → jOb sF kf F h13 → jEx k 3 h h13 → J mX0_renew (jR 2 0 0) [] Z 45 [(0, .ref k), (1, .ref kf), (2, iv l), (3, iv z9.1)] [] h13 0 0) (fun z9 => 0 ≤ z9.1 ∧ z9.1 ≤ 24 ∧ (∀ m p : Int, 0 ≤ m → m < l → 0 ≤ p → p < 24 → z9.2 0 (m * 24 + p) = upk (F 0) (2 ^ m.toNat) p) ∧ (∀ p : Int, 0 ≤ p → p < z9.1 → z9.2 0 (l * 24 + p) = upk (F 0) (2 ^ l.toNat) p) ∧ ∀ p : Int, 0 ≤ p → p < 24 → z9.2 1 p = fdep F p) (fun z9 => (24 - z9.1).toNat) ?_ (0, Y) ?_ _ hG9 hG10 hE11
          · rintro ⟨q, V⟩ hinv3 ih3
            dsimp only at hinv3 ih3 ⊢
            intro h14 hG15 hG16 hE17
            obtain ⟨k1, k2, k3, k4, k5⟩ := hinv3
            refine j_iload_n dX0_renew_45 rfl rfl ?_
            refine j_bipush dX0_renew_46 (by decide +kernel) ?_
            refine j_icmp_ge (tgt := 83) dX0_renew_48 (by decide) (by omega) (fun c18 => ?_) (fun c18 => ?_)
            · refine j_iinc (L' := [(0, _), (1, _), (2, _), (3, _)]) dX0_renew_83 rfl (by decide) rfl ?_
              refine j_goto (tgt := 38) dX0_renew_86 (by decide) ?_
              refine J.keep [0, 1, 2] (L' := [(0, _), (1, _), (2, _)]) rfl ?_
              refine ih2 (l + 1, V) ⟨by show 1 ≤ l + 1; omega, by show l + 1 ≤ 5; omega, fun m p m0 m1 p0 p1 => ?_, k5⟩ (by show (5 - (l + 1)).toNat < (5 - l).toNat; omega) _ hG15 hG16 hE17
              have m1 : m < l + 1 := m1
              by_cases hm : m = l
              · rw [hm]; exact k4 p p0 (by omega)
              · exact k3 m p m0 (by omega) p0 p1
            · refine j_aload_n dX0_renew_51 rfl rfl ?_
              refine j_getfield (v := .ref (k + 1)) dX0_renew_52 jf_X0_11 hG15.1 rfl ?_
              refine j_iload_n dX0_renew_55 rfl rfl ?_
              refine j_bipush dX0_renew_56 (by decide +kernel) ?_
              refine j_imul dX0_renew_58 ?_
              refine j_iload_n dX0_renew_59 rfl rfl ?_
              refine j_iadd dX0_renew_60 ?_
              refine j_aload_n dX0_renew_61 rfl rfl ?_
              refine j_iload_n dX0_renew_62 rfl rfl ?_
              refine j_iconst dX0_renew_63 ?_
              refine j_isub dX0_renew_64 ?_
              refine j_aload_n dX0_renew_65 rfl rfl ?_
              refine j_iload_n dX0_renew_66 rfl rfl ?_
              refine j_iconst dX0_renew_67 ?_
              refine j_isub dX0_renew_68 ?_
              refine j_iload_n dX0_renew_69 rfl rfl ?_
              refine j_callV (c0_notedOf hG15 (by omega) (by omega)) dX0_renew_70 jc_X0_27 jmV_X0_notedOf rfl rfl hG15.1 rfl rfl (by simp) jfr_nil (Nat.le_of_ble_eq_true rfl) ⟨Nat.le_of_ble_eq_true rfl, Nat.le_of_ble_eq_true rfl⟩ ⟨Nat.le_of_ble_eq_true rfl, Nat.le_of_ble_eq_true rfl⟩ (fun r h19 hp9 => ?_) (fun E h9 q => q.elim)
              obtain ⟨rfl, rfl⟩ := hp9
              have zz := eNo_l hO l2 k3 (l := l - 1) (p := q) (by omega) (by omega)
              have zy := hO.u24 (x := q) (by omega) (2 ^ (l - 1).toNat)
              refine j_callV (c0_notedOf hG15 (by omega) (by omega)) dX0_renew_73 jc_X0_27 jmV_X0_notedOf rfl rfl hG15.1 rfl rfl (by simp) jfr_nil (Nat.le_of_ble_eq_true rfl) ⟨Nat.le_of_ble_eq_true rfl, Nat.le_of_ble_eq_true rfl⟩ ⟨Nat.le_of_ble_eq_true rfl, Nat.le_of_ble_eq_true rfl⟩ (fun r h20 hp9 => ?_) (fun E h9 q => q.elim)
              obtain ⟨rfl, rfl⟩ := hp9
              have zz := eNo_l hO l2 k3 (l := l - 1) (p := q) (by omega) (by omega)
              have zy := hO.u24 (x := q) (by omega) (2 ^ (l - 1).toNat)
              refine jo_ias (S := sE) (k := k) dX0_renew_76 okE hG15 (i := 0) (p := 1) rfl (by omega) (by decide) (fun h21 hG21 hX21 => ?_)
              have hG22 := hG16.ex okF hX21 (by show kf + 7 ≤ k ∨ k + 3 ≤ kf; omega)
              have hE23 := hE17.tr hX21
              refine j_iinc (L' := [(0, _), (1, _), (2, _), (3, _)]) dX0_renew_77 rfl (by decide) rfl ?_
              refine j_goto (tgt := 45) dX0_renew_80 (by decide) ?_
              have z1 := eNo_l hO l2 k3 (l := l - 1) (p := q) (by omega) (by omega)
              have z2 := hO.u24 (x := q) (by omega) (2 ^ (l - 1).toNat)
              have z3 := eNo_l hO l2 k3 (l := l - 1) (p := eNo V (l - 1) q) (by omega) (by omega)
              rw [z1, upk_dbl (by omega)] at z3
              refine ih3 (q + 1, gs V 0 (jfu (V 0) (l * 24 + q) (eNo V (l - 1) (eNo V (l - 1) q)))) ⟨by show 0 ≤ q + 1; omega, by show q + 1 ≤ 24; omega, fun m p m0 m1 p0 p1 => ?_, fun p p0 p1 => ?_, k5⟩ (by show (24 - (q + 1)).toNat < (24 - q).toNat; omega) _ hG21 hG22 hE23
              · exact (jfu_n (show m * 24 + p ≠ l * 24 + q by omega)).trans (k3 m p m0 m1 p0 p1)
              · have p1 : p < q + 1 := p1
                show jfu (V 0) (l * 24 + q) _ (l * 24 + p) = _
                by_cases hp : p = q
                · rw [hp, jfu_s]; rw [z1]; exact z3
                · rw [jfu_n (by omega)]; exact k4 p p0 (by omega)
          · dsimp only
            exact ⟨by omega, by omega, l3, fun p a b => by omega, l4⟩
      · dsimp only
        exact ⟨by omega, by omega, fun m p m0 m1 p0 p1 => by rw [show m = 0 by omega, show (0 : Int) * 24 + p = p by omega]; exact (i3 p p0 (by omega)).1, fun p p0 p1 => (i3 p p0 (by omega)).2⟩
    · refine j_aload_n dX0_renew_8 rfl rfl ?_
      refine j_getfield (v := .ref (k + 1)) dX0_renew_9 jf_X0_11 hG3.1 rfl ?_
      refine j_iload_n dX0_renew_12 rfl rfl ?_
      refine j_aload_n dX0_renew_13 rfl rfl ?_
      refine j_iload_n dX0_renew_14 rfl rfl ?_
      refine j_callV (c_parentOf hG4.fam hO (by omega)) dX0_renew_15 jc_X0_18 jmV_X1_parentOf rfl rfl hG4.1 rfl rfl (by simp) jfr_nil (Nat.le_of_ble_eq_true rfl) ⟨Nat.le_of_ble_eq_true rfl, Nat.le_of_ble_eq_true rfl⟩ ⟨Nat.le_of_ble_eq_true rfl, Nat.le_of_ble_eq_true rfl⟩ (fun r h24 hp9 => ?_) (fun E h9 q => q.elim)
      obtain ⟨rfl, rfl⟩ := hp9
      refine jo_ias (S := sE) (k := k) dX0_renew_18 okE hG3 (i := 0) (p := 1) rfl (by omega) (by decide) (fun h25 hG25 hX25 => ?_)
      have hG26 := hG4.ex okF hX25 (by show kf + 7 ≤ k ∨ k + 3 ≤ kf; omega)
      have hE27 := hE5.tr hX25
      refine j_aload_n dX0_renew_19 rfl rfl ?_
      refine j_getfield (v := .ref (k + 2)) dX0_renew_20 jf_X0_15 hG25.1 rfl ?_
      refine j_iload_n dX0_renew_23 rfl rfl ?_
      refine j_aload_n dX0_renew_24 rfl rfl ?_
      refine j_iload_n dX0_renew_25 rfl rfl ?_
      refine j_callV (c_depthOf hG26.fam hO (by omega)) dX0_renew_26 jc_X0_24 jmV_X1_depthOf rfl rfl hG26.1 rfl rfl (by simp) jfr_nil (Nat.le_of_ble_eq_true rfl) ⟨Nat.le_of_ble_eq_true rfl, Nat.le_of_ble_eq_true rfl⟩ ⟨Nat.le_of_ble_eq_true rfl, Nat.le_of_ble_eq_true rfl⟩ (fun r h28 hp9 => ?_) (fun E h9 q => q.elim)
      obtain ⟨rfl, rfl⟩ := hp9
      refine jo_ias (S := sE) (k := k) dX0_renew_29 okE hG25 (i := 1) (p := 2) rfl (by omega) (by decide) (fun h29 hG29 hX29 => ?_)
      have hG30 := hG26.ex okF hX29 (by show kf + 7 ≤ k ∨ k + 3 ≤ kf; omega)
      have hE31 := hE27.tr hX29
      refine j_iinc (L' := [(0, _), (1, _), (2, _)]) dX0_renew_30 rfl (by decide) rfl ?_
      refine j_goto (tgt := 2) dX0_renew_33 (by decide) ?_
      refine ih (i + 1, _) ⟨by show 0 ≤ i + 1; omega, by show i + 1 ≤ 24; omega, fun p p0 p1 => ?_⟩ (by show (24 - (i + 1)).toNat < (24 - i).toNat; omega) _ hG29 hG30 hE31
      have p1 : p < i + 1 := p1
      show jfu (X 0) i (F 0 i) p = _ ∧ jfu (X 1) i (fdep F i) p = _
      by_cases hp : p = i
      · rw [hp, jfu_s, jfu_s]; exact ⟨rfl, rfl⟩
      · rw [jfu_n hp, jfu_n hp]; exact i3 p p0 (by omega)
  · dsimp only
    exact ⟨by omega, by omega, fun p a b => by omega⟩
set_option maxHeartbeats 4000000 in
/-- Elders.commonByLeaps -/
theorem c0_commonByLeaps {k : Nat} {F E : fS} {B : Int} {h : jH} (hL : jOb sE k E h) (hO : jOk B F) (hA : fAc F) (hE9 : eOk F E) {p o : Int} (hp : 0 ≤ p ∧ p < F 6 0) (ho : 0 ≤ o ∧ o < F 6 0) (he : frt F p = frt F o) : jM mX0_commonByLeaps 3 0 0 [] [.ref k, iv p, iv o] h (jRet (iv (flc F p o)) h) jno := by
  refine j_method (by decide +kernel) rfl (fun _ _ _ => trivial) (Nat.le_of_ble_eq_true rfl) ?_
  generalize hZ : jZ [] 0 0 _ _ = Z
  show J mX0_commonByLeaps (jR 3 0 0) [] Z 0 [(0, .ref k), (1, iv p), (2, iv o)] [] h 0 0
  have hn := hO.n
  have hlc := flc_L hO hA hp.1 ho.1 he
  refine j_aload_n dX0_commonByLeaps_0 rfl rfl ?_
  refine j_iload_n dX0_commonByLeaps_1 rfl rfl ?_
  refine j_callV (c0_depthOf hL (by omega)) dX0_commonByLeaps_2 jc_X0_31 jmV_X0_depthOf rfl rfl hL.1 rfl rfl (by simp) jfr_nil (Nat.le_of_ble_eq_true rfl) ⟨Nat.le_of_ble_eq_true rfl, Nat.le_of_ble_eq_true rfl⟩ ⟨Nat.le_of_ble_eq_true rfl, Nat.le_of_ble_eq_true rfl⟩ (fun r h1 hp9 => ?_) (fun E h9 q => q.elim)
  obtain ⟨rfl, rfl⟩ := hp9
  rw [show (if 0 ≤ p ∧ p < 24 then E 1 p else 0) = fdep F p from (if_pos (by omega)).trans (hE9.2 p (by omega) (by omega))]
  have hdpp := fdep_rg F p
  refine j_aload_n dX0_commonByLeaps_5 rfl rfl ?_
  refine j_iload_n dX0_commonByLeaps_6 rfl rfl ?_
  refine j_callV (c0_depthOf hL (by omega)) dX0_commonByLeaps_7 jc_X0_31 jmV_X0_depthOf rfl rfl hL.1 rfl rfl (by simp) jfr_nil (Nat.le_of_ble_eq_true rfl) ⟨Nat.le_of_ble_eq_true rfl, Nat.le_of_ble_eq_true rfl⟩ ⟨Nat.le_of_ble_eq_true rfl, Nat.le_of_ble_eq_true rfl⟩ (fun r h2 hp9 => ?_) (fun E h9 q => q.elim)
  obtain ⟨rfl, rfl⟩ := hp9
  rw [show (if 0 ≤ o ∧ o < 24 then E 1 o else 0) = fdep F o from (if_pos (by omega)).trans (hE9.2 o (by omega) (by omega))]
  have hdpo := fdep_rg F o
  refine j_isub dX0_commonByLeaps_10 ?_
  refine j_istore_n (L' := [(0, _), (1, _), (2, _), (3, _)]) dX0_commonByLeaps_11 rfl (by decide) rfl ?_
  refine j_iload_n dX0_commonByLeaps_12 rfl rfl ?_
  refine j_if_le (tgt := 25) dX0_commonByLeaps_13 (by decide) (by omega) (fun c3 => ?_) (fun c3 => ?_)
  · refine j_iload_n dX0_commonByLeaps_25 rfl rfl ?_
    refine j_istore (L' := [(0, _), (1, _), (2, _), (3, _), (4, _)]) dX0_commonByLeaps_26 (by decide) rfl ?_
    refine j_iload_n dX0_commonByLeaps_28 rfl rfl ?_
    refine j_if_ge (tgt := 42) dX0_commonByLeaps_29 (by decide) (by omega) (fun c4 => ?_) (fun c4 => ?_)
    · refine j_iload_n dX0_commonByLeaps_42 rfl rfl ?_
      refine j_istore (L' := [(0, _), (1, _), (2, _), (3, _), (4, _), (5, _)]) dX0_commonByLeaps_43 (by decide) rfl ?_
      refine j_iconst dX0_commonByLeaps_45 ?_
      refine j_istore (L' := [(0, _), (1, _), (2, _), (3, _), (4, _), (5, _), (6, _)]) dX0_commonByLeaps_46 (by decide) rfl ?_
      refine J.keep [0, 1, 2, 4, 5, 6] (L' := [(0, _), (1, _), (2, _), (4, _), (5, _), (6, _)]) rfl ?_
      refine jloop (P := fun z9 : Int × Int × Int => J mX0_commonByLeaps (jR 3 0 0) [] Z 48 [(0, .ref k), (1, iv p), (2, iv o), (4, iv z9.1), (5, iv z9.2.1), (6, iv z9.2.2)] [] h 0 0) (fun z9 => -1 ≤ z9.2.2 ∧ z9.2.2 < 5 ∧ 0 ≤ z9.1 ∧ z9.1 < 24 ∧ 0 ≤ z9.2.1 ∧ z9.2.1 < 24 ∧ fdep F z9.1 = fdep F z9.2.1 ∧ cmE F p o z9.1 z9.2.1 ∧ upk (F 0) (2 ^ (z9.2.2 + 1).toNat) z9.1 = upk (F 0) (2 ^ (z9.2.2 + 1).toNat) z9.2.1) (fun z9 => (z9.2.2 + 1).toNat) ?_ (p, o, 4) ?_
      · rintro ⟨a, b, l⟩ hinv ih
        dsimp only at hinv ih ⊢
        obtain ⟨i1, i2, i3, i4, i5, i6, i7, i8, i9⟩ := hinv
        refine j_iload dX0_commonByLeaps_48 rfl ?_
        refine j_if_lt (tgt := 98) dX0_commonByLeaps_50 (by decide) (by omega) (fun c5 => ?_) (fun c5 => ?_)
        · have e9 : F 0 a = F 0 b := by have h1 := i9; rw [show l = -1 by omega] at h1; exact h1
          refine j_iload dX0_commonByLeaps_98 rfl ?_
          refine j_iload dX0_commonByLeaps_100 rfl ?_
          refine j_icmp_ne (tgt := 110) dX0_commonByLeaps_102 (by decide) (by omega) (fun c6 => ?_) (fun c6 => ?_)
          · refine j_aload_n dX0_commonByLeaps_110 rfl rfl ?_
            refine j_iconst dX0_commonByLeaps_111 ?_
            refine j_iload dX0_commonByLeaps_112 rfl ?_
            refine j_callV (c0_notedOf hL (by omega) (by omega)) dX0_commonByLeaps_114 jc_X0_27 jmV_X0_notedOf rfl rfl hL.1 rfl rfl (by simp) jfr_nil (Nat.le_of_ble_eq_true rfl) ⟨Nat.le_of_ble_eq_true rfl, Nat.le_of_ble_eq_true rfl⟩ ⟨Nat.le_of_ble_eq_true rfl, Nat.le_of_ble_eq_true rfl⟩ (fun r h8 hp9 => ?_) (fun E h9 q => q.elim)
            obtain ⟨rfl, rfl⟩ := hp9
            rw [eNo_e hO hE9 (l := 0) (p := a) (by omega) (by omega)]
            have e7 := hO.u24 (x := a) (by omega) (2 ^ Int.toNat 0)
            subst hZ
            exact j_ireturn dX0_commonByLeaps_117 rfl rfl (jRet.i (by have h1 := c6; refine (hlc.eq hO hA (i8.L (isL_par hO hA i7 h1 e9 (fun z => ?_)))).trans rfl; obtain ⟨c0, c1, c2, _⟩ := hlc; have q := (i8 _ c0).mp ⟨c1, c2⟩; rw [fab_st hO hA (show a ≠ -1 by omega), z, fab_e, Bool.or_false, decide_eq_true_iff] at q; rw [fab_st hO hA (show b ≠ -1 by omega), ← e9, z, fab_e, Bool.or_false, decide_eq_true_iff] at q; exact h1 (q.1.trans q.2.symm))) (Nat.le_refl _) (Nat.le_refl _)
          · refine j_iload dX0_commonByLeaps_105 rfl ?_
            refine j_goto (tgt := 117) dX0_commonByLeaps_107 (by decide) ?_
            subst hZ
            exact j_ireturn dX0_commonByLeaps_117 rfl rfl (jRet.i (by have h1 := c6; subst h1; exact (hlc.eq hO hA (i8.L (isL_same hO hA (by omega)))))) (Nat.le_refl _) (Nat.le_refl _)
        · refine j_aload_n dX0_commonByLeaps_53 rfl rfl ?_
          refine j_iload dX0_commonByLeaps_54 rfl ?_
          refine j_iload dX0_commonByLeaps_56 rfl ?_
          refine j_callV (c0_notedOf hL (by omega) (by omega)) dX0_commonByLeaps_58 jc_X0_27 jmV_X0_notedOf rfl rfl hL.1 rfl rfl (by simp) jfr_nil (Nat.le_of_ble_eq_true rfl) ⟨Nat.le_of_ble_eq_true rfl, Nat.le_of_ble_eq_true rfl⟩ ⟨Nat.le_of_ble_eq_true rfl, Nat.le_of_ble_eq_true rfl⟩ (fun r h10 hp9 => ?_) (fun E h9 q => q.elim)
          obtain ⟨rfl, rfl⟩ := hp9
          rw [eNo_e hO hE9 (l := l) (p := a) (by omega) (by omega)]
          have e9 := hO.u24 (x := a) (by omega) (2 ^ Int.toNat l)
          refine j_aload_n dX0_commonByLeaps_61 rfl rfl ?_
          refine j_iload dX0_commonByLeaps_62 rfl ?_
          refine j_iload dX0_commonByLeaps_64 rfl ?_
          refine j_callV (c0_notedOf hL (by omega) (by omega)) dX0_commonByLeaps_66 jc_X0_27 jmV_X0_notedOf rfl rfl hL.1 rfl rfl (by simp) jfr_nil (Nat.le_of_ble_eq_true rfl) ⟨Nat.le_of_ble_eq_true rfl, Nat.le_of_ble_eq_true rfl⟩ ⟨Nat.le_of_ble_eq_true rfl, Nat.le_of_ble_eq_true rfl⟩ (fun r h12 hp9 => ?_) (fun E h9 q => q.elim)
          obtain ⟨rfl, rfl⟩ := hp9
          rw [eNo_e hO hE9 (l := l) (p := b) (by omega) (by omega)]
          have e11 := hO.u24 (x := b) (by omega) (2 ^ Int.toNat l)
          refine j_icmp_eq (tgt := 92) dX0_commonByLeaps_69 (by decide) (by omega) (fun c13 => ?_) (fun c13 => ?_)
          · refine j_iinc (L' := [(0, _), (1, _), (2, _), (4, _), (5, _), (6, _)]) dX0_commonByLeaps_92 rfl (by decide) rfl ?_
            refine j_goto (tgt := 48) dX0_commonByLeaps_95 (by decide) ?_
            have e9 := c13
            refine ih (a, b, l - 1) ⟨by show -1 ≤ l - 1; omega, by show l - 1 < 5; omega, i3, i4, i5, i6, i7, i8, ?_⟩ (by show (l - 1 + 1).toNat < (l + 1).toNat; omega)
            show upk (F 0) (2 ^ (l - 1 + 1).toNat) a = upk (F 0) (2 ^ (l - 1 + 1).toNat) b
            rw [show l - 1 + 1 = l by omega]
            exact e9
          · refine j_aload_n dX0_commonByLeaps_72 rfl rfl ?_
            refine j_iload dX0_commonByLeaps_73 rfl ?_
            refine j_iload dX0_commonByLeaps_75 rfl ?_
            refine j_callV (c0_notedOf hL (by omega) (by omega)) dX0_commonByLeaps_77 jc_X0_27 jmV_X0_notedOf rfl rfl hL.1 rfl rfl (by simp) jfr_nil (Nat.le_of_ble_eq_true rfl) ⟨Nat.le_of_ble_eq_true rfl, Nat.le_of_ble_eq_true rfl⟩ ⟨Nat.le_of_ble_eq_true rfl, Nat.le_of_ble_eq_true rfl⟩ (fun r h15 hp9 => ?_) (fun E h9 q => q.elim)
            obtain ⟨rfl, rfl⟩ := hp9
            rw [eNo_e hO hE9 (l := l) (p := a) (by omega) (by omega)]
            have e14 := hO.u24 (x := a) (by omega) (2 ^ Int.toNat l)
            refine j_istore (L' := [(0, _), (1, _), (2, _), (4, _), (5, _), (6, _)]) dX0_commonByLeaps_80 (by decide) rfl ?_
            refine j_aload_n dX0_commonByLeaps_82 rfl rfl ?_
            refine j_iload dX0_commonByLeaps_83 rfl ?_
            refine j_iload dX0_commonByLeaps_85 rfl ?_
            refine j_callV (c0_notedOf hL (by omega) (by omega)) dX0_commonByLeaps_87 jc_X0_27 jmV_X0_notedOf rfl rfl hL.1 rfl rfl (by simp) jfr_nil (Nat.le_of_ble_eq_true rfl) ⟨Nat.le_of_ble_eq_true rfl, Nat.le_of_ble_eq_true rfl⟩ ⟨Nat.le_of_ble_eq_true rfl, Nat.le_of_ble_eq_true rfl⟩ (fun r h17 hp9 => ?_) (fun E h9 q => q.elim)
            obtain ⟨rfl, rfl⟩ := hp9
            rw [eNo_e hO hE9 (l := l) (p := b) (by omega) (by omega)]
            have e16 := hO.u24 (x := b) (by omega) (2 ^ Int.toNat l)
            refine j_istore (L' := [(0, _), (1, _), (2, _), (4, _), (5, _), (6, _)]) dX0_commonByLeaps_90 (by decide) rfl ?_
            refine j_iinc (L' := [(0, _), (1, _), (2, _), (4, _), (5, _), (6, _)]) dX0_commonByLeaps_92 rfl (by decide) rfl ?_
            refine j_goto (tgt := 48) dX0_commonByLeaps_95 (by decide) ?_
            have e9 := c13
            have e8 := cmE_both hO hA i7 e9
            have z1 : upk (F 0) (2 ^ l.toNat) a ≠ -1 ∧ upk (F 0) (2 ^ l.toNat) b ≠ -1 := by
              obtain ⟨c0, c1, c2, _⟩ := hlc
              have q := (e8 _ c0).mp ((i8 _ c0).mp ⟨c1, c2⟩)
              exact ⟨fun z => (by rw [z, fab_e] at q; cases q.1), fun z => (by rw [z, fab_e] at q; cases q.2)⟩
            have d1 := fdep_up hO hA _ a z1.1
            have d2 := fdep_up hO hA _ b z1.2
            have w5 := pow_s (l := l) (by omega)
            refine ih (upk (F 0) (2 ^ l.toNat) a, upk (F 0) (2 ^ l.toNat) b, l - 1) ⟨by show -1 ≤ l - 1; omega, by show l - 1 < 5; omega, by show 0 ≤ upk _ _ _; omega, by show upk _ _ _ < 24; omega, by show 0 ≤ upk _ _ _; omega, by show upk _ _ _ < 24; omega, by show fdep F (upk _ _ _) = fdep F (upk _ _ _); omega, i8.tr e8, ?_⟩ (by show (l - 1 + 1).toNat < (l + 1).toNat; omega)
            show upk (F 0) (2 ^ (l - 1 + 1).toNat) (upk (F 0) (2 ^ l.toNat) a) = upk (F 0) (2 ^ (l - 1 + 1).toNat) (upk (F 0) (2 ^ l.toNat) b)
            rw [show l - 1 + 1 = l by omega, ← upk_a, ← upk_a, show 2 ^ l.toNat + 2 ^ l.toNat = 2 ^ (l + 1).toNat by omega]
            exact i9
      · dsimp only
        exact ⟨by omega, by omega, by omega, by omega, by omega, by omega, by omega, cmE.rf, by show upk (F 0) 32 _ = upk (F 0) 32 _; rw [upk_stay hO.par1 (hA _) (show 24 ≤ 32 by decide), upk_stay hO.par1 (hA _) (show 24 ≤ 32 by decide)]⟩
    · refine j_aload_n dX0_commonByLeaps_32 rfl rfl ?_
      refine j_iload_n dX0_commonByLeaps_33 rfl rfl ?_
      refine j_iload_n dX0_commonByLeaps_34 rfl rfl ?_
      refine j_ineg dX0_commonByLeaps_35 ?_
      refine j_callV (c0_leapUp hL hO hA hE9 (by omega) (by omega)) dX0_commonByLeaps_36 jc_X0_32 jmV_X0_leapUp rfl rfl hL.1 rfl rfl (by simp) jfr_nil (Nat.le_of_ble_eq_true rfl) ⟨Nat.le_of_ble_eq_true rfl, Nat.le_of_ble_eq_true rfl⟩ ⟨Nat.le_of_ble_eq_true rfl, Nat.le_of_ble_eq_true rfl⟩ (fun r h18 hp9 => ?_) (fun E h9 q => q.elim)
      obtain ⟨rfl, rfl⟩ := hp9
      refine j_goto (tgt := 43) dX0_commonByLeaps_39 (by decide) ?_
      refine j_istore (L' := [(0, _), (1, _), (2, _), (3, _), (4, _), (5, _)]) dX0_commonByLeaps_43 (by decide) rfl ?_
      refine j_iconst dX0_commonByLeaps_45 ?_
      refine j_istore (L' := [(0, _), (1, _), (2, _), (3, _), (4, _), (5, _), (6, _)]) dX0_commonByLeaps_46 (by decide) rfl ?_
      refine J.keep [0, 1, 2, 4, 5, 6] (L' := [(0, _), (1, _), (2, _), (4, _), (5, _), (6, _)]) rfl ?_
      refine jloop (P := fun z9 : Int × Int × Int => J mX0_commonByLeaps (jR 3 0 0) [] Z 48 [(0, .ref k), (1, iv p), (2, iv o), (4, iv z9.1), (5, iv z9.2.1), (6, iv z9.2.2)] [] h 0 0) (fun z9 => -1 ≤ z9.2.2 ∧ z9.2.2 < 5 ∧ 0 ≤ z9.1 ∧ z9.1 < 24 ∧ 0 ≤ z9.2.1 ∧ z9.2.1 < 24 ∧ fdep F z9.1 = fdep F z9.2.1 ∧ cmE F p o z9.1 z9.2.1 ∧ upk (F 0) (2 ^ (z9.2.2 + 1).toNat) z9.1 = upk (F 0) (2 ^ (z9.2.2 + 1).toNat) z9.2.1) (fun z9 => (z9.2.2 + 1).toNat) ?_ (p, upk (F 0) ((-((fdep F p) - (fdep F o)))).toNat o, 4) ?_
      · rintro ⟨a, b, l⟩ hinv ih
        dsimp only at hinv ih ⊢
        obtain ⟨i1, i2, i3, i4, i5, i6, i7, i8, i9⟩ := hinv
        refine j_iload dX0_commonByLeaps_48 rfl ?_
        refine j_if_lt (tgt := 98) dX0_commonByLeaps_50 (by decide) (by omega) (fun c19 => ?_) (fun c19 => ?_)
        · have e9 : F 0 a = F 0 b := by have h1 := i9; rw [show l = -1 by omega] at h1; exact h1
          refine j_iload dX0_commonByLeaps_98 rfl ?_
          refine j_iload dX0_commonByLeaps_100 rfl ?_
          refine j_icmp_ne (tgt := 110) dX0_commonByLeaps_102 (by decide) (by omega) (fun c20 => ?_) (fun c20 => ?_)
          · refine j_aload_n dX0_commonByLeaps_110 rfl rfl ?_
            refine j_iconst dX0_commonByLeaps_111 ?_
            refine j_iload dX0_commonByLeaps_112 rfl ?_
            refine j_callV (c0_notedOf hL (by omega) (by omega)) dX0_commonByLeaps_114 jc_X0_27 jmV_X0_notedOf rfl rfl hL.1 rfl rfl (by simp) jfr_nil (Nat.le_of_ble_eq_true rfl) ⟨Nat.le_of_ble_eq_true rfl, Nat.le_of_ble_eq_true rfl⟩ ⟨Nat.le_of_ble_eq_true rfl, Nat.le_of_ble_eq_true rfl⟩ (fun r h22 hp9 => ?_) (fun E h9 q => q.elim)
            obtain ⟨rfl, rfl⟩ := hp9
            rw [eNo_e hO hE9 (l := 0) (p := a) (by omega) (by omega)]
            have e21 := hO.u24 (x := a) (by omega) (2 ^ Int.toNat 0)
            subst hZ
            exact j_ireturn dX0_commonByLeaps_117 rfl rfl (jRet.i (by have h1 := c20; refine (hlc.eq hO hA (i8.L (isL_par hO hA i7 h1 e9 (fun z => ?_)))).trans rfl; obtain ⟨c0, c1, c2, _⟩ := hlc; have q := (i8 _ c0).mp ⟨c1, c2⟩; rw [fab_st hO hA (show a ≠ -1 by omega), z, fab_e, Bool.or_false, decide_eq_true_iff] at q; rw [fab_st hO hA (show b ≠ -1 by omega), ← e9, z, fab_e, Bool.or_false, decide_eq_true_iff] at q; exact h1 (q.1.trans q.2.symm))) (Nat.le_refl _) (Nat.le_refl _)
          · refine j_iload dX0_commonByLeaps_105 rfl ?_
            refine j_goto (tgt := 117) dX0_commonByLeaps_107 (by decide) ?_
            subst hZ
            exact j_ireturn dX0_commonByLeaps_117 rfl rfl (jRet.i (by have h1 := c20; subst h1; exact (hlc.eq hO hA (i8.L (isL_same hO hA (by omega)))))) (Nat.le_refl _) (Nat.le_refl _)
        · refine j_aload_n dX0_commonByLeaps_53 rfl rfl ?_
          refine j_iload dX0_commonByLeaps_54 rfl ?_
          refine j_iload dX0_commonByLeaps_56 rfl ?_
          refine j_callV (c0_notedOf hL (by omega) (by omega)) dX0_commonByLeaps_58 jc_X0_27 jmV_X0_notedOf rfl rfl hL.1 rfl rfl (by simp) jfr_nil (Nat.le_of_ble_eq_true rfl) ⟨Nat.le_of_ble_eq_true rfl, Nat.le_of_ble_eq_true rfl⟩ ⟨Nat.le_of_ble_eq_true rfl, Nat.le_of_ble_eq_true rfl⟩ (fun r h24 hp9 => ?_) (fun E h9 q => q.elim)
          obtain ⟨rfl, rfl⟩ := hp9
          rw [eNo_e hO hE9 (l := l) (p := a) (by omega) (by omega)]
          have e23 := hO.u24 (x := a) (by omega) (2 ^ Int.toNat l)
          refine j_aload_n dX0_commonByLeaps_61 rfl rfl ?_
          refine j_iload dX0_commonByLeaps_62 rfl ?_
          refine j_iload dX0_commonByLeaps_64 rfl ?_
          refine j_callV (c0_notedOf hL (by omega) (by omega)) dX0_commonByLeaps_66 jc_X0_27 jmV_X0_notedOf rfl rfl hL.1 rfl rfl (by simp) jfr_nil (Nat.le_of_ble_eq_true rfl) ⟨Nat.le_of_ble_eq_true rfl, Nat.le_of_ble_eq_true rfl⟩ ⟨Nat.le_of_ble_eq_true rfl, Nat.le_of_ble_eq_true rfl⟩ (fun r h26 hp9 => ?_) (fun E h9 q => q.elim)
          obtain ⟨rfl, rfl⟩ := hp9
          rw [eNo_e hO hE9 (l := l) (p := b) (by omega) (by omega)]
          have e25 := hO.u24 (x := b) (by omega) (2 ^ Int.toNat l)
          refine j_icmp_eq (tgt := 92) dX0_commonByLeaps_69 (by decide) (by omega) (fun c27 => ?_) (fun c27 => ?_)
          · refine j_iinc (L' := [(0, _), (1, _), (2, _), (4, _), (5, _), (6, _)]) dX0_commonByLeaps_92 rfl (by decide) rfl ?_
            refine j_goto (tgt := 48) dX0_commonByLeaps_95 (by decide) ?_
            have e9 := c27
            refine ih (a, b, l - 1) ⟨by show -1 ≤ l - 1; omega, by show l - 1 < 5; omega, i3, i4, i5, i6, i7, i8, ?_⟩ (by show (l - 1 + 1).toNat < (l + 1).toNat; omega)
            show upk (F 0) (2 ^ (l - 1 + 1).toNat) a = upk (F 0) (2 ^ (l - 1 + 1).toNat) b
            rw [show l - 1 + 1 = l by omega]
            exact e9
          · refine j_aload_n dX0_commonByLeaps_72 rfl rfl ?_
            refine j_iload dX0_commonByLeaps_73 rfl ?_
            refine j_iload dX0_commonByLeaps_75 rfl ?_
            refine j_callV (c0_notedOf hL (by omega) (by omega)) dX0_commonByLeaps_77 jc_X0_27 jmV_X0_notedOf rfl rfl hL.1 rfl rfl (by simp) jfr_nil (Nat.le_of_ble_eq_true rfl) ⟨Nat.le_of_ble_eq_true rfl, Nat.le_of_ble_eq_true rfl⟩ ⟨Nat.le_of_ble_eq_true rfl, Nat.le_of_ble_eq_true rfl⟩ (fun r h29 hp9 => ?_) (fun E h9 q => q.elim)
            obtain ⟨rfl, rfl⟩ := hp9
            rw [eNo_e hO hE9 (l := l) (p := a) (by omega) (by omega)]
            have e28 := hO.u24 (x := a) (by omega) (2 ^ Int.toNat l)
            refine j_istore (L' := [(0, _), (1, _), (2, _), (4, _), (5, _), (6, _)]) dX0_commonByLeaps_80 (by decide) rfl ?_
            refine j_aload_n dX0_commonByLeaps_82 rfl rfl ?_
            refine j_iload dX0_commonByLeaps_83 rfl ?_
            refine j_iload dX0_commonByLeaps_85 rfl ?_
            refine j_callV (c0_notedOf hL (by omega) (by omega)) dX0_commonByLeaps_87 jc_X0_27 jmV_X0_notedOf rfl rfl hL.1 rfl rfl (by simp) jfr_nil (Nat.le_of_ble_eq_true rfl) ⟨Nat.le_of_ble_eq_true rfl, Nat.le_of_ble_eq_true rfl⟩ ⟨Nat.le_of_ble_eq_true rfl, Nat.le_of_ble_eq_true rfl⟩ (fun r h31 hp9 => ?_) (fun E h9 q => q.elim)
            obtain ⟨rfl, rfl⟩ := hp9
            rw [eNo_e hO hE9 (l := l) (p := b) (by omega) (by omega)]
            have e30 := hO.u24 (x := b) (by omega) (2 ^ Int.toNat l)
            refine j_istore (L' := [(0, _), (1, _), (2, _), (4, _), (5, _), (6, _)]) dX0_commonByLeaps_90 (by decide) rfl ?_
            refine j_iinc (L' := [(0, _), (1, _), (2, _), (4, _), (5, _), (6, _)]) dX0_commonByLeaps_92 rfl (by decide) rfl ?_
            refine j_goto (tgt := 48) dX0_commonByLeaps_95 (by decide) ?_
            have e9 := c27
            have e8 := cmE_both hO hA i7 e9
            have z1 : upk (F 0) (2 ^ l.toNat) a ≠ -1 ∧ upk (F 0) (2 ^ l.toNat) b ≠ -1 := by
              obtain ⟨c0, c1, c2, _⟩ := hlc
              have q := (e8 _ c0).mp ((i8 _ c0).mp ⟨c1, c2⟩)
              exact ⟨fun z => (by rw [z, fab_e] at q; cases q.1), fun z => (by rw [z, fab_e] at q; cases q.2)⟩
            have d1 := fdep_up hO hA _ a z1.1
            have d2 := fdep_up hO hA _ b z1.2
            have w5 := pow_s (l := l) (by omega)
            refine ih (upk (F 0) (2 ^ l.toNat) a, upk (F 0) (2 ^ l.toNat) b, l - 1) ⟨by show -1 ≤ l - 1; omega, by show l - 1 < 5; omega, by show 0 ≤ upk _ _ _; omega, by show upk _ _ _ < 24; omega, by show 0 ≤ upk _ _ _; omega, by show upk _ _ _ < 24; omega, by show fdep F (upk _ _ _) = fdep F (upk _ _ _); omega, i8.tr e8, ?_⟩ (by show (l - 1 + 1).toNat < (l + 1).toNat; omega)
            show upk (F 0) (2 ^ (l - 1 + 1).toNat) (upk (F 0) (2 ^ l.toNat) a) = upk (F 0) (2 ^ (l - 1 + 1).toNat) (upk (F 0) (2 ^ l.toNat) b)
            rw [show l - 1 + 1 = l by omega, ← upk_a, ← upk_a, show 2 ^ l.toNat + 2 ^ l.toNat = 2 ^ (l + 1).toNat by omega]
            exact i9
      · dsimp only
        have g1 := upk_ge hO hA (-(fdep F p - fdep F o)).toNat o ho.1 (by omega)
        have g2 := fdep_up hO hA (-(fdep F p - fdep F o)).toNat o (by omega)
        have g3 := hO.u24 (x := o) (by omega) (-(fdep F p - fdep F o)).toNat
        exact ⟨by omega, by omega, by omega, by omega, by omega, by omega, by omega, (cmE_lev hO hA ho.1 (by omega)).sw, by show upk (F 0) 32 _ = upk (F 0) 32 _; rw [upk_stay hO.par1 (hA _) (show 24 ≤ 32 by decide), upk_stay hO.par1 (hA _) (show 24 ≤ 32 by decide)]⟩
  · refine j_aload_n dX0_commonByLeaps_16 rfl rfl ?_
    refine j_iload_n dX0_commonByLeaps_17 rfl rfl ?_
    refine j_iload_n dX0_commonByLeaps_18 rfl rfl ?_
    refine j_callV (c0_leapUp hL hO hA hE9 (by omega) (by omega)) dX0_commonByLeaps_19 jc_X0_32 jmV_X0_leapUp rfl rfl hL.1 rfl rfl (by simp) jfr_nil (Nat.le_of_ble_eq_true rfl) ⟨Nat.le_of_ble_eq_true rfl, Nat.le_of_ble_eq_true rfl⟩ ⟨Nat.le_of_ble_eq_true rfl, Nat.le_of_ble_eq_true rfl⟩ (fun r h32 hp9 => ?_) (fun E h9 q => q.elim)
    obtain ⟨rfl, rfl⟩ := hp9
    refine j_goto (tgt := 26) dX0_commonByLeaps_22 (by decide) ?_
    refine j_istore (L' := [(0, _), (1, _), (2, _), (3, _), (4, _)]) dX0_commonByLeaps_26 (by decide) rfl ?_
    refine j_iload_n dX0_commonByLeaps_28 rfl rfl ?_
    refine j_if_ge (tgt := 42) dX0_commonByLeaps_29 (by decide) (by omega) (fun c33 => ?_) (fun c33 => ?_)
    · refine j_iload_n dX0_commonByLeaps_42 rfl rfl ?_
      refine j_istore (L' := [(0, _), (1, _), (2, _), (3, _), (4, _), (5, _)]) dX0_commonByLeaps_43 (by decide) rfl ?_
      refine j_iconst dX0_commonByLeaps_45 ?_
      refine j_istore (L' := [(0, _), (1, _), (2, _), (3, _), (4, _), (5, _), (6, _)]) dX0_commonByLeaps_46 (by decide) rfl ?_
      refine J.keep [0, 1, 2, 4, 5, 6] (L' := [(0, _), (1, _), (2, _), (4, _), (5, _), (6, _)]) rfl ?_
      refine jloop (P := fun z9 : Int × Int × Int => J mX0_commonByLeaps (jR 3 0 0) [] Z 48 [(0, .ref k), (1, iv p), (2, iv o), (4, iv z9.1), (5, iv z9.2.1), (6, iv z9.2.2)] [] h 0 0) (fun z9 => -1 ≤ z9.2.2 ∧ z9.2.2 < 5 ∧ 0 ≤ z9.1 ∧ z9.1 < 24 ∧ 0 ≤ z9.2.1 ∧ z9.2.1 < 24 ∧ fdep F z9.1 = fdep F z9.2.1 ∧ cmE F p o z9.1 z9.2.1 ∧ upk (F 0) (2 ^ (z9.2.2 + 1).toNat) z9.1 = upk (F 0) (2 ^ (z9.2.2 + 1).toNat) z9.2.1) (fun z9 => (z9.2.2 + 1).toNat) ?_ (upk (F 0) (((fdep F p) - (fdep F o))).toNat p, o, 4) ?_
      · rintro ⟨a, b, l⟩ hinv ih
        dsimp only at hinv ih ⊢
        obtain ⟨i1, i2, i3, i4, i5, i6, i7, i8, i9⟩ := hinv
        refine j_iload dX0_commonByLeaps_48 rfl ?_
        refine j_if_lt (tgt := 98) dX0_commonByLeaps_50 (by decide) (by omega) (fun c34 => ?_) (fun c34 => ?_)
        · have e9 : F 0 a = F 0 b := by have h1 := i9; rw [show l = -1 by omega] at h1; exact h1
          refine j_iload dX0_commonByLeaps_98 rfl ?_
          refine j_iload dX0_commonByLeaps_100 rfl ?_
          refine j_icmp_ne (tgt := 110) dX0_commonByLeaps_102 (by decide) (by omega) (fun c35 => ?_) (fun c35 => ?_)
          · refine j_aload_n dX0_commonByLeaps_110 rfl rfl ?_
            refine j_iconst dX0_commonByLeaps_111 ?_
            refine j_iload dX0_commonByLeaps_112 rfl ?_
            refine j_callV (c0_notedOf hL (by omega) (by omega)) dX0_commonByLeaps_114 jc_X0_27 jmV_X0_notedOf rfl rfl hL.1 rfl rfl (by simp) jfr_nil (Nat.le_of_ble_eq_true rfl) ⟨Nat.le_of_ble_eq_true rfl, Nat.le_of_ble_eq_true rfl⟩ ⟨Nat.le_of_ble_eq_true rfl, Nat.le_of_ble_eq_true rfl⟩ (fun r h37 hp9 => ?_) (fun E h9 q => q.elim)
            obtain ⟨rfl, rfl⟩ := hp9
            rw [eNo_e hO hE9 (l := 0) (p := a) (by omega) (by omega)]
            have e36 := hO.u24 (x := a) (by omega) (2 ^ Int.toNat 0)
            subst hZ
            exact j_ireturn dX0_commonByLeaps_117 rfl rfl (jRet.i (by have h1 := c35; refine (hlc.eq hO hA (i8.L (isL_par hO hA i7 h1 e9 (fun z => ?_)))).trans rfl; obtain ⟨c0, c1, c2, _⟩ := hlc; have q := (i8 _ c0).mp ⟨c1, c2⟩; rw [fab_st hO hA (show a ≠ -1 by omega), z, fab_e, Bool.or_false, decide_eq_true_iff] at q; rw [fab_st hO hA (show b ≠ -1 by omega), ← e9, z, fab_e, Bool.or_false, decide_eq_true_iff] at q; exact h1 (q.1.trans q.2.symm))) (Nat.le_refl _) (Nat.le_refl _)
          · refine j_iload dX0_commonByLeaps_105 rfl ?_
            refine j_goto (tgt := 117) dX0_commonByLeaps_107 (by decide) ?_
            subst hZ
            exact j_ireturn dX0_commonByLeaps_117 rfl rfl (jRet.i (by have h1 := c35; subst h1; exact (hlc.eq hO hA (i8.L (isL_same hO hA (by omega)))))) (Nat.le_refl _) (Nat.le_refl _)
        · refine j_aload_n dX0_commonByLeaps_53 rfl rfl ?_
          refine j_iload dX0_commonByLeaps_54 rfl ?_
          refine j_iload dX0_commonByLeaps_56 rfl ?_
          refine j_callV (c0_notedOf hL (by omega) (by omega)) dX0_commonByLeaps_58 jc_X0_27 jmV_X0_notedOf rfl rfl hL.1 rfl rfl (by simp) jfr_nil (Nat.le_of_ble_eq_true rfl) ⟨Nat.le_of_ble_eq_true rfl, Nat.le_of_ble_eq_true rfl⟩ ⟨Nat.le_of_ble_eq_true rfl, Nat.le_of_ble_eq_true rfl⟩ (fun r h39 hp9 => ?_) (fun E h9 q => q.elim)
          obtain ⟨rfl, rfl⟩ := hp9
          rw [eNo_e hO hE9 (l := l) (p := a) (by omega) (by omega)]
          have e38 := hO.u24 (x := a) (by omega) (2 ^ Int.toNat l)
          refine j_aload_n dX0_commonByLeaps_61 rfl rfl ?_
          refine j_iload dX0_commonByLeaps_62 rfl ?_
          refine j_iload dX0_commonByLeaps_64 rfl ?_
          refine j_callV (c0_notedOf hL (by omega) (by omega)) dX0_commonByLeaps_66 jc_X0_27 jmV_X0_notedOf rfl rfl hL.1 rfl rfl (by simp) jfr_nil (Nat.le_of_ble_eq_true rfl) ⟨Nat.le_of_ble_eq_true rfl, Nat.le_of_ble_eq_true rfl⟩ ⟨Nat.le_of_ble_eq_true rfl, Nat.le_of_ble_eq_true rfl⟩ (fun r h41 hp9 => ?_) (fun E h9 q => q.elim)
          obtain ⟨rfl, rfl⟩ := hp9
          rw [eNo_e hO hE9 (l := l) (p := b) (by omega) (by omega)]
          have e40 := hO.u24 (x := b) (by omega) (2 ^ Int.toNat l)
          refine j_icmp_eq (tgt := 92) dX0_commonByLeaps_69 (by decide) (by omega) (fun c42 => ?_) (fun c42 => ?_)
          · refine j_iinc (L' := [(0, _), (1, _), (2, _), (4, _), (5, _), (6, _)]) dX0_commonByLeaps_92 rfl (by decide) rfl ?_
            refine j_goto (tgt := 48) dX0_commonByLeaps_95 (by decide) ?_
            have e9 := c42
            refine ih (a, b, l - 1) ⟨by show -1 ≤ l - 1; omega, by show l - 1 < 5; omega, i3, i4, i5, i6, i7, i8, ?_⟩ (by show (l - 1 + 1).toNat < (l + 1).toNat; omega)
            show upk (F 0) (2 ^ (l - 1 + 1).toNat) a = upk (F 0) (2 ^ (l - 1 + 1).toNat) b
            rw [show l - 1 + 1 = l by omega]
            exact e9
          · refine j_aload_n dX0_commonByLeaps_72 rfl rfl ?_
            refine j_iload dX0_commonByLeaps_73 rfl ?_
            refine j_iload dX0_commonByLeaps_75 rfl ?_
            refine j_callV (c0_notedOf hL (by omega) (by omega)) dX0_commonByLeaps_77 jc_X0_27 jmV_X0_notedOf rfl rfl hL.1 rfl rfl (by simp) jfr_nil (Nat.le_of_ble_eq_true rfl) ⟨Nat.le_of_ble_eq_true rfl, Nat.le_of_ble_eq_true rfl⟩ ⟨Nat.le_of_ble_eq_true rfl, Nat.le_of_ble_eq_true rfl⟩ (fun r h44 hp9 => ?_) (fun E h9 q => q.elim)
            obtain ⟨rfl, rfl⟩ := hp9
            rw [eNo_e hO hE9 (l := l) (p := a) (by omega) (by omega)]
            have e43 := hO.u24 (x := a) (by omega) (2 ^ Int.toNat l)
            refine j_istore (L' := [(0, _), (1, _), (2, _), (4, _), (5, _), (6, _)]) dX0_commonByLeaps_80 (by decide) rfl ?_
            refine j_aload_n dX0_commonByLeaps_82 rfl rfl ?_
            refine j_iload dX0_commonByLeaps_83 rfl ?_
            refine j_iload dX0_commonByLeaps_85 rfl ?_
            refine j_callV (c0_notedOf hL (by omega) (by omega)) dX0_commonByLeaps_87 jc_X0_27 jmV_X0_notedOf rfl rfl hL.1 rfl rfl (by simp) jfr_nil (Nat.le_of_ble_eq_true rfl) ⟨Nat.le_of_ble_eq_true rfl, Nat.le_of_ble_eq_true rfl⟩ ⟨Nat.le_of_ble_eq_true rfl, Nat.le_of_ble_eq_true rfl⟩ (fun r h46 hp9 => ?_) (fun E h9 q => q.elim)
            obtain ⟨rfl, rfl⟩ := hp9
            rw [eNo_e hO hE9 (l := l) (p := b) (by omega) (by omega)]
            have e45 := hO.u24 (x := b) (by omega) (2 ^ Int.toNat l)
            refine j_istore (L' := [(0, _), (1, _), (2, _), (4, _), (5, _), (6, _)]) dX0_commonByLeaps_90 (by decide) rfl ?_
            refine j_iinc (L' := [(0, _), (1, _), (2, _), (4, _), (5, _), (6, _)]) dX0_commonByLeaps_92 rfl (by decide) rfl ?_
            refine j_goto (tgt := 48) dX0_commonByLeaps_95 (by decide) ?_
            have e9 := c42
            have e8 := cmE_both hO hA i7 e9
            have z1 : upk (F 0) (2 ^ l.toNat) a ≠ -1 ∧ upk (F 0) (2 ^ l.toNat) b ≠ -1 := by
              obtain ⟨c0, c1, c2, _⟩ := hlc
              have q := (e8 _ c0).mp ((i8 _ c0).mp ⟨c1, c2⟩)
              exact ⟨fun z => (by rw [z, fab_e] at q; cases q.1), fun z => (by rw [z, fab_e] at q; cases q.2)⟩
            have d1 := fdep_up hO hA _ a z1.1
            have d2 := fdep_up hO hA _ b z1.2
            have w5 := pow_s (l := l) (by omega)
            refine ih (upk (F 0) (2 ^ l.toNat) a, upk (F 0) (2 ^ l.toNat) b, l - 1) ⟨by show -1 ≤ l - 1; omega, by show l - 1 < 5; omega, by show 0 ≤ upk _ _ _; omega, by show upk _ _ _ < 24; omega, by show 0 ≤ upk _ _ _; omega, by show upk _ _ _ < 24; omega, by show fdep F (upk _ _ _) = fdep F (upk _ _ _); omega, i8.tr e8, ?_⟩ (by show (l - 1 + 1).toNat < (l + 1).toNat; omega)
            show upk (F 0) (2 ^ (l - 1 + 1).toNat) (upk (F 0) (2 ^ l.toNat) a) = upk (F 0) (2 ^ (l - 1 + 1).toNat) (upk (F 0) (2 ^ l.toNat) b)
            rw [show l - 1 + 1 = l by omega, ← upk_a, ← upk_a, show 2 ^ l.toNat + 2 ^ l.toNat = 2 ^ (l + 1).toNat by omega]
            exact i9
      · dsimp only
        have g1 := upk_ge hO hA (fdep F p - fdep F o).toNat p hp.1 (by omega)
        have g2 := fdep_up hO hA (fdep F p - fdep F o).toNat p (by omega)
        have g3 := hO.u24 (x := p) (by omega) (fdep F p - fdep F o).toNat
        exact ⟨by omega, by omega, by omega, by omega, by omega, by omega, by omega, cmE_lev hO hA hp.1 (by omega), by show upk (F 0) 32 _ = upk (F 0) 32 _; rw [upk_stay hO.par1 (hA _) (show 24 ≤ 32 by decide), upk_stay hO.par1 (hA _) (show 24 ≤ 32 by decide)]⟩
    · refine j_aload_n dX0_commonByLeaps_32 rfl rfl ?_
      refine j_iload_n dX0_commonByLeaps_33 rfl rfl ?_
      refine j_iload_n dX0_commonByLeaps_34 rfl rfl ?_
      refine j_ineg dX0_commonByLeaps_35 ?_
      refine j_callV (c0_leapUp hL hO hA hE9 (by omega) (by omega)) dX0_commonByLeaps_36 jc_X0_32 jmV_X0_leapUp rfl rfl hL.1 rfl rfl (by simp) jfr_nil (Nat.le_of_ble_eq_true rfl) ⟨Nat.le_of_ble_eq_true rfl, Nat.le_of_ble_eq_true rfl⟩ ⟨Nat.le_of_ble_eq_true rfl, Nat.le_of_ble_eq_true rfl⟩ (fun r h47 hp9 => ?_) (fun E h9 q => q.elim)
      obtain ⟨rfl, rfl⟩ := hp9
      refine j_goto (tgt := 43) dX0_commonByLeaps_39 (by decide) ?_
      refine j_istore (L' := [(0, _), (1, _), (2, _), (3, _), (4, _), (5, _)]) dX0_commonByLeaps_43 (by decide) rfl ?_
      refine j_iconst dX0_commonByLeaps_45 ?_
      refine j_istore (L' := [(0, _), (1, _), (2, _), (3, _), (4, _), (5, _), (6, _)]) dX0_commonByLeaps_46 (by decide) rfl ?_
      refine J.keep [0, 1, 2, 4, 5, 6] (L' := [(0, _), (1, _), (2, _), (4, _), (5, _), (6, _)]) rfl ?_
      refine jloop (P := fun z9 : Int × Int × Int => J mX0_commonByLeaps (jR 3 0 0) [] Z 48 [(0, .ref k), (1, iv p), (2, iv o), (4, iv z9.1), (5, iv z9.2.1), (6, iv z9.2.2)] [] h 0 0) (fun z9 => -1 ≤ z9.2.2 ∧ z9.2.2 < 5 ∧ 0 ≤ z9.1 ∧ z9.1 < 24 ∧ 0 ≤ z9.2.1 ∧ z9.2.1 < 24 ∧ fdep F z9.1 = fdep F z9.2.1 ∧ cmE F p o z9.1 z9.2.1 ∧ upk (F 0) (2 ^ (z9.2.2 + 1).toNat) z9.1 = upk (F 0) (2 ^ (z9.2.2 + 1).toNat) z9.2.1) (fun z9 => (z9.2.2 + 1).toNat) ?_ (upk (F 0) (((fdep F p) - (fdep F o))).toNat p, upk (F 0) ((-((fdep F p) - (fdep F o)))).toNat o, 4) ?_
      · rintro ⟨a, b, l⟩ hinv ih
        dsimp only at hinv ih ⊢
        obtain ⟨i1, i2, i3, i4, i5, i6, i7, i8, i9⟩ := hinv
        refine j_iload dX0_commonByLeaps_48 rfl ?_
        refine j_if_lt (tgt := 98) dX0_commonByLeaps_50 (by decide) (by omega) (fun c48 => ?_) (fun c48 => ?_)
        · have e9 : F 0 a = F 0 b := by have h1 := i9; rw [show l = -1 by omega] at h1; exact h1
          refine j_iload dX0_commonByLeaps_98 rfl ?_
          refine j_iload dX0_commonByLeaps_100 rfl ?_
          refine j_icmp_ne (tgt := 110) dX0_commonByLeaps_102 (by decide) (by omega) (fun c49 => ?_) (fun c49 => ?_)
          · refine j_aload_n dX0_commonByLeaps_110 rfl rfl ?_
            refine j_iconst dX0_commonByLeaps_111 ?_
            refine j_iload dX0_commonByLeaps_112 rfl ?_
            refine j_callV (c0_notedOf hL (by omega) (by omega)) dX0_commonByLeaps_114 jc_X0_27 jmV_X0_notedOf rfl rfl hL.1 rfl rfl (by simp) jfr_nil (Nat.le_of_ble_eq_true rfl) ⟨Nat.le_of_ble_eq_true rfl, Nat.le_of_ble_eq_true rfl⟩ ⟨Nat.le_of_ble_eq_true rfl, Nat.le_of_ble_eq_true rfl⟩ (fun r h51 hp9 => ?_) (fun E h9 q => q.elim)
            obtain ⟨rfl, rfl⟩ := hp9
            rw [eNo_e hO hE9 (l := 0) (p := a) (by omega) (by omega)]
            have e50 := hO.u24 (x := a) (by omega) (2 ^ Int.toNat 0)
            subst hZ
            exact j_ireturn dX0_commonByLeaps_117 rfl rfl (jRet.i (by have h1 := c49; refine (hlc.eq hO hA (i8.L (isL_par hO hA i7 h1 e9 (fun z => ?_)))).trans rfl; obtain ⟨c0, c1, c2, _⟩ := hlc; have q := (i8 _ c0).mp ⟨c1, c2⟩; rw [fab_st hO hA (show a ≠ -1 by omega), z, fab_e, Bool.or_false, decide_eq_true_iff] at q; rw [fab_st hO hA (show b ≠ -1 by omega), ← e9, z, fab_e, Bool.or_false, decide_eq_true_iff] at q; exact h1 (q.1.trans q.2.symm))) (Nat.le_refl _) (Nat.le_refl _)
          · refine j_iload dX0_commonByLeaps_105 rfl ?_
            refine j_goto (tgt := 117) dX0_commonByLeaps_107 (by decide) ?_
            subst hZ
            exact j_ireturn dX0_commonByLeaps_117 rfl rfl (jRet.i (by have h1 := c49; subst h1; exact (hlc.eq hO hA (i8.L (isL_same hO hA (by omega)))))) (Nat.le_refl _) (Nat.le_refl _)
        · refine j_aload_n dX0_commonByLeaps_53 rfl rfl ?_
          refine j_iload dX0_commonByLeaps_54 rfl ?_
          refine j_iload dX0_commonByLeaps_56 rfl ?_
          refine j_callV (c0_notedOf hL (by omega) (by omega)) dX0_commonByLeaps_58 jc_X0_27 jmV_X0_notedOf rfl rfl hL.1 rfl rfl (by simp) jfr_nil (Nat.le_of_ble_eq_true rfl) ⟨Nat.le_of_ble_eq_true rfl, Nat.le_of_ble_eq_true rfl⟩ ⟨Nat.le_of_ble_eq_true rfl, Nat.le_of_ble_eq_true rfl⟩ (fun r h53 hp9 => ?_) (fun E h9 q => q.elim)
          obtain ⟨rfl, rfl⟩ := hp9
          rw [eNo_e hO hE9 (l := l) (p := a) (by omega) (by omega)]
          have e52 := hO.u24 (x := a) (by omega) (2 ^ Int.toNat l)
          refine j_aload_n dX0_commonByLeaps_61 rfl rfl ?_
          refine j_iload dX0_commonByLeaps_62 rfl ?_
          refine j_iload dX0_commonByLeaps_64 rfl ?_
          refine j_callV (c0_notedOf hL (by omega) (by omega)) dX0_commonByLeaps_66 jc_X0_27 jmV_X0_notedOf rfl rfl hL.1 rfl rfl (by simp) jfr_nil (Nat.le_of_ble_eq_true rfl) ⟨Nat.le_of_ble_eq_true rfl, Nat.le_of_ble_eq_true rfl⟩ ⟨Nat.le_of_ble_eq_true rfl, Nat.le_of_ble_eq_true rfl⟩ (fun r h55 hp9 => ?_) (fun E h9 q => q.elim)
          obtain ⟨rfl, rfl⟩ := hp9
          rw [eNo_e hO hE9 (l := l) (p := b) (by omega) (by omega)]
          have e54 := hO.u24 (x := b) (by omega) (2 ^ Int.toNat l)
          refine j_icmp_eq (tgt := 92) dX0_commonByLeaps_69 (by decide) (by omega) (fun c56 => ?_) (fun c56 => ?_)
          · refine j_iinc (L' := [(0, _), (1, _), (2, _), (4, _), (5, _), (6, _)]) dX0_commonByLeaps_92 rfl (by decide) rfl ?_
            refine j_goto (tgt := 48) dX0_commonByLeaps_95 (by decide) ?_
            have e9 := c56
            refine ih (a, b, l - 1) ⟨by show -1 ≤ l - 1; omega, by show l - 1 < 5; omega, i3, i4, i5, i6, i7, i8, ?_⟩ (by show (l - 1 + 1).toNat < (l + 1).toNat; omega)
            show upk (F 0) (2 ^ (l - 1 + 1).toNat) a = upk (F 0) (2 ^ (l - 1 + 1).toNat) b
            rw [show l - 1 + 1 = l by omega]
            exact e9
          · refine j_aload_n dX0_commonByLeaps_72 rfl rfl ?_
            refine j_iload dX0_commonByLeaps_73 rfl ?_
            refine j_iload dX0_commonByLeaps_75 rfl ?_
            refine j_callV (c0_notedOf hL (by omega) (by omega)) dX0_commonByLeaps_77 jc_X0_27 jmV_X0_notedOf rfl rfl hL.1 rfl rfl (by simp) jfr_nil (Nat.le_of_ble_eq_true rfl) ⟨Nat.le_of_ble_eq_true rfl, Nat.le_of_ble_eq_true rfl⟩ ⟨Nat.le_of_ble_eq_true rfl, Nat.le_of_ble_eq_true rfl⟩ (fun r h58 hp9 => ?_) (fun E h9 q => q.elim)
            obtain ⟨rfl, rfl⟩ := hp9
            rw [eNo_e hO hE9 (l := l) (p := a) (by omega) (by omega)]
            have e57 := hO.u24 (x := a) (by omega) (2 ^ Int.toNat l)
            refine j_istore (L' := [(0, _), (1, _), (2, _), (4, _), (5, _), (6, _)]) dX0_commonByLeaps_80 (by decide) rfl ?_
            refine j_aload_n dX0_commonByLeaps_82 rfl rfl ?_
            refine j_iload dX0_commonByLeaps_83 rfl ?_
            refine j_iload dX0_commonByLeaps_85 rfl ?_
            refine j_callV (c0_notedOf hL (by omega) (by omega)) dX0_commonByLeaps_87 jc_X0_27 jmV_X0_notedOf rfl rfl hL.1 rfl rfl (by simp) jfr_nil (Nat.le_of_ble_eq_true rfl) ⟨Nat.le_of_ble_eq_true rfl, Nat.le_of_ble_eq_true rfl⟩ ⟨Nat.le_of_ble_eq_true rfl, Nat.le_of_ble_eq_true rfl⟩ (fun r h60 hp9 => ?_) (fun E h9 q => q.elim)
            obtain ⟨rfl, rfl⟩ := hp9
            rw [eNo_e hO hE9 (l := l) (p := b) (by omega) (by omega)]
            have e59 := hO.u24 (x := b) (by omega) (2 ^ Int.toNat l)
            refine j_istore (L' := [(0, _), (1, _), (2, _), (4, _), (5, _), (6, _)]) dX0_commonByLeaps_90 (by decide) rfl ?_
            refine j_iinc (L' := [(0, _), (1, _), (2, _), (4, _), (5, _), (6, _)]) dX0_commonByLeaps_92 rfl (by decide) rfl ?_
            refine j_goto (tgt := 48) dX0_commonByLeaps_95 (by decide) ?_
            have e9 := c56
            have e8 := cmE_both hO hA i7 e9
            have z1 : upk (F 0) (2 ^ l.toNat) a ≠ -1 ∧ upk (F 0) (2 ^ l.toNat) b ≠ -1 := by
              obtain ⟨c0, c1, c2, _⟩ := hlc
              have q := (e8 _ c0).mp ((i8 _ c0).mp ⟨c1, c2⟩)
              exact ⟨fun z => (by rw [z, fab_e] at q; cases q.1), fun z => (by rw [z, fab_e] at q; cases q.2)⟩
            have d1 := fdep_up hO hA _ a z1.1
            have d2 := fdep_up hO hA _ b z1.2
            have w5 := pow_s (l := l) (by omega)
            refine ih (upk (F 0) (2 ^ l.toNat) a, upk (F 0) (2 ^ l.toNat) b, l - 1) ⟨by show -1 ≤ l - 1; omega, by show l - 1 < 5; omega, by show 0 ≤ upk _ _ _; omega, by show upk _ _ _ < 24; omega, by show 0 ≤ upk _ _ _; omega, by show upk _ _ _ < 24; omega, by show fdep F (upk _ _ _) = fdep F (upk _ _ _); omega, i8.tr e8, ?_⟩ (by show (l - 1 + 1).toNat < (l + 1).toNat; omega)
            show upk (F 0) (2 ^ (l - 1 + 1).toNat) (upk (F 0) (2 ^ l.toNat) a) = upk (F 0) (2 ^ (l - 1 + 1).toNat) (upk (F 0) (2 ^ l.toNat) b)
            rw [show l - 1 + 1 = l by omega, ← upk_a, ← upk_a, show 2 ^ l.toNat + 2 ^ l.toNat = 2 ^ (l + 1).toNat by omega]
            exact i9
      · dsimp only
        exfalso
        omega
