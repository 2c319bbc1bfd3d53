/-- what stands behind q moved up by one, as far as i -/
def shf (f : Int → Int) (q i : Int) : Int → Int := fun j => if q ≤ j ∧ j + 1 < i then f (j + 1) else f j
theorem shf_0 (f : Int → Int) (q : Int) : shf f q (q + 1) = f := funext fun j => if_neg (by omega)
theorem shf_s {f : Int → Int} {q i : Int} (h : q < i) : jfu (shf f q i) (i - 1) (shf f q i i) = shf f q (i + 1) := by
  funext j
  by_cases hj : j = i - 1
  · subst hj
    rw [jfu_s]
    show (if q ≤ i ∧ i + 1 < i then f (i + 1) else f i) = (if q ≤ i - 1 ∧ i - 1 + 1 < i + 1 then f (i - 1 + 1) else f (i - 1))
    rw [if_neg (by omega), if_pos (by omega)]
    exact congrArg f (by omega)
  · rw [jfu_n hj]
    show (if q ≤ j ∧ j + 1 < i then f (j + 1) else f j) = (if q ≤ j ∧ j + 1 < i + 1 then f (j + 1) else f j)
    by_cases h1 : q ≤ j ∧ j + 1 < i
    · rw [if_pos h1, if_pos (by omega)]
    · rw [if_neg h1, if_neg (by omega)]
def f_rem (F : fS) (q : Int) : fS := gn (gs (gs F 4 (shf (F 4) q (F 7 0))) 5 (shf (F 5) q (F 7 0))) 7 (F 7 0 - 1)
set_option maxHeartbeats 4000000 in
/-- Families.removeQuarrel -/
theorem c1_removeQuarrel {k : Nat} {F : fS} {B : Int} {h : jH} (hF : jOb sF k F h) (hO : jOk B F) {q : Int} (hq : 0 ≤ q ∧ q < F 7 0) : jM mX1_removeQuarrel 1 0 0 [] [.ref k, iv q] h (jWv sF k (f_rem F q) h) jno := by
  refine j_method (by decide +kernel) rfl (fun _ _ _ => trivial) (Nat.le_of_ble_eq_true rfl) ?_
  generalize hZ : jZ [] 0 0 _ _ = Z
  show J mX1_removeQuarrel (jR 1 0 0) [] Z 0 [(0, .ref k), (1, iv q)] [] h 0 0
  have hqn := hO.q
  have hE0 : jEx k 7 h h := jEx.rf
  refine j_aload_n dX1_removeQuarrel_0 rfl rfl ?_
  refine j_iload_n dX1_removeQuarrel_1 rfl rfl ?_
  refine j_callV (c_hasQuarrel hF.fam hO (by omega)) dX1_removeQuarrel_2 jc_X1_81 jmV_X1_hasQuarrel rfl rfl hF.1 rfl rfl (by simp) jfr_nil (Nat.le_of_ble_eq_true rfl) ⟨Nat.le_of_ble_eq_true rfl, Nat.le_of_ble_eq_true rfl⟩ ⟨Nat.le_of_ble_eq_true rfl, Nat.le_of_ble_eq_true rfl⟩ (fun r h1 hp9 => ?_) (fun E h9 q => q.elim)
  obtain ⟨rfl, rfl⟩ := hp9
  refine j_if_ne (tgt := 9) dX1_removeQuarrel_5 (by decide) (bi_r32 _) (fun c2 => ?_) (fun c2 => (False.elim (by rw [bi_t hq] at c2; cases c2)))
  refine j_iload_n dX1_removeQuarrel_9 rfl rfl ?_
  refine j_iconst dX1_removeQuarrel_10 ?_
  refine j_iadd dX1_removeQuarrel_11 ?_
  refine j_istore_n (L' := [(0, _), (1, _), (2, _)]) dX1_removeQuarrel_12 rfl (by decide) rfl ?_
  have hGr : jOb sF k (gs (gs F 4 (shf (F 4) q (q + 1))) 5 (shf (F 5) q (q + 1))) h := by rw [shf_0, shf_0, gs_id rfl, gs_id rfl]; exact hF
  refine jloop (P := fun z9 : Int => ∀ h3 : jH, jOb sF k (gs (gs F 4 (shf (F 4) q z9)) 5 (shf (F 5) q z9)) h3 → jEx k 7 h h3 → J mX1_removeQuarrel (jR 1 0 0) [] Z 13 [(0, .ref k), (1, iv q), (2, iv z9)] [] h3 0 0) (fun z9 => q + 1 ≤ z9 ∧ z9 ≤ F 7 0) (fun z9 => (F 7 0 - z9).toNat) ?_ (q + 1) ?_ _ hGr hE0
  · rintro i hinv ih
    intro h4 hG5 hE6
    obtain ⟨i1, i2⟩ := hinv
    refine j_iload_n dX1_removeQuarrel_13 rfl rfl ?_
    refine j_aload_n dX1_removeQuarrel_14 rfl rfl ?_
    refine j_getfield (v := iv (F 7 0)) dX1_removeQuarrel_15 jf_X1_35 hG5.1 rfl ?_
    refine j_icmp_ge (tgt := 61) dX1_removeQuarrel_18 (by decide) (by omega) (fun c7 => ?_) (fun c7 => ?_)
    · refine j_aload_n dX1_removeQuarrel_61 rfl rfl ?_
      refine j_dup dX1_removeQuarrel_62 rfl ?_
      refine j_getfield (v := iv (F 7 0)) dX1_removeQuarrel_63 jf_X1_35 hG5.1 rfl ?_
      refine j_iconst dX1_removeQuarrel_66 ?_
      refine j_isub dX1_removeQuarrel_67 ?_
      refine jo_put (S := sF) dX1_removeQuarrel_68 jf_X1_35 (fun q hq => by cases hq; exact ⟨rfl, rfl⟩) (jHold_int _) okF hG5 rfl (fun h8 hG8 hX8 => ?_)
      have hE9 := hE6.tr hX8
      subst hZ
      exact j_return dX1_removeQuarrel_71 rfl (jWv.i (by unfold f_rem; rw [show i = F 7 0 by omega]) hG8 hE9) (Nat.le_refl _) (Nat.le_refl _)
    · refine j_iload_n dX1_removeQuarrel_21 rfl rfl ?_
      refine j_bipush dX1_removeQuarrel_22 (by decide +kernel) ?_
      refine j_icmp_ge (tgt := 61) dX1_removeQuarrel_24 (by decide) (by omega) (fun c10 => ?_) (fun c10 => ?_)
      · refine j_aload_n dX1_removeQuarrel_61 rfl rfl ?_
        refine j_dup dX1_removeQuarrel_62 rfl ?_
        refine j_getfield (v := iv (F 7 0)) dX1_removeQuarrel_63 jf_X1_35 hG5.1 rfl ?_
        refine j_iconst dX1_removeQuarrel_66 ?_
        refine j_isub dX1_removeQuarrel_67 ?_
        refine jo_put (S := sF) dX1_removeQuarrel_68 jf_X1_35 (fun q hq => by cases hq; exact ⟨rfl, rfl⟩) (jHold_int _) okF hG5 rfl (fun h11 hG11 hX11 => ?_)
        have hE12 := hE6.tr hX11
        subst hZ
        exact j_return dX1_removeQuarrel_71 rfl (jWv.i (by unfold f_rem; rw [show i = F 7 0 by omega]) hG11 hE12) (Nat.le_refl _) (Nat.le_refl _)
      · refine j_aload_n dX1_removeQuarrel_27 rfl rfl ?_
        refine j_getfield (v := .ref (k + 5)) dX1_removeQuarrel_28 jf_X1_25 hG5.1 rfl ?_
        refine j_iload_n dX1_removeQuarrel_31 rfl rfl ?_
        refine j_iconst dX1_removeQuarrel_32 ?_
        refine j_isub dX1_removeQuarrel_33 ?_
        refine j_aload_n dX1_removeQuarrel_34 rfl rfl ?_
        refine j_getfield (v := .ref (k + 5)) dX1_removeQuarrel_35 jf_X1_25 hG5.1 rfl ?_
        refine j_iload_n dX1_removeQuarrel_38 rfl rfl ?_
        refine j_iaload (f := shf (F 4) q i) dX1_removeQuarrel_39 (hG5.a 4 5 0 20 rfl) (by omega) (by decide) ?_
        refine jo_ias (S := sF) (k := k) dX1_removeQuarrel_40 okF hG5 (i := 4) (p := 5) rfl (by omega) (by decide) (fun h13 hG13 hX13 => ?_)
        have hE14 := hE6.tr hX13
        refine j_aload_n dX1_removeQuarrel_41 rfl rfl ?_
        refine j_getfield (v := .ref (k + 6)) dX1_removeQuarrel_42 jf_X1_28 hG13.1 rfl ?_
        refine j_iload_n dX1_removeQuarrel_45 rfl rfl ?_
        refine j_iconst dX1_removeQuarrel_46 ?_
        refine j_isub dX1_removeQuarrel_47 ?_
        refine j_aload_n dX1_removeQuarrel_48 rfl rfl ?_
        refine j_getfield (v := .ref (k + 6)) dX1_removeQuarrel_49 jf_X1_28 hG13.1 rfl ?_
        refine j_iload_n dX1_removeQuarrel_52 rfl rfl ?_
        refine j_iaload (f := shf (F 5) q i) dX1_removeQuarrel_53 (hG13.a 5 6 0 20 rfl) (by omega) (by decide) ?_
        refine jo_ias (S := sF) (k := k) dX1_removeQuarrel_54 okF hG13 (i := 5) (p := 6) rfl (by omega) (by decide) (fun h15 hG15 hX15 => ?_)
        have hE16 := hE14.tr hX15
        refine j_iinc (L' := [(0, _), (1, _), (2, _)]) dX1_removeQuarrel_55 rfl (by decide) rfl ?_
        refine j_goto (tgt := 13) dX1_removeQuarrel_58 (by decide) ?_
        have e9 : gs (gs (gs (gs F 4 (shf (F 4) q i)) 5 (shf (F 5) q i)) 4 (jfu (shf (F 4) q i) (i - 1) (shf (F 4) q i i))) 5 (jfu (shf (F 5) q i) (i - 1) (shf (F 5) q i i)) = gs (gs F 4 (shf (F 4) q (i + 1))) 5 (shf (F 5) q (i + 1)) := by
          rw [shf_s (by omega), shf_s (by omega)]
          funext m
          by_cases m5 : m = 5
          · rw [m5, gs_s, gs_s]
          · by_cases m4 : m = 4
            · rw [m4]; rfl
            · rw [gs_n m5, gs_n m4, gs_n m5, gs_n m4, gs_n m5, gs_n m4]
        have hG9 : jOb sF k (gs (gs F 4 (shf (F 4) q (i + 1))) 5 (shf (F 5) q (i + 1))) h15 := Eq.mp (congrArg (fun z => jOb sF k z _) e9) hG15
        exact ih (i + 1) ⟨by omega, by omega⟩ (by omega) _ hG9 hE16
  · exact ⟨by omega, by omega⟩
theorem fab_iff {B : Int} {F : fS} (hO : jOk B F) (hA : fAc F) {a x : Int} (ha : a ≠ -1) : fab F a x = true ↔ ∃ j : Nat, upk (F 0) j x = a := by
  have key : ∀ (m : Nat) (x : Int), (fdep F x).toNat < m → (fab F a x = true ↔ ∃ j : Nat, upk (F 0) j x = a) := by
    intro m
    induction m with
    | zero => intro x hm; exact absurd hm (Nat.not_lt_zero _)
    | succ m ih =>
      intro x hm
      by_cases hx : x = -1
      · subst hx
        refine ⟨fun q => (by cases q), fun ⟨j, hj⟩ => ?_⟩
        rw [upk_e hO.par1] at hj
        exact absurd hj.symm ha
      · rw [fab_st hO hA hx]
        by_cases hp : F 0 x = -1
        · rw [hp, fab_e, Bool.or_false, decide_eq_true_iff]
          refine ⟨fun q => ⟨0, q⟩, fun ⟨j, hj⟩ => ?_⟩
          cases j with
          | zero => exact hj
          | succ j =>
            have : upk (F 0) j (F 0 x) = a := hj
            rw [hp, upk_e hO.par1] at this
            exact absurd this.symm ha
        · have hd := fdep_st hO hA hp
          have hr := fdep_rg F (F 0 x)
          have ih' := ih (F 0 x) (by omega)
          rw [Bool.or_eq_true, decide_eq_true_iff, ih']
          refine ⟨fun q => ?_, fun ⟨j, hj⟩ => ?_⟩
          · rcases q with q | ⟨j, hj⟩
            · exact ⟨0, q⟩
            · exact ⟨j + 1, hj⟩
          · cases j with
            | zero => exact Or.inl hj
            | succ j => exact Or.inr ⟨j, hj⟩
  exact key _ x (Nat.lt_succ_self _)
/-- the bits of m are the places of p and its elders, i of them -/
def nbits (F : fS) (p : Int) (m : Nat) (i : Int) : Prop := m < 2 ^ 24 ∧ ∀ y : Int, 0 ≤ y → y < 24 → (m.testBit y.toNat = true ↔ ∃ j : Nat, (j : Int) < i ∧ upk (F 0) j p = y)
theorem nbits_s {F : fS} {p x : Int} {m : Nat} {i : Int} (h : nbits F p m i) (hx : 0 ≤ x ∧ x < 24) (hi : 0 ≤ i) (he : upk (F 0) i.toNat p = x) : nbits F p (m ||| 2 ^ x.toNat) (i + 1) := by
  obtain ⟨h1, h2⟩ := h
  refine ⟨Nat.or_lt_two_pow h1 (Nat.pow_lt_pow_right (by decide) (by omega)), fun y y0 y1 => ?_⟩
  rw [Nat.testBit_or, Nat.testBit_two_pow, Bool.or_eq_true, h2 y y0 y1, decide_eq_true_iff]
  refine ⟨fun q => ?_, fun ⟨j, j0, j1⟩ => ?_⟩
  · rcases q with ⟨j, j0, j1⟩ | q
    · exact ⟨j, by omega, j1⟩
    · exact ⟨i.toNat, by omega, by rw [he]; omega⟩
  · by_cases hj : (j : Int) < i
    · exact Or.inl ⟨j, hj, j1⟩
    · have : j = i.toNat := by omega
      subst this
      exact Or.inr (by omega)
theorem nbits_fab {B : Int} {F : fS} (hO : jOk B F) (hA : fAc F) {p : Int} {m : Nat} {i : Int} (h : nbits F p m i) (h9 : i = 24 ∨ upk (F 0) i.toNat p = -1) (hi : 0 ≤ i) {y : Int} (hy : 0 ≤ y ∧ y < 24) : m / 2 ^ y.toNat % 2 = 1 ↔ fab F y p = true := by
  have e : (m.testBit y.toNat = true) ↔ m / 2 ^ y.toNat % 2 = 1 := by rw [Nat.testBit_eq_decide_div_mod_eq, decide_eq_true_iff]
  rw [← e, h.2 y hy.1 hy.2, fab_iff hO hA (by omega)]
  refine ⟨fun ⟨j, _, j1⟩ => ⟨j, j1⟩, fun ⟨j, j1⟩ => ⟨j, ?_, j1⟩⟩
  refine Decidable.not_not.mp fun q => ?_
  have hq : upk (F 0) i.toNat p = -1 := by
    rcases h9 with h9 | h9
    · rw [h9]; exact hA p
    · exact h9
  rw [upk_stay hO.par1 hq (by omega)] at j1
  omega
set_option maxHeartbeats 4000000 in
/-- Families.commonByNotes -/
theorem c1_commonByNotes {k : Nat} {F : fS} {B : Int} {h : jH} (hF : jOb sF k F h) (hO : jOk B F) {p o : Int} (hp : 0 ≤ p ∧ p < F 6 0) (ho : 0 ≤ o ∧ o < F 6 0) (hA : fAc F) : jM mX1_commonByNotes 1 0 0 [] [.ref k, iv p, iv o] h (jRet (iv (flc F o p)) h) jno := by
  refine j_method (by decide +kernel) rfl (fun _ _ _ => trivial) (Nat.le_of_ble_eq_true rfl) ?_
  generalize hZ : jZ [] 0 0 _ _ = Z
  show J mX1_commonByNotes (jR 1 0 0) [] Z 0 [(0, .ref k), (1, iv p), (2, iv o)] [] h 0 0
  have hn := hO.n
  refine j_iconst dX1_commonByNotes_0 ?_
  refine j_istore_n (L' := [(0, _), (1, _), (2, _), (3, _)]) dX1_commonByNotes_1 rfl (by decide) rfl ?_
  refine j_iload_n dX1_commonByNotes_2 rfl rfl ?_
  refine j_istore (L' := [(0, _), (1, _), (2, _), (3, _), (4, _)]) dX1_commonByNotes_3 (by decide) rfl ?_
  refine j_iconst dX1_commonByNotes_5 ?_
  refine j_istore (L' := [(0, _), (1, _), (2, _), (3, _), (4, _), (5, _)]) dX1_commonByNotes_6 (by decide) rfl ?_
  refine jloop (P := fun z9 : Nat × Int × Int => J mX1_commonByNotes (jR 1 0 0) [] Z 8 [(0, .ref k), (1, iv p), (2, iv o), (3, iv ((z9.1 : Int))), (4, iv z9.2.1), (5, iv z9.2.2)] [] h 0 0) (fun z9 => nbits F p z9.1 z9.2.2 ∧ 0 ≤ z9.2.2 ∧ z9.2.2 ≤ 24 ∧ -1 ≤ z9.2.1 ∧ z9.2.1 < 24 ∧ upk (F 0) z9.2.2.toNat p = z9.2.1) (fun z9 => (24 - z9.2.2).toNat) ?_ (0, p, 0) ?_
  · rintro ⟨m, x, i⟩ hinv ih
    dsimp only at hinv ih ⊢
    obtain ⟨k1, i1, i2, i3, i4, i5⟩ := hinv
    have hx9 := hO.p x
    have hm9 := k1.1
    refine j_iload dX1_commonByNotes_8 rfl ?_
    refine j_bipush dX1_commonByNotes_10 (by decide +kernel) ?_
    refine j_icmp_ge (tgt := 42) dX1_commonByNotes_12 (by decide) (by omega) (fun c1 => ?_) (fun c1 => ?_)
    · have hend : i = 24 ∨ upk (F 0) i.toNat p = -1 := by first | (exact Or.inl (by omega)) | (exact Or.inr (by rw [i5]; omega))
      refine j_iload_n dX1_commonByNotes_42 rfl rfl ?_
      refine j_istore (L' := [(0, _), (1, _), (2, _), (3, _), (4, _), (5, _)]) dX1_commonByNotes_43 (by decide) rfl ?_
      refine j_iconst dX1_commonByNotes_45 ?_
      refine j_istore (L' := [(0, _), (1, _), (2, _), (3, _), (4, _), (5, _)]) dX1_commonByNotes_46 (by decide) rfl ?_
      refine jloop (P := fun z9 : Int × Int => J mX1_commonByNotes (jR 1 0 0) [] Z 48 [(0, .ref k), (1, iv p), (2, iv o), (3, iv ((m : Int))), (4, iv z9.1), (5, iv z9.2)] [] h 0 0) (fun z9 => 0 ≤ z9.2 ∧ z9.2 ≤ 24 ∧ -1 ≤ z9.1 ∧ z9.1 < 24 ∧ flc F o p = ufst (F 0) (fun z => fab F z p) (24 - z9.2).toNat z9.1) (fun z9 => (24 - z9.2).toNat) ?_ (o, 0) ?_
      · rintro ⟨y, q⟩ hinv2 ih2
        dsimp only at hinv2 ih2 ⊢
        obtain ⟨q1, q2, q3, q4, q5⟩ := hinv2
        have hx8 := hO.p y
        refine j_iload dX1_commonByNotes_48 rfl ?_
        refine j_bipush dX1_commonByNotes_50 (by decide +kernel) ?_
        refine j_icmp_ge (tgt := 84) dX1_commonByNotes_52 (by decide) (by omega) (fun c2 => ?_) (fun c2 => ?_)
        · refine j_iload dX1_commonByNotes_84 rfl ?_
          subst hZ
          exact j_ireturn dX1_commonByNotes_86 rfl rfl (jRet.i (by first | (rw [q5, show (24 - q).toNat = 0 by omega]; rfl) | (rw [q5, fsuc (by omega : q < 24)]; show (if y = -1 then y else if fab F y p = true then y else _) = y; first | (rw [if_pos (by omega)]) | (rw [if_neg (by omega), if_pos ((nbits_fab hO hA k1 hend i1 (y := y) (by omega)).mp (by omega))])))) (Nat.le_refl _) (Nat.le_refl _)
        · refine j_iload dX1_commonByNotes_55 rfl ?_
          refine j_iconst dX1_commonByNotes_57 ?_
          refine j_icmp_eq (tgt := 84) dX1_commonByNotes_58 (by decide) (by omega) (fun c3 => ?_) (fun c3 => ?_)
          · refine j_iload dX1_commonByNotes_84 rfl ?_
            subst hZ
            exact j_ireturn dX1_commonByNotes_86 rfl rfl (jRet.i (by first | (rw [q5, show (24 - q).toNat = 0 by omega]; rfl) | (rw [q5, fsuc (by omega : q < 24)]; show (if y = -1 then y else if fab F y p = true then y else _) = y; first | (rw [if_pos (by omega)]) | (rw [if_neg (by omega), if_pos ((nbits_fab hO hA k1 hend i1 (y := y) (by omega)).mp (by omega))])))) (Nat.le_refl _) (Nat.le_refl _)
          · refine j_iload_n dX1_commonByNotes_61 rfl rfl ?_
            refine j_iload dX1_commonByNotes_62 rfl ?_
            refine j_ishr (z := ((m / 2 ^ Int.toNat y : Nat) : Int)) dX1_commonByNotes_64 (jz_shr (by omega) (by omega)) ?_
            refine j_iconst dX1_commonByNotes_65 ?_
            refine j_iand (z := ((m / 2 ^ Int.toNat y % 2 : Nat) : Int)) dX1_commonByNotes_66 (jz_and1 (by have := Nat.div_le_self m (2 ^ Int.toNat y); omega)) ?_
            refine j_if_ne (tgt := 84) dX1_commonByNotes_67 (by decide) (by omega) (fun c4 => ?_) (fun c4 => ?_)
            · refine j_iload dX1_commonByNotes_84 rfl ?_
              subst hZ
              exact j_ireturn dX1_commonByNotes_86 rfl rfl (jRet.i (by first | (rw [q5, show (24 - q).toNat = 0 by omega]; rfl) | (rw [q5, fsuc (by omega : q < 24)]; show (if y = -1 then y else if fab F y p = true then y else _) = y; first | (rw [if_pos (by omega)]) | (rw [if_neg (by omega), if_pos ((nbits_fab hO hA k1 hend i1 (y := y) (by omega)).mp (by omega))])))) (Nat.le_refl _) (Nat.le_refl _)
            · refine j_aload_n dX1_commonByNotes_70 rfl rfl ?_
              refine j_iload dX1_commonByNotes_71 rfl ?_
              refine j_callV (c_parentOf hF.fam hO (by omega)) dX1_commonByNotes_73 jc_X1_65 jmV_X1_parentOf rfl rfl hF.1 rfl rfl (by simp) jfr_nil (Nat.le_of_ble_eq_true rfl) ⟨Nat.le_of_ble_eq_true rfl, Nat.le_of_ble_eq_true rfl⟩ ⟨Nat.le_of_ble_eq_true rfl, Nat.le_of_ble_eq_true rfl⟩ (fun r h5 hp9 => ?_) (fun E h9 q => q.elim)
              obtain ⟨rfl, rfl⟩ := hp9
              refine j_istore (L' := [(0, _), (1, _), (2, _), (3, _), (4, _), (5, _)]) dX1_commonByNotes_76 (by decide) rfl ?_
              refine j_iinc (L' := [(0, _), (1, _), (2, _), (3, _), (4, _), (5, _)]) dX1_commonByNotes_78 rfl (by decide) rfl ?_
              refine j_goto (tgt := 48) dX1_commonByNotes_81 (by decide) ?_
              rw [fsuc (by omega : q < 24)] at q5
              have e9 : ufst (F 0) (fun z => fab F z p) ((24 - (q + 1)).toNat + 1) y = ufst (F 0) (fun z => fab F z p) (24 - (q + 1)).toNat (F 0 y) := by
                show (if y = -1 then y else if fab F y p = true then y else _) = _
                rw [if_neg (by omega), if_neg (fun z => by have := (nbits_fab hO hA k1 hend i1 (y := y) (by omega)).mpr z; omega)]
              rw [e9] at q5
              have ih9 := ih2 (F 0 y, q + 1)
              dsimp only at ih9
              exact ih9 ⟨by omega, by omega, by omega, by omega, q5⟩ (by omega)
      · dsimp only
        exact ⟨by omega, by omega, by omega, by omega, rfl⟩
    · refine j_iload dX1_commonByNotes_15 rfl ?_
      refine j_iconst dX1_commonByNotes_17 ?_
      refine j_icmp_eq (tgt := 42) dX1_commonByNotes_18 (by decide) (by omega) (fun c6 => ?_) (fun c6 => ?_)
      · have hend : i = 24 ∨ upk (F 0) i.toNat p = -1 := by first | (exact Or.inl (by omega)) | (exact Or.inr (by rw [i5]; omega))
        refine j_iload_n dX1_commonByNotes_42 rfl rfl ?_
        refine j_istore (L' := [(0, _), (1, _), (2, _), (3, _), (4, _), (5, _)]) dX1_commonByNotes_43 (by decide) rfl ?_
        refine j_iconst dX1_commonByNotes_45 ?_
        refine j_istore (L' := [(0, _), (1, _), (2, _), (3, _), (4, _), (5, _)]) dX1_commonByNotes_46 (by decide) rfl ?_
        refine jloop (P := fun z9 : Int × Int => J mX1_commonByNotes (jR 1 0 0) [] Z 48 [(0, .ref k), (1, iv p), (2, iv o), (3, iv ((m : Int))), (4, iv z9.1), (5, iv z9.2)] [] h 0 0) (fun z9 => 0 ≤ z9.2 ∧ z9.2 ≤ 24 ∧ -1 ≤ z9.1 ∧ z9.1 < 24 ∧ flc F o p = ufst (F 0) (fun z => fab F z p) (24 - z9.2).toNat z9.1) (fun z9 => (24 - z9.2).toNat) ?_ (o, 0) ?_
        · rintro ⟨y, q⟩ hinv2 ih2
          dsimp only at hinv2 ih2 ⊢
          obtain ⟨q1, q2, q3, q4, q5⟩ := hinv2
          have hx8 := hO.p y
          refine j_iload dX1_commonByNotes_48 rfl ?_
          refine j_bipush dX1_commonByNotes_50 (by decide +kernel) ?_
          refine j_icmp_ge (tgt := 84) dX1_commonByNotes_52 (by decide) (by omega) (fun c7 => ?_) (fun c7 => ?_)
          · refine j_iload dX1_commonByNotes_84 rfl ?_
            subst hZ
            exact j_ireturn dX1_commonByNotes_86 rfl rfl (jRet.i (by first | (rw [q5, show (24 - q).toNat = 0 by omega]; rfl) | (rw [q5, fsuc (by omega : q < 24)]; show (if y = -1 then y else if fab F y p = true then y else _) = y; first | (rw [if_pos (by omega)]) | (rw [if_neg (by omega), if_pos ((nbits_fab hO hA k1 hend i1 (y := y) (by omega)).mp (by omega))])))) (Nat.le_refl _) (Nat.le_refl _)
          · refine j_iload dX1_commonByNotes_55 rfl ?_
            refine j_iconst dX1_commonByNotes_57 ?_
            refine j_icmp_eq (tgt := 84) dX1_commonByNotes_58 (by decide) (by omega) (fun c8 => ?_) (fun c8 => ?_)
            · refine j_iload dX1_commonByNotes_84 rfl ?_
              subst hZ
              exact j_ireturn dX1_commonByNotes_86 rfl rfl (jRet.i (by first | (rw [q5, show (24 - q).toNat = 0 by omega]; rfl) | (rw [q5, fsuc (by omega : q < 24)]; show (if y = -1 then y else if fab F y p = true then y else _) = y; first | (rw [if_pos (by omega)]) | (rw [if_neg (by omega), if_pos ((nbits_fab hO hA k1 hend i1 (y := y) (by omega)).mp (by omega))])))) (Nat.le_refl _) (Nat.le_refl _)
            · refine j_iload_n dX1_commonByNotes_61 rfl rfl ?_
              refine j_iload dX1_commonByNotes_62 rfl ?_
              refine j_ishr (z := ((m / 2 ^ Int.toNat y : Nat) : Int)) dX1_commonByNotes_64 (jz_shr (by omega) (by omega)) ?_
              refine j_iconst dX1_commonByNotes_65 ?_
              refine j_iand (z := ((m / 2 ^ Int.toNat y % 2 : Nat) : Int)) dX1_commonByNotes_66 (jz_and1 (by have := Nat.div_le_self m (2 ^ Int.toNat y); omega)) ?_
              refine j_if_ne (tgt := 84) dX1_commonByNotes_67 (by decide) (by omega) (fun c9 => ?_) (fun c9 => ?_)
              · refine j_iload dX1_commonByNotes_84 rfl ?_
                subst hZ
                exact j_ireturn dX1_commonByNotes_86 rfl rfl (jRet.i (by first | (rw [q5, show (24 - q).toNat = 0 by omega]; rfl) | (rw [q5, fsuc (by omega : q < 24)]; show (if y = -1 then y else if fab F y p = true then y else _) = y; first | (rw [if_pos (by omega)]) | (rw [if_neg (by omega), if_pos ((nbits_fab hO hA k1 hend i1 (y := y) (by omega)).mp (by omega))])))) (Nat.le_refl _) (Nat.le_refl _)
              · refine j_aload_n dX1_commonByNotes_70 rfl rfl ?_
                refine j_iload dX1_commonByNotes_71 rfl ?_
                refine j_callV (c_parentOf hF.fam hO (by omega)) dX1_commonByNotes_73 jc_X1_65 jmV_X1_parentOf rfl rfl hF.1 rfl rfl (by simp) jfr_nil (Nat.le_of_ble_eq_true rfl) ⟨Nat.le_of_ble_eq_true rfl, Nat.le_of_ble_eq_true rfl⟩ ⟨Nat.le_of_ble_eq_true rfl, Nat.le_of_ble_eq_true rfl⟩ (fun r h10 hp9 => ?_) (fun E h9 q => q.elim)
                obtain ⟨rfl, rfl⟩ := hp9
                refine j_istore (L' := [(0, _), (1, _), (2, _), (3, _), (4, _), (5, _)]) dX1_commonByNotes_76 (by decide) rfl ?_
                refine j_iinc (L' := [(0, _), (1, _), (2, _), (3, _), (4, _), (5, _)]) dX1_commonByNotes_78 rfl (by decide) rfl ?_
                refine j_goto (tgt := 48) dX1_commonByNotes_81 (by decide) ?_
                rw [fsuc (by omega : q < 24)] at q5
                have e9 : ufst (F 0) (fun z => fab F z p) ((24 - (q + 1)).toNat + 1) y = ufst (F 0) (fun z => fab F z p) (24 - (q + 1)).toNat (F 0 y) := by
                  show (if y = -1 then y else if fab F y p = true then y else _) = _
                  rw [if_neg (by omega), if_neg (fun z => by have := (nbits_fab hO hA k1 hend i1 (y := y) (by omega)).mpr z; omega)]
                rw [e9] at q5
                have ih9 := ih2 (F 0 y, q + 1)
                dsimp only at ih9
                exact ih9 ⟨by omega, by omega, by omega, by omega, q5⟩ (by omega)
        · dsimp only
          exact ⟨by omega, by omega, by omega, by omega, rfl⟩
      · refine j_iload_n dX1_commonByNotes_21 rfl rfl ?_
        refine j_iconst dX1_commonByNotes_22 ?_
        refine j_iload dX1_commonByNotes_23 rfl ?_
        refine j_ishl (z := ((2 ^ Int.toNat x : Nat) : Int)) dX1_commonByNotes_25 (jz_shl1 (by omega)) ?_
        refine j_ior (z := ((m ||| 2 ^ Int.toNat x : Nat) : Int)) dX1_commonByNotes_26 (jz_or _ _) ?_
        refine j_istore_n (L' := [(0, _), (1, _), (2, _), (3, _), (4, _), (5, _)]) dX1_commonByNotes_27 rfl (by decide) rfl ?_
        refine j_aload_n dX1_commonByNotes_28 rfl rfl ?_
        refine j_iload dX1_commonByNotes_29 rfl ?_
        refine j_callV (c_parentOf hF.fam hO (by omega)) dX1_commonByNotes_31 jc_X1_65 jmV_X1_parentOf rfl rfl hF.1 rfl rfl (by simp) jfr_nil (Nat.le_of_ble_eq_true rfl) ⟨Nat.le_of_ble_eq_true rfl, Nat.le_of_ble_eq_true rfl⟩ ⟨Nat.le_of_ble_eq_true rfl, Nat.le_of_ble_eq_true rfl⟩ (fun r h11 hp9 => ?_) (fun E h9 q => q.elim)
        obtain ⟨rfl, rfl⟩ := hp9
        refine j_istore (L' := [(0, _), (1, _), (2, _), (3, _), (4, _), (5, _)]) dX1_commonByNotes_34 (by decide) rfl ?_
        refine j_iinc (L' := [(0, _), (1, _), (2, _), (3, _), (4, _), (5, _)]) dX1_commonByNotes_36 rfl (by decide) rfl ?_
        refine j_goto (tgt := 8) dX1_commonByNotes_39 (by decide) ?_
        have ih9 := ih (m ||| 2 ^ Int.toNat x, F 0 x, i + 1)
        dsimp only at ih9
        exact ih9 ⟨nbits_s k1 (by omega) i1 i5, by omega, by omega, by omega, by omega, by rw [show (i + 1).toNat = i.toNat + 1 by omega, upk_s, i5]⟩ (by omega)
  · dsimp only
    exact ⟨⟨by decide, fun y y0 y1 => ⟨fun q => (by rw [Nat.zero_testBit] at q; cases q), fun ⟨j, j0, _⟩ => (by omega)⟩⟩, by omega, by omega, by omega, by omega, rfl⟩
