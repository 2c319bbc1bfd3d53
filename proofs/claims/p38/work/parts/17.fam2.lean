def fqa (F : fS) (i : Int) : Int := if 0 ≤ i ∧ i < F 7 0 then F 4 i else -1
def fqb (F : fS) (i : Int) : Int := if 0 ≤ i ∧ i < F 7 0 then F 5 i else -1
theorem fqa_rg {F : fS} {B : Int} (hO : jOk B F) (i : Int) : -1 ≤ fqa F i ∧ fqa F i < 24 := by
  have hn := hO.n
  unfold fqa
  by_cases h : 0 ≤ i ∧ i < F 7 0
  · rw [if_pos h]; have := hO.qq i h.1 h.2; omega
  · rw [if_neg h]; omega
theorem fqb_rg {F : fS} {B : Int} (hO : jOk B F) (i : Int) : -1 ≤ fqb F i ∧ fqb F i < 24 := by
  have hn := hO.n
  unfold fqb
  by_cases h : 0 ≤ i ∧ i < F 7 0
  · rw [if_pos h]; have := hO.qq i h.1 h.2; omega
  · rw [if_neg h]; omega
set_option maxHeartbeats 4000000 in
/-- Families.hasQuarrel -/
theorem c_hasQuarrel {k : Nat} {F : fS} {B : Int} {h : jH} (hF : jFam k F h) (hO : jOk B F) {p : Int} (hp : -2147483648 ≤ p ∧ p ≤ 2147483647) : jM mX1_hasQuarrel 0 0 0 [] [.ref (k), iv p] h (jRet (iv (bi (0 ≤ p ∧ p < F 7 0))) h) jno := by
  refine j_method (by decide +kernel) rfl (fun _ _ _ => trivial) (Nat.le_of_ble_eq_true rfl) ?_
  generalize hZ : jZ [] 0 0 _ _ = Z
  show J mX1_hasQuarrel (jR 0 0 0) [] Z 0 [(0, .ref (k)), (1, iv p)] [] h 0 0
  have hn := hO.n
  have hq := hO.q
  have hb := hO.b
  refine j_iload_n dX1_hasQuarrel_0 rfl rfl ?_
  refine j_if_lt (tgt := 22) dX1_hasQuarrel_1 (by decide) (by omega) (fun c1 => ?_) (fun c1 => ?_)
  · refine j_iconst dX1_hasQuarrel_22 ?_
    subst hZ
    exact j_ireturn dX1_hasQuarrel_23 rfl rfl (jRet_i (by first | exact (bi_t (by omega)).symm | exact (bi_f (by omega)).symm)) (Nat.le_refl _) (Nat.le_refl _)
  · refine j_iload_n dX1_hasQuarrel_4 rfl rfl ?_
    refine j_aload_n dX1_hasQuarrel_5 rfl rfl ?_
    refine j_getfield dX1_hasQuarrel_6 jf_X1_35 hF.1 rfl ?_
    refine j_icmp_ge (tgt := 22) dX1_hasQuarrel_9 (by decide) (by omega) (fun c9 => ?_) (fun c9 => ?_)
    · refine j_iconst dX1_hasQuarrel_22 ?_
      subst hZ
      exact j_ireturn dX1_hasQuarrel_23 rfl rfl (jRet_i (by first | exact (bi_t (by omega)).symm | exact (bi_f (by omega)).symm)) (Nat.le_refl _) (Nat.le_refl _)
    · refine j_iload_n dX1_hasQuarrel_12 rfl rfl ?_
      refine j_bipush dX1_hasQuarrel_13 (by decide +kernel) ?_
      refine j_icmp_ge (tgt := 22) dX1_hasQuarrel_15 (by decide) (by omega) (fun c15 => ?_) (fun c15 => ?_)
      · refine j_iconst dX1_hasQuarrel_22 ?_
        subst hZ
        exact j_ireturn dX1_hasQuarrel_23 rfl rfl (jRet_i (by first | exact (bi_t (by omega)).symm | exact (bi_f (by omega)).symm)) (Nat.le_refl _) (Nat.le_refl _)
      · refine j_iconst dX1_hasQuarrel_18 ?_
        refine j_goto (tgt := 23) dX1_hasQuarrel_19 (by decide) ?_
        subst hZ
        exact j_ireturn dX1_hasQuarrel_23 rfl rfl (jRet_i (by first | exact (bi_t (by omega)).symm | exact (bi_f (by omega)).symm)) (Nat.le_refl _) (Nat.le_refl _)
set_option maxHeartbeats 4000000 in
/-- Families.quarrelerAt -/
theorem c_quarrelerAt {k : Nat} {F : fS} {B : Int} {h : jH} (hF : jFam k F h) (hO : jOk B F) {p : Int} (hp : -2147483648 ≤ p ∧ p ≤ 2147483647) : jM mX1_quarrelerAt 1 0 0 [] [.ref (k), iv p] h (jRet (iv (fqa F p)) h) jno := by
  refine j_method (by decide +kernel) rfl (fun _ _ _ => trivial) (Nat.le_of_ble_eq_true rfl) ?_
  generalize hZ : jZ [] 0 0 _ _ = Z
  show J mX1_quarrelerAt (jR 1 0 0) [] Z 0 [(0, .ref (k)), (1, iv p)] [] h 0 0
  have hn := hO.n
  have hq := hO.q
  have hb := hO.b
  have hb9 := bi_rg (0 ≤ p ∧ p < F 7 0)
  have hb8 : bi (0 ≤ p ∧ p < F 7 0) ≠ 0 → 0 ≤ p ∧ p < F 7 0 := fun q => Decidable.not_not.mp fun q2 => q (bi_f q2)
  have hb7 : bi (0 ≤ p ∧ p < F 7 0) = 0 → ¬ (0 ≤ p ∧ p < F 7 0) := fun q q2 => by rw [bi_t q2] at q; cases q
  refine j_aload_n dX1_quarrelerAt_0 rfl rfl ?_
  refine j_iload_n dX1_quarrelerAt_1 rfl rfl ?_
  refine j_callV (c_hasQuarrel hF hO (by omega)) dX1_quarrelerAt_2 jc_X1_81 jmV_X1_hasQuarrel rfl rfl hF.1 rfl rfl (by simp) jfr_nil (Nat.le_of_ble_eq_true rfl) ⟨Nat.le_of_ble_eq_true rfl, Nat.le_of_ble_eq_true rfl⟩ ⟨Nat.le_of_ble_eq_true rfl, Nat.le_of_ble_eq_true rfl⟩ (fun r h' hp9 => ?_) (fun E h9 q => q.elim)
  obtain ⟨rfl, rfl⟩ := hp9
  refine j_if_eq (tgt := 17) dX1_quarrelerAt_5 (by decide) (by omega) (fun c5 => ?_) (fun c5 => ?_)
  · refine j_iconst dX1_quarrelerAt_17 ?_
    subst hZ
    exact j_ireturn dX1_quarrelerAt_18 rfl rfl (jRet_i (by first | (rw [fqa, if_pos (hb8 c5)]) | (rw [fqa, if_neg (hb7 c5)]))) (Nat.le_refl _) (Nat.le_refl _)
  · refine j_aload_n dX1_quarrelerAt_8 rfl rfl ?_
    refine j_getfield dX1_quarrelerAt_9 jf_X1_25 hF.1 rfl ?_
    refine j_iload_n dX1_quarrelerAt_12 rfl rfl ?_
    refine j_iaload dX1_quarrelerAt_13 hF.2.2.2.2.2.1 (by have := hb8 c5; omega) (by decide) ?_
    refine j_goto (tgt := 18) dX1_quarrelerAt_14 (by decide) ?_
    subst hZ
    exact j_ireturn dX1_quarrelerAt_18 rfl rfl (jRet_i (by first | (rw [fqa, if_pos (hb8 c5)]) | (rw [fqa, if_neg (hb7 c5)]))) (Nat.le_refl _) (Nat.le_refl _)
set_option maxHeartbeats 4000000 in
/-- Families.rivalAt -/
theorem c_rivalAt {k : Nat} {F : fS} {B : Int} {h : jH} (hF : jFam k F h) (hO : jOk B F) {p : Int} (hp : -2147483648 ≤ p ∧ p ≤ 2147483647) : jM mX1_rivalAt 1 0 0 [] [.ref (k), iv p] h (jRet (iv (fqb F p)) h) jno := by
  refine j_method (by decide +kernel) rfl (fun _ _ _ => trivial) (Nat.le_of_ble_eq_true rfl) ?_
  generalize hZ : jZ [] 0 0 _ _ = Z
  show J mX1_rivalAt (jR 1 0 0) [] Z 0 [(0, .ref (k)), (1, iv p)] [] h 0 0
  have hn := hO.n
  have hq := hO.q
  have hb := hO.b
  have hb9 := bi_rg (0 ≤ p ∧ p < F 7 0)
  have hb8 : bi (0 ≤ p ∧ p < F 7 0) ≠ 0 → 0 ≤ p ∧ p < F 7 0 := fun q => Decidable.not_not.mp fun q2 => q (bi_f q2)
  have hb7 : bi (0 ≤ p ∧ p < F 7 0) = 0 → ¬ (0 ≤ p ∧ p < F 7 0) := fun q q2 => by rw [bi_t q2] at q; cases q
  refine j_aload_n dX1_rivalAt_0 rfl rfl ?_
  refine j_iload_n dX1_rivalAt_1 rfl rfl ?_
  refine j_callV (c_hasQuarrel hF hO (by omega)) dX1_rivalAt_2 jc_X1_81 jmV_X1_hasQuarrel rfl rfl hF.1 rfl rfl (by simp) jfr_nil (Nat.le_of_ble_eq_true rfl) ⟨Nat.le_of_ble_eq_true rfl, Nat.le_of_ble_eq_true rfl⟩ ⟨Nat.le_of_ble_eq_true rfl, Nat.le_of_ble_eq_true rfl⟩ (fun r h' hp9 => ?_) (fun E h9 q => q.elim)
  obtain ⟨rfl, rfl⟩ := hp9
  refine j_if_eq (tgt := 17) dX1_rivalAt_5 (by decide) (by omega) (fun c5 => ?_) (fun c5 => ?_)
  · refine j_iconst dX1_rivalAt_17 ?_
    subst hZ
    exact j_ireturn dX1_rivalAt_18 rfl rfl (jRet_i (by first | (rw [fqb, if_pos (hb8 c5)]) | (rw [fqb, if_neg (hb7 c5)]))) (Nat.le_refl _) (Nat.le_refl _)
  · refine j_aload_n dX1_rivalAt_8 rfl rfl ?_
    refine j_getfield dX1_rivalAt_9 jf_X1_28 hF.1 rfl ?_
    refine j_iload_n dX1_rivalAt_12 rfl rfl ?_
    refine j_iaload dX1_rivalAt_13 hF.2.2.2.2.2.2 (by have := hb8 c5; omega) (by decide) ?_
    refine j_goto (tgt := 18) dX1_rivalAt_14 (by decide) ?_
    subst hZ
    exact j_ireturn dX1_rivalAt_18 rfl rfl (jRet_i (by first | (rw [fqb, if_pos (hb8 c5)]) | (rw [fqb, if_neg (hb7 c5)]))) (Nat.le_refl _) (Nat.le_refl _)
set_option maxHeartbeats 4000000 in
/-- Families.quarrelsOf -/
theorem c_quarrelsOf {k : Nat} {F : fS} {B : Int} {h : jH} (hF : jFam k F h) (hO : jOk B F) {p : Int} (hp : -2147483648 ≤ p ∧ p ≤ 2147483647) : jM mX1_quarrelsOf 2 0 0 [] [.ref (k), iv p] h (jRet (iv (csum (fun z => bi (fqa F z = p ∨ fqb F z = p)) (F 7 0).toNat)) h) jno := by
  refine j_method (by decide +kernel) rfl (fun _ _ _ => trivial) (Nat.le_of_ble_eq_true rfl) ?_
  generalize hZ : jZ [] 0 0 _ _ = Z
  show J mX1_quarrelsOf (jR 2 0 0) [] Z 0 [(0, .ref (k)), (1, iv p)] [] h 0 0
  have hn := hO.n
  have hq := hO.q
  have hb := hO.b
  refine j_iconst dX1_quarrelsOf_0 ?_
  refine j_istore_n (L' := [(0, _), (1, _), (2, _)]) dX1_quarrelsOf_1 rfl (by decide) rfl ?_
  refine j_iconst dX1_quarrelsOf_2 ?_
  refine j_istore_n (L' := [(0, _), (1, _), (2, _), (3, _)]) dX1_quarrelsOf_3 rfl (by decide) rfl ?_
  refine jloop (P := fun a : Int × Int => J mX1_quarrelsOf (jR 2 0 0) [] Z 4 [(0, .ref k), (1, iv p), (2, iv a.1), (3, iv a.2)] [] h 0 0) (fun a => 0 ≤ a.2 ∧ a.2 ≤ F 7 0 ∧ (0 ≤ a.1 ∧ a.1 ≤ a.2) ∧ a.1 = csum (fun z => bi (fqa F z = p ∨ fqb F z = p)) a.2.toNat) (fun a => (F 7 0 - a.2).toNat) ?_ (0, 0) ?_
  · rintro ⟨a, i⟩ hinv ih
    dsimp only at hinv ih ⊢
    obtain ⟨i1, i2, i3, i4⟩ := hinv
    have hx9 := fqa_rg hO i
    have hx8 := fqb_rg hO i
    refine j_iload_n dX1_quarrelsOf_4 rfl rfl ?_
    refine j_aload_n dX1_quarrelsOf_5 rfl rfl ?_
    refine j_getfield dX1_quarrelsOf_6 jf_X1_35 hF.1 rfl ?_
    refine j_icmp_ge (tgt := 39) dX1_quarrelsOf_9 (by decide) (by omega) (fun c9 => ?_) (fun c9 => ?_)
    · refine j_iload_n dX1_quarrelsOf_39 rfl rfl ?_
      subst hZ
      exact j_ireturn dX1_quarrelsOf_40 rfl rfl (jRet_i (by rw [i4, show i = F 7 0 by omega])) (Nat.le_refl _) (Nat.le_refl _)
    · refine j_aload_n dX1_quarrelsOf_12 rfl rfl ?_
      refine j_iload_n dX1_quarrelsOf_13 rfl rfl ?_
      refine j_callV (c_quarrelerAt hF hO (by omega)) dX1_quarrelsOf_14 jc_X1_84 jmV_X1_quarrelerAt rfl rfl hF.1 rfl rfl (by simp) jfr_nil (Nat.le_of_ble_eq_true rfl) ⟨Nat.le_of_ble_eq_true rfl, Nat.le_of_ble_eq_true rfl⟩ ⟨Nat.le_of_ble_eq_true rfl, Nat.le_of_ble_eq_true rfl⟩ (fun r h' hp9 => ?_) (fun E h9 q => q.elim)
      obtain ⟨rfl, rfl⟩ := hp9
      refine j_iload_n dX1_quarrelsOf_17 rfl rfl ?_
      refine j_icmp_eq (tgt := 30) dX1_quarrelsOf_18 (by decide) (by omega) (fun c18 => ?_) (fun c18 => ?_)
      · refine j_iinc (L' := [(0, _), (1, _), (2, _), (3, _)]) dX1_quarrelsOf_30 rfl (by decide) rfl ?_
        refine j_iinc (L' := [(0, _), (1, _), (2, _), (3, _)]) dX1_quarrelsOf_33 rfl (by decide) rfl ?_
        refine j_goto (tgt := 4) dX1_quarrelsOf_36 (by decide) ?_
        first
          | exact ih (a + 1, i + 1) ⟨by show 0 ≤ i + 1; omega, by show i + 1 ≤ F 7 0; omega, by show 0 ≤ a + 1 ∧ a + 1 ≤ i + 1; omega, by show a + 1 = csum (fun z => bi (fqa F z = p ∨ fqb F z = p)) (i + 1).toNat; rw [csum_s _ i1, ← i4]; show a + 1 = a + bi (fqa F i = p ∨ fqb F i = p); rw [show bi (fqa F i = p ∨ fqb F i = p) = 1 from bi_t (by omega)]⟩ (by show (F 7 0 - (i + 1)).toNat < (F 7 0 - i).toNat; omega)
          | exact ih (a, i + 1) ⟨by show 0 ≤ i + 1; omega, by show i + 1 ≤ F 7 0; omega, by show 0 ≤ a ∧ a ≤ i + 1; omega, by show a = csum (fun z => bi (fqa F z = p ∨ fqb F z = p)) (i + 1).toNat; rw [csum_s _ i1, ← i4]; show a = a + bi (fqa F i = p ∨ fqb F i = p); rw [show bi (fqa F i = p ∨ fqb F i = p) = 0 from bi_f (by omega), Int.add_zero]⟩ (by show (F 7 0 - (i + 1)).toNat < (F 7 0 - i).toNat; omega)
      · refine j_aload_n dX1_quarrelsOf_21 rfl rfl ?_
        refine j_iload_n dX1_quarrelsOf_22 rfl rfl ?_
        refine j_callV (c_rivalAt hF hO (by omega)) dX1_quarrelsOf_23 jc_X1_87 jmV_X1_rivalAt rfl rfl hF.1 rfl rfl (by simp) jfr_nil (Nat.le_of_ble_eq_true rfl) ⟨Nat.le_of_ble_eq_true rfl, Nat.le_of_ble_eq_true rfl⟩ ⟨Nat.le_of_ble_eq_true rfl, Nat.le_of_ble_eq_true rfl⟩ (fun r h' hp9 => ?_) (fun E h9 q => q.elim)
        obtain ⟨rfl, rfl⟩ := hp9
        refine j_iload_n dX1_quarrelsOf_26 rfl rfl ?_
        refine j_icmp_ne (tgt := 33) dX1_quarrelsOf_27 (by decide) (by omega) (fun c27 => ?_) (fun c27 => ?_)
        · refine j_iinc (L' := [(0, _), (1, _), (2, _), (3, _)]) dX1_quarrelsOf_33 rfl (by decide) rfl ?_
          refine j_goto (tgt := 4) dX1_quarrelsOf_36 (by decide) ?_
          first
            | exact ih (a + 1, i + 1) ⟨by show 0 ≤ i + 1; omega, by show i + 1 ≤ F 7 0; omega, by show 0 ≤ a + 1 ∧ a + 1 ≤ i + 1; omega, by show a + 1 = csum (fun z => bi (fqa F z = p ∨ fqb F z = p)) (i + 1).toNat; rw [csum_s _ i1, ← i4]; show a + 1 = a + bi (fqa F i = p ∨ fqb F i = p); rw [show bi (fqa F i = p ∨ fqb F i = p) = 1 from bi_t (by omega)]⟩ (by show (F 7 0 - (i + 1)).toNat < (F 7 0 - i).toNat; omega)
            | exact ih (a, i + 1) ⟨by show 0 ≤ i + 1; omega, by show i + 1 ≤ F 7 0; omega, by show 0 ≤ a ∧ a ≤ i + 1; omega, by show a = csum (fun z => bi (fqa F z = p ∨ fqb F z = p)) (i + 1).toNat; rw [csum_s _ i1, ← i4]; show a = a + bi (fqa F i = p ∨ fqb F i = p); rw [show bi (fqa F i = p ∨ fqb F i = p) = 0 from bi_f (by omega), Int.add_zero]⟩ (by show (F 7 0 - (i + 1)).toNat < (F 7 0 - i).toNat; omega)
        · refine j_iinc (L' := [(0, _), (1, _), (2, _), (3, _)]) dX1_quarrelsOf_30 rfl (by decide) rfl ?_
          refine j_iinc (L' := [(0, _), (1, _), (2, _), (3, _)]) dX1_quarrelsOf_33 rfl (by decide) rfl ?_
          refine j_goto (tgt := 4) dX1_quarrelsOf_36 (by decide) ?_
          first
            | exact ih (a + 1, i + 1) ⟨by show 0 ≤ i + 1; omega, by show i + 1 ≤ F 7 0; omega, by show 0 ≤ a + 1 ∧ a + 1 ≤ i + 1; omega, by show a + 1 = csum (fun z => bi (fqa F z = p ∨ fqb F z = p)) (i + 1).toNat; rw [csum_s _ i1, ← i4]; show a + 1 = a + bi (fqa F i = p ∨ fqb F i = p); rw [show bi (fqa F i = p ∨ fqb F i = p) = 1 from bi_t (by omega)]⟩ (by show (F 7 0 - (i + 1)).toNat < (F 7 0 - i).toNat; omega)
            | exact ih (a, i + 1) ⟨by show 0 ≤ i + 1; omega, by show i + 1 ≤ F 7 0; omega, by show 0 ≤ a ∧ a ≤ i + 1; omega, by show a = csum (fun z => bi (fqa F z = p ∨ fqb F z = p)) (i + 1).toNat; rw [csum_s _ i1, ← i4]; show a = a + bi (fqa F i = p ∨ fqb F i = p); rw [show bi (fqa F i = p ∨ fqb F i = p) = 0 from bi_f (by omega), Int.add_zero]⟩ (by show (F 7 0 - (i + 1)).toNat < (F 7 0 - i).toNat; omega)
  · dsimp only
    exact ⟨by omega, by omega, by omega, rfl⟩
/-- whether p and o quarrel, from the place i on, within k -/
def fdq (F : fS) (p o : Int) : Nat → Int → Bool
  | 0, _ => false
  | k + 1, i => if (fqa F i = p ∧ fqb F i = o) ∨ (fqa F i = o ∧ fqb F i = p) then true else fdq F p o k (i + 1)
theorem fdq_t {F : fS} {p o i : Int} {k : Nat} (h : (fqa F i = p ∧ fqb F i = o) ∨ (fqa F i = o ∧ fqb F i = p)) : fdq F p o (k + 1) i = true := if_pos h
theorem fdq_f {F : fS} {p o i : Int} {k : Nat} (h : ¬ ((fqa F i = p ∧ fqb F i = o) ∨ (fqa F i = o ∧ fqb F i = p))) : fdq F p o (k + 1) i = fdq F p o k (i + 1) := if_neg h
set_option maxHeartbeats 4000000 in
/-- Families.doQuarrel -/
theorem c_doQuarrel {k : Nat} {F : fS} {B : Int} {h : jH} (hF : jFam k F h) (hO : jOk B F) {p o : Int} (hp : -2147483648 ≤ p ∧ p ≤ 2147483647) (ho : -2147483648 ≤ o ∧ o ≤ 2147483647) : jM mX1_doQuarrel 2 0 0 [] [.ref (k), iv p, iv o] h (jRet (iv (bi (fdq F p o (F 7 0).toNat 0 = true))) h) jno := by
  refine j_method (by decide +kernel) rfl (fun _ _ _ => trivial) (Nat.le_of_ble_eq_true rfl) ?_
  generalize hZ : jZ [] 0 0 _ _ = Z
  show J mX1_doQuarrel (jR 2 0 0) [] Z 0 [(0, .ref (k)), (1, iv p), (2, iv o)] [] h 0 0
  have hn := hO.n
  have hq := hO.q
  have hb := hO.b
  refine j_iconst dX1_doQuarrel_0 ?_
  refine j_istore_n (L' := [(0, _), (1, _), (2, _), (3, _)]) dX1_doQuarrel_1 rfl (by decide) rfl ?_
  refine jloop (P := fun a : Int => J mX1_doQuarrel (jR 2 0 0) [] Z 2 [(0, .ref k), (1, iv p), (2, iv o), (3, iv a)] [] h 0 0) (fun a => 0 ≤ a ∧ a ≤ F 7 0 ∧ fdq F p o (F 7 0).toNat 0 = fdq F p o (F 7 0 - a).toNat a) (fun a => (F 7 0 - a).toNat) ?_ (0) ?_
  · rintro i hinv ih
    obtain ⟨i1, i2, i3⟩ := hinv
    have hx9 := fqa_rg hO i
    have hx8 := fqb_rg hO i
    refine j_iload_n dX1_doQuarrel_2 rfl rfl ?_
    refine j_aload_n dX1_doQuarrel_3 rfl rfl ?_
    refine j_getfield dX1_doQuarrel_4 jf_X1_35 hF.1 rfl ?_
    refine j_icmp_ge (tgt := 66) dX1_doQuarrel_7 (by decide) (by omega) (fun c7 => ?_) (fun c7 => ?_)
    · refine j_iconst dX1_doQuarrel_66 ?_
      subst hZ
      exact j_ireturn dX1_doQuarrel_67 rfl rfl (jRet_i (by rw [i3, show (F 7 0 - i).toNat = 0 by omega]; rfl)) (Nat.le_refl _) (Nat.le_refl _)
    · refine j_aload_n dX1_doQuarrel_10 rfl rfl ?_
      refine j_iload_n dX1_doQuarrel_11 rfl rfl ?_
      refine j_callV (c_quarrelerAt hF hO (by omega)) dX1_doQuarrel_12 jc_X1_84 jmV_X1_quarrelerAt rfl rfl hF.1 rfl rfl (by simp) jfr_nil (Nat.le_of_ble_eq_true rfl) ⟨Nat.le_of_ble_eq_true rfl, Nat.le_of_ble_eq_true rfl⟩ ⟨Nat.le_of_ble_eq_true rfl, Nat.le_of_ble_eq_true rfl⟩ (fun r h' hp9 => ?_) (fun E h9 q => q.elim)
      obtain ⟨rfl, rfl⟩ := hp9
      refine j_iload_n dX1_doQuarrel_15 rfl rfl ?_
      refine j_icmp_ne (tgt := 32) dX1_doQuarrel_16 (by decide) (by omega) (fun c16 => ?_) (fun c16 => ?_)
      · refine j_iconst dX1_doQuarrel_32 ?_
        refine j_istore (L' := [(0, _), (1, _), (2, _), (3, _), (4, _)]) dX1_doQuarrel_33 (by decide) rfl ?_
        refine j_iload dX1_doQuarrel_35 rfl ?_
        refine j_if_ne (tgt := 58) dX1_doQuarrel_37 (by decide) (by omega) (fun c37 => ?_) (fun c37 => ?_)
        · refine j_iconst dX1_doQuarrel_58 ?_
          subst hZ
          exact j_ireturn dX1_doQuarrel_59 rfl rfl (jRet_i (by rw [i3, fsuc (by omega : i < F 7 0), bi_t (fdq_t (by omega))])) (Nat.le_refl _) (Nat.le_refl _)
        · refine j_aload_n dX1_doQuarrel_40 rfl rfl ?_
          refine j_iload_n dX1_doQuarrel_41 rfl rfl ?_
          refine j_callV (c_quarrelerAt hF hO (by omega)) dX1_doQuarrel_42 jc_X1_84 jmV_X1_quarrelerAt rfl rfl hF.1 rfl rfl (by simp) jfr_nil (Nat.le_of_ble_eq_true rfl) ⟨Nat.le_of_ble_eq_true rfl, Nat.le_of_ble_eq_true rfl⟩ ⟨Nat.le_of_ble_eq_true rfl, Nat.le_of_ble_eq_true rfl⟩ (fun r h' hp9 => ?_) (fun E h9 q => q.elim)
          obtain ⟨rfl, rfl⟩ := hp9
          refine j_iload_n dX1_doQuarrel_45 rfl rfl ?_
          refine j_icmp_ne (tgt := 60) dX1_doQuarrel_46 (by decide) (by omega) (fun c46 => ?_) (fun c46 => ?_)
          · refine j_iinc (L' := [(0, _), (1, _), (2, _), (3, _), (4, _)]) dX1_doQuarrel_60 rfl (by decide) rfl ?_
            refine j_goto (tgt := 2) dX1_doQuarrel_63 (by decide) ?_
            refine J.keep [0, 1, 2, 3] (L' := [(0, _), (1, _), (2, _), (3, _)]) rfl ?_
            refine ih (i + 1) ?_ (by show (F 7 0 - (i + 1)).toNat < (F 7 0 - i).toNat; omega)
            rw [fsuc (by omega : i < F 7 0), fdq_f (by omega)] at i3
            exact ⟨by show 0 ≤ i + 1; omega, by show i + 1 ≤ F 7 0; omega, i3⟩
          · refine j_aload_n dX1_doQuarrel_49 rfl rfl ?_
            refine j_iload_n dX1_doQuarrel_50 rfl rfl ?_
            refine j_callV (c_rivalAt hF hO (by omega)) dX1_doQuarrel_51 jc_X1_87 jmV_X1_rivalAt rfl rfl hF.1 rfl rfl (by simp) jfr_nil (Nat.le_of_ble_eq_true rfl) ⟨Nat.le_of_ble_eq_true rfl, Nat.le_of_ble_eq_true rfl⟩ ⟨Nat.le_of_ble_eq_true rfl, Nat.le_of_ble_eq_true rfl⟩ (fun r h' hp9 => ?_) (fun E h9 q => q.elim)
            obtain ⟨rfl, rfl⟩ := hp9
            refine j_iload_n dX1_doQuarrel_54 rfl rfl ?_
            refine j_icmp_ne (tgt := 60) dX1_doQuarrel_55 (by decide) (by omega) (fun c55 => ?_) (fun c55 => ?_)
            · refine j_iinc (L' := [(0, _), (1, _), (2, _), (3, _), (4, _)]) dX1_doQuarrel_60 rfl (by decide) rfl ?_
              refine j_goto (tgt := 2) dX1_doQuarrel_63 (by decide) ?_
              refine J.keep [0, 1, 2, 3] (L' := [(0, _), (1, _), (2, _), (3, _)]) rfl ?_
              refine ih (i + 1) ?_ (by show (F 7 0 - (i + 1)).toNat < (F 7 0 - i).toNat; omega)
              rw [fsuc (by omega : i < F 7 0), fdq_f (by omega)] at i3
              exact ⟨by show 0 ≤ i + 1; omega, by show i + 1 ≤ F 7 0; omega, i3⟩
            · refine j_iconst dX1_doQuarrel_58 ?_
              subst hZ
              exact j_ireturn dX1_doQuarrel_59 rfl rfl (jRet_i (by rw [i3, fsuc (by omega : i < F 7 0), bi_t (fdq_t (by omega))])) (Nat.le_refl _) (Nat.le_refl _)
      · refine j_aload_n dX1_doQuarrel_19 rfl rfl ?_
        refine j_iload_n dX1_doQuarrel_20 rfl rfl ?_
        refine j_callV (c_rivalAt hF hO (by omega)) dX1_doQuarrel_21 jc_X1_87 jmV_X1_rivalAt rfl rfl hF.1 rfl rfl (by simp) jfr_nil (Nat.le_of_ble_eq_true rfl) ⟨Nat.le_of_ble_eq_true rfl, Nat.le_of_ble_eq_true rfl⟩ ⟨Nat.le_of_ble_eq_true rfl, Nat.le_of_ble_eq_true rfl⟩ (fun r h' hp9 => ?_) (fun E h9 q => q.elim)
        obtain ⟨rfl, rfl⟩ := hp9
        refine j_iload_n dX1_doQuarrel_24 rfl rfl ?_
        refine j_icmp_ne (tgt := 32) dX1_doQuarrel_25 (by decide) (by omega) (fun c25 => ?_) (fun c25 => ?_)
        · refine j_iconst dX1_doQuarrel_32 ?_
          refine j_istore (L' := [(0, _), (1, _), (2, _), (3, _), (4, _)]) dX1_doQuarrel_33 (by decide) rfl ?_
          refine j_iload dX1_doQuarrel_35 rfl ?_
          refine j_if_ne (tgt := 58) dX1_doQuarrel_37 (by decide) (by omega) (fun c37 => ?_) (fun c37 => ?_)
          · refine j_iconst dX1_doQuarrel_58 ?_
            subst hZ
            exact j_ireturn dX1_doQuarrel_59 rfl rfl (jRet_i (by rw [i3, fsuc (by omega : i < F 7 0), bi_t (fdq_t (by omega))])) (Nat.le_refl _) (Nat.le_refl _)
          · refine j_aload_n dX1_doQuarrel_40 rfl rfl ?_
            refine j_iload_n dX1_doQuarrel_41 rfl rfl ?_
            refine j_callV (c_quarrelerAt hF hO (by omega)) dX1_doQuarrel_42 jc_X1_84 jmV_X1_quarrelerAt rfl rfl hF.1 rfl rfl (by simp) jfr_nil (Nat.le_of_ble_eq_true rfl) ⟨Nat.le_of_ble_eq_true rfl, Nat.le_of_ble_eq_true rfl⟩ ⟨Nat.le_of_ble_eq_true rfl, Nat.le_of_ble_eq_true rfl⟩ (fun r h' hp9 => ?_) (fun E h9 q => q.elim)
            obtain ⟨rfl, rfl⟩ := hp9
            refine j_iload_n dX1_doQuarrel_45 rfl rfl ?_
            refine j_icmp_ne (tgt := 60) dX1_doQuarrel_46 (by decide) (by omega) (fun c46 => ?_) (fun c46 => ?_)
            · refine j_iinc (L' := [(0, _), (1, _), (2, _), (3, _), (4, _)]) dX1_doQuarrel_60 rfl (by decide) rfl ?_
              refine j_goto (tgt := 2) dX1_doQuarrel_63 (by decide) ?_
              refine J.keep [0, 1, 2, 3] (L' := [(0, _), (1, _), (2, _), (3, _)]) rfl ?_
              refine ih (i + 1) ?_ (by show (F 7 0 - (i + 1)).toNat < (F 7 0 - i).toNat; omega)
              rw [fsuc (by omega : i < F 7 0), fdq_f (by omega)] at i3
              exact ⟨by show 0 ≤ i + 1; omega, by show i + 1 ≤ F 7 0; omega, i3⟩
            · refine j_aload_n dX1_doQuarrel_49 rfl rfl ?_
              refine j_iload_n dX1_doQuarrel_50 rfl rfl ?_
              refine j_callV (c_rivalAt hF hO (by omega)) dX1_doQuarrel_51 jc_X1_87 jmV_X1_rivalAt rfl rfl hF.1 rfl rfl (by simp) jfr_nil (Nat.le_of_ble_eq_true rfl) ⟨Nat.le_of_ble_eq_true rfl, Nat.le_of_ble_eq_true rfl⟩ ⟨Nat.le_of_ble_eq_true rfl, Nat.le_of_ble_eq_true rfl⟩ (fun r h' hp9 => ?_) (fun E h9 q => q.elim)
              obtain ⟨rfl, rfl⟩ := hp9
              refine j_iload_n dX1_doQuarrel_54 rfl rfl ?_
              refine j_icmp_ne (tgt := 60) dX1_doQuarrel_55 (by decide) (by omega) (fun c55 => ?_) (fun c55 => ?_)
              · refine j_iinc (L' := [(0, _), (1, _), (2, _), (3, _), (4, _)]) dX1_doQuarrel_60 rfl (by decide) rfl ?_
                refine j_goto (tgt := 2) dX1_doQuarrel_63 (by decide) ?_
                refine J.keep [0, 1, 2, 3] (L' := [(0, _), (1, _), (2, _), (3, _)]) rfl ?_
                refine ih (i + 1) ?_ (by show (F 7 0 - (i + 1)).toNat < (F 7 0 - i).toNat; omega)
                rw [fsuc (by omega : i < F 7 0), fdq_f (by omega)] at i3
                exact ⟨by show 0 ≤ i + 1; omega, by show i + 1 ≤ F 7 0; omega, i3⟩
              · refine j_iconst dX1_doQuarrel_58 ?_
                subst hZ
                exact j_ireturn dX1_doQuarrel_59 rfl rfl (jRet_i (by rw [i3, fsuc (by omega : i < F 7 0), bi_t (fdq_t (by omega))])) (Nat.le_refl _) (Nat.le_refl _)
        · refine j_iconst dX1_doQuarrel_28 ?_
          refine j_goto (tgt := 33) dX1_doQuarrel_29 (by decide) ?_
          refine j_istore (L' := [(0, _), (1, _), (2, _), (3, _), (4, _)]) dX1_doQuarrel_33 (by decide) rfl ?_
          refine j_iload dX1_doQuarrel_35 rfl ?_
          refine j_if_ne (tgt := 58) dX1_doQuarrel_37 (by decide) (by omega) (fun c37 => ?_) (fun c37 => ?_)
          · refine j_iconst dX1_doQuarrel_58 ?_
            subst hZ
            exact j_ireturn dX1_doQuarrel_59 rfl rfl (jRet_i (by rw [i3, fsuc (by omega : i < F 7 0), bi_t (fdq_t (by omega))])) (Nat.le_refl _) (Nat.le_refl _)
          · refine j_aload_n dX1_doQuarrel_40 rfl rfl ?_
            refine j_iload_n dX1_doQuarrel_41 rfl rfl ?_
            refine j_callV (c_quarrelerAt hF hO (by omega)) dX1_doQuarrel_42 jc_X1_84 jmV_X1_quarrelerAt rfl rfl hF.1 rfl rfl (by simp) jfr_nil (Nat.le_of_ble_eq_true rfl) ⟨Nat.le_of_ble_eq_true rfl, Nat.le_of_ble_eq_true rfl⟩ ⟨Nat.le_of_ble_eq_true rfl, Nat.le_of_ble_eq_true rfl⟩ (fun r h' hp9 => ?_) (fun E h9 q => q.elim)
            obtain ⟨rfl, rfl⟩ := hp9
            refine j_iload_n dX1_doQuarrel_45 rfl rfl ?_
            refine j_icmp_ne (tgt := 60) dX1_doQuarrel_46 (by decide) (by omega) (fun c46 => ?_) (fun c46 => ?_)
            · refine j_iinc (L' := [(0, _), (1, _), (2, _), (3, _), (4, _)]) dX1_doQuarrel_60 rfl (by decide) rfl ?_
              refine j_goto (tgt := 2) dX1_doQuarrel_63 (by decide) ?_
              refine J.keep [0, 1, 2, 3] (L' := [(0, _), (1, _), (2, _), (3, _)]) rfl ?_
              refine ih (i + 1) ?_ (by show (F 7 0 - (i + 1)).toNat < (F 7 0 - i).toNat; omega)
              rw [fsuc (by omega : i < F 7 0), fdq_f (by omega)] at i3
              exact ⟨by show 0 ≤ i + 1; omega, by show i + 1 ≤ F 7 0; omega, i3⟩
            · refine j_aload_n dX1_doQuarrel_49 rfl rfl ?_
              refine j_iload_n dX1_doQuarrel_50 rfl rfl ?_
              refine j_callV (c_rivalAt hF hO (by omega)) dX1_doQuarrel_51 jc_X1_87 jmV_X1_rivalAt rfl rfl hF.1 rfl rfl (by simp) jfr_nil (Nat.le_of_ble_eq_true rfl) ⟨Nat.le_of_ble_eq_true rfl, Nat.le_of_ble_eq_true rfl⟩ ⟨Nat.le_of_ble_eq_true rfl, Nat.le_of_ble_eq_true rfl⟩ (fun r h' hp9 => ?_) (fun E h9 q => q.elim)
              obtain ⟨rfl, rfl⟩ := hp9
              refine j_iload_n dX1_doQuarrel_54 rfl rfl ?_
              refine j_icmp_ne (tgt := 60) dX1_doQuarrel_55 (by decide) (by omega) (fun c55 => ?_) (fun c55 => ?_)
              · refine j_iinc (L' := [(0, _), (1, _), (2, _), (3, _), (4, _)]) dX1_doQuarrel_60 rfl (by decide) rfl ?_
                refine j_goto (tgt := 2) dX1_doQuarrel_63 (by decide) ?_
                refine J.keep [0, 1, 2, 3] (L' := [(0, _), (1, _), (2, _), (3, _)]) rfl ?_
                refine ih (i + 1) ?_ (by show (F 7 0 - (i + 1)).toNat < (F 7 0 - i).toNat; omega)
                rw [fsuc (by omega : i < F 7 0), fdq_f (by omega)] at i3
                exact ⟨by show 0 ≤ i + 1; omega, by show i + 1 ≤ F 7 0; omega, i3⟩
              · refine j_iconst dX1_doQuarrel_58 ?_
                subst hZ
                exact j_ireturn dX1_doQuarrel_59 rfl rfl (jRet_i (by rw [i3, fsuc (by omega : i < F 7 0), bi_t (fdq_t (by omega))])) (Nat.le_refl _) (Nat.le_refl _)
  · exact ⟨by omega, by omega, by rw [Int.sub_zero]⟩
/-- how many from x on stand below t, within k -/
def fdc (F : fS) (t : Int) : Nat → Int → Int
  | 0, _ => 0
  | k + 1, x => if x = -1 then 0 else 1 + fdc F t k (fnb F t x)
theorem fdc_e (F : fS) (t : Int) : ∀ k, fdc F t k (-1) = 0
  | 0 => rfl
  | _ + 1 => if_pos rfl
theorem fdc_st {F : fS} {t x : Int} {k : Nat} (hx : x ≠ -1) : fdc F t (k + 1) x = 1 + fdc F t k (fnb F t x) := if_neg hx
theorem fdc_rg (F : fS) (t : Int) : ∀ (k : Nat) (x : Int), 0 ≤ fdc F t k x ∧ fdc F t k x ≤ k
  | 0, _ => ⟨Int.le_refl _, Int.le_refl _⟩
  | k + 1, x => by
    have := fdc_rg F t k (fnb F t x)
    unfold fdc
    split <;> omega
def fde (F : fS) (p : Int) : Int := fdc F p 24 (fnb F p p)
def fnl (F : fS) (t : Int) : Nat → Int → Int
  | 0, x => x
  | k + 1, x => if x = -1 ∨ F 3 x ≠ 0 then x else fnl F t k (fnb F t x)
theorem fnl_e {F : fS} {t x : Int} (hx : x = -1 ∨ F 3 x ≠ 0) : ∀ k, fnl F t k x = x
  | 0 => rfl
  | _ + 1 => if_pos hx
theorem fnl_st {F : fS} {t x : Int} {k : Nat} (hx : ¬ (x = -1 ∨ F 3 x ≠ 0)) : fnl F t (k + 1) x = fnl F t k (fnb F t x) := if_neg hx
def fel (F : fS) : Nat → Int → Int
  | 0, x => x
  | k + 1, x => if x = -1 ∨ F 3 x ≠ 0 then x else fel F k (F 0 x)
theorem fel_e {F : fS} {x : Int} (hx : x = -1 ∨ F 3 x ≠ 0) : ∀ k, fel F k x = x
  | 0 => rfl
  | _ + 1 => if_pos hx
theorem fel_st {F : fS} {x : Int} {k : Nat} (hx : ¬ (x = -1 ∨ F 3 x ≠ 0)) : fel F (k + 1) x = fel F k (F 0 x) := if_neg hx
theorem fel_rg {F : fS} {B : Int} (hO : jOk B F) : ∀ (k : Nat) (x : Int), -1 ≤ x ∧ x < 24 → -1 ≤ fel F k x ∧ fel F k x < 24
  | 0, _, h => h
  | k + 1, x, h => by
    unfold fel
    split
    · exact h
    · exact fel_rg hO k _ (by have := hO.p x; have := hO.n; omega)
def fne (F : fS) (p : Int) : Int := fel F 24 (F 0 p)
def fhr (F : fS) (p : Int) : Int := if fnl F p 24 (fnb F p p) ≠ -1 then fnl F p 24 (fnb F p p) else if F 1 p ≠ -1 then F 1 p else fne F p
set_option maxHeartbeats 4000000 in
/-- Families.descendantsOf -/
theorem c_descendantsOf {k : Nat} {F : fS} {B : Int} {h : jH} (hF : jFam k F h) (hO : jOk B F) {p : Int} (hp : -1 ≤ p ∧ p < 24) : jM mX1_descendantsOf 3 0 0 [] [.ref (k), iv p] h (jRet (iv (fde F p)) h) jno := by
  refine j_method (by decide +kernel) rfl (fun _ _ _ => trivial) (Nat.le_of_ble_eq_true rfl) ?_
  generalize hZ : jZ [] 0 0 _ _ = Z
  show J mX1_descendantsOf (jR 3 0 0) [] Z 0 [(0, .ref (k)), (1, iv p)] [] h 0 0
  have hn := hO.n
  have hq := hO.q
  have hb := hO.b
  have hb0 := fnb_rg hO (t := p) (p := p) (by omega)
  refine j_iconst dX1_descendantsOf_0 ?_
  refine j_istore_n (L' := [(0, _), (1, _), (2, _)]) dX1_descendantsOf_1 rfl (by decide) rfl ?_
  refine j_aload_n dX1_descendantsOf_2 rfl rfl ?_
  refine j_iload_n dX1_descendantsOf_3 rfl rfl ?_
  refine j_iload_n dX1_descendantsOf_4 rfl rfl ?_
  refine j_callV (c_nextBelow hF hO (by omega) (by omega)) dX1_descendantsOf_5 jc_X1_72 jmV_X1_nextBelow rfl rfl hF.1 rfl rfl (by simp) jfr_nil (Nat.le_of_ble_eq_true rfl) ⟨Nat.le_of_ble_eq_true rfl, Nat.le_of_ble_eq_true rfl⟩ ⟨Nat.le_of_ble_eq_true rfl, Nat.le_of_ble_eq_true rfl⟩ (fun r h' hp9 => ?_) (fun E h9 q => q.elim)
  obtain ⟨rfl, rfl⟩ := hp9
  refine j_istore_n (L' := [(0, _), (1, _), (2, _), (3, _)]) dX1_descendantsOf_8 rfl (by decide) rfl ?_
  refine jloop (P := fun a : Int × Int => J mX1_descendantsOf (jR 3 0 0) [] Z 9 [(0, .ref k), (1, iv p), (2, iv a.1), (3, iv a.2)] [] h 0 0) (fun a => 0 ≤ a.1 ∧ a.1 ≤ 24 ∧ (-1 ≤ a.2 ∧ a.2 < 24) ∧ fde F p = a.1 + fdc F p (24 - a.1).toNat a.2) (fun a => (24 - a.1).toNat) ?_ (0, fnb F p p) ?_
  · rintro ⟨a, x⟩ hinv ih
    dsimp only at hinv ih ⊢
    obtain ⟨i1, i2, i3, i4⟩ := hinv
    have hb9 := fnb_rg hO (t := p) (p := x) (by omega)
    refine j_iload_n dX1_descendantsOf_9 rfl rfl ?_
    refine j_iconst dX1_descendantsOf_10 ?_
    refine j_icmp_eq (tgt := 33) dX1_descendantsOf_11 (by decide) (by omega) (fun c11 => ?_) (fun c11 => ?_)
    · refine j_iload_n dX1_descendantsOf_33 rfl rfl ?_
      subst hZ
      exact j_ireturn dX1_descendantsOf_34 rfl rfl (jRet_i (by first | (rw [c11, fdc_e] at i4; omega) | (rw [show (24 - a).toNat = 0 by omega] at i4; exact (i4.trans (Int.add_zero a)).symm))) (Nat.le_refl _) (Nat.le_refl _)
    · refine j_iload_n dX1_descendantsOf_14 rfl rfl ?_
      refine j_bipush dX1_descendantsOf_15 (by decide +kernel) ?_
      refine j_icmp_ge (tgt := 33) dX1_descendantsOf_17 (by decide) (by omega) (fun c17 => ?_) (fun c17 => ?_)
      · refine j_iload_n dX1_descendantsOf_33 rfl rfl ?_
        subst hZ
        exact j_ireturn dX1_descendantsOf_34 rfl rfl (jRet_i (by first | (rw [c11, fdc_e] at i4; omega) | (rw [show (24 - a).toNat = 0 by omega] at i4; exact (i4.trans (Int.add_zero a)).symm))) (Nat.le_refl _) (Nat.le_refl _)
      · refine j_iinc (L' := [(0, _), (1, _), (2, _), (3, _)]) dX1_descendantsOf_20 rfl (by decide) rfl ?_
        refine j_aload_n dX1_descendantsOf_23 rfl rfl ?_
        refine j_iload_n dX1_descendantsOf_24 rfl rfl ?_
        refine j_iload_n dX1_descendantsOf_25 rfl rfl ?_
        refine j_callV (c_nextBelow hF hO (by omega) (by omega)) dX1_descendantsOf_26 jc_X1_72 jmV_X1_nextBelow rfl rfl hF.1 rfl rfl (by simp) jfr_nil (Nat.le_of_ble_eq_true rfl) ⟨Nat.le_of_ble_eq_true rfl, Nat.le_of_ble_eq_true rfl⟩ ⟨Nat.le_of_ble_eq_true rfl, Nat.le_of_ble_eq_true rfl⟩ (fun r h' hp9 => ?_) (fun E h9 q => q.elim)
        obtain ⟨rfl, rfl⟩ := hp9
        refine j_istore_n (L' := [(0, _), (1, _), (2, _), (3, _)]) dX1_descendantsOf_29 rfl (by decide) rfl ?_
        refine j_goto (tgt := 9) dX1_descendantsOf_30 (by decide) ?_
        refine ih (a + 1, fnb F p x) ?_ (by show (24 - (a + 1)).toNat < (24 - a).toNat; omega)
        rw [fsuc (by omega : a < 24), fdc_st c11] at i4
        exact ⟨by show 0 ≤ a + 1; omega, by show a + 1 ≤ 24; omega, hb9, by show fde F p = a + 1 + fdc F p (24 - (a + 1)).toNat (fnb F p x); omega⟩
  · dsimp only
    exact ⟨by omega, by omega, by omega, (Int.zero_add _).symm⟩
set_option maxHeartbeats 4000000 in
/-- Families.nearestLivingElder -/
theorem c_nearestLivingElder {k : Nat} {F : fS} {B : Int} {h : jH} (hF : jFam k F h) (hO : jOk B F) {p : Int} (hp : -1 ≤ p ∧ p < 24) : jM mX1_nearestLivingElder 1 0 0 [] [.ref (k), iv p] h (jRet (iv (fne F p)) h) jno := by
  refine j_method (by decide +kernel) rfl (fun _ _ _ => trivial) (Nat.le_of_ble_eq_true rfl) ?_
  generalize hZ : jZ [] 0 0 _ _ = Z
  show J mX1_nearestLivingElder (jR 1 0 0) [] Z 0 [(0, .ref (k)), (1, iv p)] [] h 0 0
  have hn := hO.n
  have hq := hO.q
  have hb := hO.b
  have hx0 := hO.p p
  refine j_aload_n dX1_nearestLivingElder_0 rfl rfl ?_
  refine j_iload_n dX1_nearestLivingElder_1 rfl rfl ?_
  refine j_callV (c_parentOf hF hO (by omega)) dX1_nearestLivingElder_2 jc_X1_65 jmV_X1_parentOf rfl rfl hF.1 rfl rfl (by simp) jfr_nil (Nat.le_of_ble_eq_true rfl) ⟨Nat.le_of_ble_eq_true rfl, Nat.le_of_ble_eq_true rfl⟩ ⟨Nat.le_of_ble_eq_true rfl, Nat.le_of_ble_eq_true rfl⟩ (fun r h' hp9 => ?_) (fun E h9 q => q.elim)
  obtain ⟨rfl, rfl⟩ := hp9
  refine j_istore_n (L' := [(0, _), (1, _), (2, _)]) dX1_nearestLivingElder_5 rfl (by decide) rfl ?_
  refine j_iconst dX1_nearestLivingElder_6 ?_
  refine j_istore_n (L' := [(0, _), (1, _), (2, _), (3, _)]) dX1_nearestLivingElder_7 rfl (by decide) rfl ?_
  refine jloop (P := fun a : Int × Int => J mX1_nearestLivingElder (jR 1 0 0) [] Z 8 [(0, .ref k), (1, iv p), (2, iv a.1), (3, iv a.2)] [] h 0 0) (fun a => 0 ≤ a.2 ∧ a.2 ≤ 24 ∧ (-1 ≤ a.1 ∧ a.1 < 24) ∧ fne F p = fel F (24 - a.2).toNat a.1) (fun a => (24 - a.2).toNat) ?_ (F 0 p, 0) ?_
  · rintro ⟨x, i⟩ hinv ih
    dsimp only at hinv ih ⊢
    obtain ⟨i1, i2, i3, i4⟩ := hinv
    have hx9 := hO.p x
    have hx8 := hO.l x
    refine j_iload_n dX1_nearestLivingElder_8 rfl rfl ?_
    refine j_bipush dX1_nearestLivingElder_9 (by decide +kernel) ?_
    refine j_icmp_ge (tgt := 39) dX1_nearestLivingElder_11 (by decide) (by omega) (fun c11 => ?_) (fun c11 => ?_)
    · refine j_iload_n dX1_nearestLivingElder_39 rfl rfl ?_
      subst hZ
      exact j_ireturn dX1_nearestLivingElder_40 rfl rfl (jRet_i (by first | (rw [fel_e (by omega)] at i4; exact i4.symm) | (rw [show (24 - i).toNat = 0 by omega] at i4; exact i4.symm))) (Nat.le_refl _) (Nat.le_refl _)
    · refine j_iload_n dX1_nearestLivingElder_14 rfl rfl ?_
      refine j_iconst dX1_nearestLivingElder_15 ?_
      refine j_icmp_eq (tgt := 39) dX1_nearestLivingElder_16 (by decide) (by omega) (fun c16 => ?_) (fun c16 => ?_)
      · refine j_iload_n dX1_nearestLivingElder_39 rfl rfl ?_
        subst hZ
        exact j_ireturn dX1_nearestLivingElder_40 rfl rfl (jRet_i (by first | (rw [fel_e (by omega)] at i4; exact i4.symm) | (rw [show (24 - i).toNat = 0 by omega] at i4; exact i4.symm))) (Nat.le_refl _) (Nat.le_refl _)
      · refine j_aload_n dX1_nearestLivingElder_19 rfl rfl ?_
        refine j_iload_n dX1_nearestLivingElder_20 rfl rfl ?_
        refine j_callV (c_lives hF hO (by omega)) dX1_nearestLivingElder_21 jc_X1_75 jmV_X1_lives rfl rfl hF.1 rfl rfl (by simp) jfr_nil (Nat.le_of_ble_eq_true rfl) ⟨Nat.le_of_ble_eq_true rfl, Nat.le_of_ble_eq_true rfl⟩ ⟨Nat.le_of_ble_eq_true rfl, Nat.le_of_ble_eq_true rfl⟩ (fun r h' hp9 => ?_) (fun E h9 q => q.elim)
        obtain ⟨rfl, rfl⟩ := hp9
        refine j_if_ne (tgt := 39) dX1_nearestLivingElder_24 (by decide) (by omega) (fun c24 => ?_) (fun c24 => ?_)
        · refine j_iload_n dX1_nearestLivingElder_39 rfl rfl ?_
          subst hZ
          exact j_ireturn dX1_nearestLivingElder_40 rfl rfl (jRet_i (by first | (rw [fel_e (by omega)] at i4; exact i4.symm) | (rw [show (24 - i).toNat = 0 by omega] at i4; exact i4.symm))) (Nat.le_refl _) (Nat.le_refl _)
        · refine j_aload_n dX1_nearestLivingElder_27 rfl rfl ?_
          refine j_iload_n dX1_nearestLivingElder_28 rfl rfl ?_
          refine j_callV (c_parentOf hF hO (by omega)) dX1_nearestLivingElder_29 jc_X1_65 jmV_X1_parentOf rfl rfl hF.1 rfl rfl (by simp) jfr_nil (Nat.le_of_ble_eq_true rfl) ⟨Nat.le_of_ble_eq_true rfl, Nat.le_of_ble_eq_true rfl⟩ ⟨Nat.le_of_ble_eq_true rfl, Nat.le_of_ble_eq_true rfl⟩ (fun r h' hp9 => ?_) (fun E h9 q => q.elim)
          obtain ⟨rfl, rfl⟩ := hp9
          refine j_istore_n (L' := [(0, _), (1, _), (2, _), (3, _)]) dX1_nearestLivingElder_32 rfl (by decide) rfl ?_
          refine j_iinc (L' := [(0, _), (1, _), (2, _), (3, _)]) dX1_nearestLivingElder_33 rfl (by decide) rfl ?_
          refine j_goto (tgt := 8) dX1_nearestLivingElder_36 (by decide) ?_
          refine ih (F 0 x, i + 1) ?_ (by show (24 - (i + 1)).toNat < (24 - i).toNat; omega)
          rw [fsuc (by omega : i < 24), fel_st (by omega)] at i4
          exact ⟨by show 0 ≤ i + 1; omega, by show i + 1 ≤ 24; omega, by show -1 ≤ F 0 x ∧ F 0 x < 24; omega, i4⟩
  · dsimp only
    exact ⟨by omega, by omega, by omega, rfl⟩
set_option maxHeartbeats 4000000 in
/-- Families.heirOf -/
theorem c_heirOf {k : Nat} {F : fS} {B : Int} {h : jH} (hF : jFam k F h) (hO : jOk B F) {p : Int} (hp : -1 ≤ p ∧ p < 24) : jM mX1_heirOf 3 0 0 [] [.ref (k), iv p] h (jRet (iv (fhr F p)) h) jno := by
  refine j_method (by decide +kernel) rfl (fun _ _ _ => trivial) (Nat.le_of_ble_eq_true rfl) ?_
  generalize hZ : jZ [] 0 0 _ _ = Z
  show J mX1_heirOf (jR 3 0 0) [] Z 0 [(0, .ref (k)), (1, iv p)] [] h 0 0
  have hn := hO.n
  have hq := hO.q
  have hb := hO.b
  have hb0 := fnb_rg hO (t := p) (p := p) (by omega)
  have hs0 := hO.s p
  refine j_aload_n dX1_heirOf_0 rfl rfl ?_
  refine j_iload_n dX1_heirOf_1 rfl rfl ?_
  refine j_iload_n dX1_heirOf_2 rfl rfl ?_
  refine j_callV (c_nextBelow hF hO (by omega) (by omega)) dX1_heirOf_3 jc_X1_72 jmV_X1_nextBelow rfl rfl hF.1 rfl rfl (by simp) jfr_nil (Nat.le_of_ble_eq_true rfl) ⟨Nat.le_of_ble_eq_true rfl, Nat.le_of_ble_eq_true rfl⟩ ⟨Nat.le_of_ble_eq_true rfl, Nat.le_of_ble_eq_true rfl⟩ (fun r h' hp9 => ?_) (fun E h9 q => q.elim)
  obtain ⟨rfl, rfl⟩ := hp9
  refine j_istore_n (L' := [(0, _), (1, _), (2, _)]) dX1_heirOf_6 rfl (by decide) rfl ?_
  refine j_iconst dX1_heirOf_7 ?_
  refine j_istore_n (L' := [(0, _), (1, _), (2, _), (3, _)]) dX1_heirOf_8 rfl (by decide) rfl ?_
  refine jloop (P := fun a : Int × Int => J mX1_heirOf (jR 3 0 0) [] Z 9 [(0, .ref k), (1, iv p), (2, iv a.1), (3, iv a.2)] [] h 0 0) (fun a => 0 ≤ a.2 ∧ a.2 ≤ 24 ∧ (-1 ≤ a.1 ∧ a.1 < 24) ∧ fnl F p 24 (fnb F p p) = fnl F p (24 - a.2).toNat a.1) (fun a => (24 - a.2).toNat) ?_ (fnb F p p, 0) ?_
  · rintro ⟨x, i⟩ hinv ih
    dsimp only at hinv ih ⊢
    obtain ⟨i1, i2, i3, i4⟩ := hinv
    have hb9 := fnb_rg hO (t := p) (p := x) (by omega)
    have hx8 := hO.l x
    refine j_iload_n dX1_heirOf_9 rfl rfl ?_
    refine j_bipush dX1_heirOf_10 (by decide +kernel) ?_
    refine j_icmp_ge (tgt := 41) dX1_heirOf_12 (by decide) (by omega) (fun c12 => ?_) (fun c12 => ?_)
    · refine j_iload_n dX1_heirOf_41 rfl rfl ?_
      refine j_iconst dX1_heirOf_42 ?_
      refine j_icmp_eq (tgt := 48) dX1_heirOf_43 (by decide) (by omega) (fun c43 => ?_) (fun c43 => ?_)
      · refine j_aload_n dX1_heirOf_48 rfl rfl ?_
        refine j_iload_n dX1_heirOf_49 rfl rfl ?_
        refine j_callV (c_spouseOf hF hO (by omega)) dX1_heirOf_50 jc_X1_51 jmV_X1_spouseOf rfl rfl hF.1 rfl rfl (by simp) jfr_nil (Nat.le_of_ble_eq_true rfl) ⟨Nat.le_of_ble_eq_true rfl, Nat.le_of_ble_eq_true rfl⟩ ⟨Nat.le_of_ble_eq_true rfl, Nat.le_of_ble_eq_true rfl⟩ (fun r h' hp9 => ?_) (fun E h9 q => q.elim)
        obtain ⟨rfl, rfl⟩ := hp9
        refine j_iconst dX1_heirOf_53 ?_
        refine j_icmp_eq (tgt := 65) dX1_heirOf_54 (by decide) (by omega) (fun c54 => ?_) (fun c54 => ?_)
        · refine j_aload_n dX1_heirOf_65 rfl rfl ?_
          refine j_iload_n dX1_heirOf_66 rfl rfl ?_
          refine j_callV (c_nearestLivingElder hF hO (by omega)) dX1_heirOf_67 jc_X1_78 jmV_X1_nearestLivingElder rfl rfl hF.1 rfl rfl (by simp) jfr_nil (Nat.le_of_ble_eq_true rfl) ⟨Nat.le_of_ble_eq_true rfl, Nat.le_of_ble_eq_true rfl⟩ ⟨Nat.le_of_ble_eq_true rfl, Nat.le_of_ble_eq_true rfl⟩ (fun r h' hp9 => ?_) (fun E h9 q => q.elim)
          obtain ⟨rfl, rfl⟩ := hp9
          subst hZ
          exact j_ireturn dX1_heirOf_70 rfl rfl (jRet_i (by have e9 : fnl F p 24 (fnb F p p) = x := (by first | (rw [fnl_e (x := x) (by omega)] at i4; exact i4) | (rw [show (24 - i).toNat = 0 by omega] at i4; exact i4)); unfold fhr; rw [e9]; first | (exfalso; omega) | (rw [if_pos (by omega)]) | (rw [if_neg (by omega), if_pos (by omega)]) | (rw [if_neg (by omega), if_neg (by omega)]))) (Nat.le_refl _) (Nat.le_refl _)
        · refine j_aload_n dX1_heirOf_57 rfl rfl ?_
          refine j_iload_n dX1_heirOf_58 rfl rfl ?_
          refine j_callV (c_spouseOf hF hO (by omega)) dX1_heirOf_59 jc_X1_51 jmV_X1_spouseOf rfl rfl hF.1 rfl rfl (by simp) jfr_nil (Nat.le_of_ble_eq_true rfl) ⟨Nat.le_of_ble_eq_true rfl, Nat.le_of_ble_eq_true rfl⟩ ⟨Nat.le_of_ble_eq_true rfl, Nat.le_of_ble_eq_true rfl⟩ (fun r h' hp9 => ?_) (fun E h9 q => q.elim)
          obtain ⟨rfl, rfl⟩ := hp9
          refine j_goto (tgt := 70) dX1_heirOf_62 (by decide) ?_
          subst hZ
          exact j_ireturn dX1_heirOf_70 rfl rfl (jRet_i (by have e9 : fnl F p 24 (fnb F p p) = x := (by first | (rw [fnl_e (x := x) (by omega)] at i4; exact i4) | (rw [show (24 - i).toNat = 0 by omega] at i4; exact i4)); unfold fhr; rw [e9]; first | (exfalso; omega) | (rw [if_pos (by omega)]) | (rw [if_neg (by omega), if_pos (by omega)]) | (rw [if_neg (by omega), if_neg (by omega)]))) (Nat.le_refl _) (Nat.le_refl _)
      · refine j_iload_n dX1_heirOf_46 rfl rfl ?_
        subst hZ
        exact j_ireturn dX1_heirOf_47 rfl rfl (jRet_i (by have e9 : fnl F p 24 (fnb F p p) = x := (by first | (rw [fnl_e (x := x) (by omega)] at i4; exact i4) | (rw [show (24 - i).toNat = 0 by omega] at i4; exact i4)); unfold fhr; rw [e9]; first | (exfalso; omega) | (rw [if_pos (by omega)]) | (rw [if_neg (by omega), if_pos (by omega)]) | (rw [if_neg (by omega), if_neg (by omega)]))) (Nat.le_refl _) (Nat.le_refl _)
    · refine j_iload_n dX1_heirOf_15 rfl rfl ?_
      refine j_iconst dX1_heirOf_16 ?_
      refine j_icmp_eq (tgt := 41) dX1_heirOf_17 (by decide) (by omega) (fun c17 => ?_) (fun c17 => ?_)
      · refine j_iload_n dX1_heirOf_41 rfl rfl ?_
        refine j_iconst dX1_heirOf_42 ?_
        refine j_icmp_eq (tgt := 48) dX1_heirOf_43 (by decide) (by omega) (fun c43 => ?_) (fun c43 => ?_)
        · refine j_aload_n dX1_heirOf_48 rfl rfl ?_
          refine j_iload_n dX1_heirOf_49 rfl rfl ?_
          refine j_callV (c_spouseOf hF hO (by omega)) dX1_heirOf_50 jc_X1_51 jmV_X1_spouseOf rfl rfl hF.1 rfl rfl (by simp) jfr_nil (Nat.le_of_ble_eq_true rfl) ⟨Nat.le_of_ble_eq_true rfl, Nat.le_of_ble_eq_true rfl⟩ ⟨Nat.le_of_ble_eq_true rfl, Nat.le_of_ble_eq_true rfl⟩ (fun r h' hp9 => ?_) (fun E h9 q => q.elim)
          obtain ⟨rfl, rfl⟩ := hp9
          refine j_iconst dX1_heirOf_53 ?_
          refine j_icmp_eq (tgt := 65) dX1_heirOf_54 (by decide) (by omega) (fun c54 => ?_) (fun c54 => ?_)
          · refine j_aload_n dX1_heirOf_65 rfl rfl ?_
            refine j_iload_n dX1_heirOf_66 rfl rfl ?_
            refine j_callV (c_nearestLivingElder hF hO (by omega)) dX1_heirOf_67 jc_X1_78 jmV_X1_nearestLivingElder rfl rfl hF.1 rfl rfl (by simp) jfr_nil (Nat.le_of_ble_eq_true rfl) ⟨Nat.le_of_ble_eq_true rfl, Nat.le_of_ble_eq_true rfl⟩ ⟨Nat.le_of_ble_eq_true rfl, Nat.le_of_ble_eq_true rfl⟩ (fun r h' hp9 => ?_) (fun E h9 q => q.elim)
            obtain ⟨rfl, rfl⟩ := hp9
            subst hZ
            exact j_ireturn dX1_heirOf_70 rfl rfl (jRet_i (by have e9 : fnl F p 24 (fnb F p p) = x := (by first | (rw [fnl_e (x := x) (by omega)] at i4; exact i4) | (rw [show (24 - i).toNat = 0 by omega] at i4; exact i4)); unfold fhr; rw [e9]; first | (exfalso; omega) | (rw [if_pos (by omega)]) | (rw [if_neg (by omega), if_pos (by omega)]) | (rw [if_neg (by omega), if_neg (by omega)]))) (Nat.le_refl _) (Nat.le_refl _)
          · refine j_aload_n dX1_heirOf_57 rfl rfl ?_
            refine j_iload_n dX1_heirOf_58 rfl rfl ?_
            refine j_callV (c_spouseOf hF hO (by omega)) dX1_heirOf_59 jc_X1_51 jmV_X1_spouseOf rfl rfl hF.1 rfl rfl (by simp) jfr_nil (Nat.le_of_ble_eq_true rfl) ⟨Nat.le_of_ble_eq_true rfl, Nat.le_of_ble_eq_true rfl⟩ ⟨Nat.le_of_ble_eq_true rfl, Nat.le_of_ble_eq_true rfl⟩ (fun r h' hp9 => ?_) (fun E h9 q => q.elim)
            obtain ⟨rfl, rfl⟩ := hp9
            refine j_goto (tgt := 70) dX1_heirOf_62 (by decide) ?_
            subst hZ
            exact j_ireturn dX1_heirOf_70 rfl rfl (jRet_i (by have e9 : fnl F p 24 (fnb F p p) = x := (by first | (rw [fnl_e (x := x) (by omega)] at i4; exact i4) | (rw [show (24 - i).toNat = 0 by omega] at i4; exact i4)); unfold fhr; rw [e9]; first | (exfalso; omega) | (rw [if_pos (by omega)]) | (rw [if_neg (by omega), if_pos (by omega)]) | (rw [if_neg (by omega), if_neg (by omega)]))) (Nat.le_refl _) (Nat.le_refl _)
        · refine j_iload_n dX1_heirOf_46 rfl rfl ?_
          subst hZ
          exact j_ireturn dX1_heirOf_47 rfl rfl (jRet_i (by have e9 : fnl F p 24 (fnb F p p) = x := (by first | (rw [fnl_e (x := x) (by omega)] at i4; exact i4) | (rw [show (24 - i).toNat = 0 by omega] at i4; exact i4)); unfold fhr; rw [e9]; first | (exfalso; omega) | (rw [if_pos (by omega)]) | (rw [if_neg (by omega), if_pos (by omega)]) | (rw [if_neg (by omega), if_neg (by omega)]))) (Nat.le_refl _) (Nat.le_refl _)
      · refine j_aload_n dX1_heirOf_20 rfl rfl ?_
        refine j_iload_n dX1_heirOf_21 rfl rfl ?_
        refine j_callV (c_lives hF hO (by omega)) dX1_heirOf_22 jc_X1_75 jmV_X1_lives rfl rfl hF.1 rfl rfl (by simp) jfr_nil (Nat.le_of_ble_eq_true rfl) ⟨Nat.le_of_ble_eq_true rfl, Nat.le_of_ble_eq_true rfl⟩ ⟨Nat.le_of_ble_eq_true rfl, Nat.le_of_ble_eq_true rfl⟩ (fun r h' hp9 => ?_) (fun E h9 q => q.elim)
        obtain ⟨rfl, rfl⟩ := hp9
        refine j_if_ne (tgt := 41) dX1_heirOf_25 (by decide) (by omega) (fun c25 => ?_) (fun c25 => ?_)
        · refine j_iload_n dX1_heirOf_41 rfl rfl ?_
          refine j_iconst dX1_heirOf_42 ?_
          refine j_icmp_eq (tgt := 48) dX1_heirOf_43 (by decide) (by omega) (fun c43 => ?_) (fun c43 => ?_)
          · refine j_aload_n dX1_heirOf_48 rfl rfl ?_
            refine j_iload_n dX1_heirOf_49 rfl rfl ?_
            refine j_callV (c_spouseOf hF hO (by omega)) dX1_heirOf_50 jc_X1_51 jmV_X1_spouseOf rfl rfl hF.1 rfl rfl (by simp) jfr_nil (Nat.le_of_ble_eq_true rfl) ⟨Nat.le_of_ble_eq_true rfl, Nat.le_of_ble_eq_true rfl⟩ ⟨Nat.le_of_ble_eq_true rfl, Nat.le_of_ble_eq_true rfl⟩ (fun r h' hp9 => ?_) (fun E h9 q => q.elim)
            obtain ⟨rfl, rfl⟩ := hp9
            refine j_iconst dX1_heirOf_53 ?_
            refine j_icmp_eq (tgt := 65) dX1_heirOf_54 (by decide) (by omega) (fun c54 => ?_) (fun c54 => ?_)
            · refine j_aload_n dX1_heirOf_65 rfl rfl ?_
              refine j_iload_n dX1_heirOf_66 rfl rfl ?_
              refine j_callV (c_nearestLivingElder hF hO (by omega)) dX1_heirOf_67 jc_X1_78 jmV_X1_nearestLivingElder rfl rfl hF.1 rfl rfl (by simp) jfr_nil (Nat.le_of_ble_eq_true rfl) ⟨Nat.le_of_ble_eq_true rfl, Nat.le_of_ble_eq_true rfl⟩ ⟨Nat.le_of_ble_eq_true rfl, Nat.le_of_ble_eq_true rfl⟩ (fun r h' hp9 => ?_) (fun E h9 q => q.elim)
              obtain ⟨rfl, rfl⟩ := hp9
              subst hZ
              exact j_ireturn dX1_heirOf_70 rfl rfl (jRet_i (by have e9 : fnl F p 24 (fnb F p p) = x := (by first | (rw [fnl_e (x := x) (by omega)] at i4; exact i4) | (rw [show (24 - i).toNat = 0 by omega] at i4; exact i4)); unfold fhr; rw [e9]; first | (exfalso; omega) | (rw [if_pos (by omega)]) | (rw [if_neg (by omega), if_pos (by omega)]) | (rw [if_neg (by omega), if_neg (by omega)]))) (Nat.le_refl _) (Nat.le_refl _)
            · refine j_aload_n dX1_heirOf_57 rfl rfl ?_
              refine j_iload_n dX1_heirOf_58 rfl rfl ?_
              refine j_callV (c_spouseOf hF hO (by omega)) dX1_heirOf_59 jc_X1_51 jmV_X1_spouseOf rfl rfl hF.1 rfl rfl (by simp) jfr_nil (Nat.le_of_ble_eq_true rfl) ⟨Nat.le_of_ble_eq_true rfl, Nat.le_of_ble_eq_true rfl⟩ ⟨Nat.le_of_ble_eq_true rfl, Nat.le_of_ble_eq_true rfl⟩ (fun r h' hp9 => ?_) (fun E h9 q => q.elim)
              obtain ⟨rfl, rfl⟩ := hp9
              refine j_goto (tgt := 70) dX1_heirOf_62 (by decide) ?_
              subst hZ
              exact j_ireturn dX1_heirOf_70 rfl rfl (jRet_i (by have e9 : fnl F p 24 (fnb F p p) = x := (by first | (rw [fnl_e (x := x) (by omega)] at i4; exact i4) | (rw [show (24 - i).toNat = 0 by omega] at i4; exact i4)); unfold fhr; rw [e9]; first | (exfalso; omega) | (rw [if_pos (by omega)]) | (rw [if_neg (by omega), if_pos (by omega)]) | (rw [if_neg (by omega), if_neg (by omega)]))) (Nat.le_refl _) (Nat.le_refl _)
          · refine j_iload_n dX1_heirOf_46 rfl rfl ?_
            subst hZ
            exact j_ireturn dX1_heirOf_47 rfl rfl (jRet_i (by have e9 : fnl F p 24 (fnb F p p) = x := (by first | (rw [fnl_e (x := x) (by omega)] at i4; exact i4) | (rw [show (24 - i).toNat = 0 by omega] at i4; exact i4)); unfold fhr; rw [e9]; first | (exfalso; omega) | (rw [if_pos (by omega)]) | (rw [if_neg (by omega), if_pos (by omega)]) | (rw [if_neg (by omega), if_neg (by omega)]))) (Nat.le_refl _) (Nat.le_refl _)
        · refine j_aload_n dX1_heirOf_28 rfl rfl ?_
          refine j_iload_n dX1_heirOf_29 rfl rfl ?_
          refine j_iload_n dX1_heirOf_30 rfl rfl ?_
          refine j_callV (c_nextBelow hF hO (by omega) (by omega)) dX1_heirOf_31 jc_X1_72 jmV_X1_nextBelow rfl rfl hF.1 rfl rfl (by simp) jfr_nil (Nat.le_of_ble_eq_true rfl) ⟨Nat.le_of_ble_eq_true rfl, Nat.le_of_ble_eq_true rfl⟩ ⟨Nat.le_of_ble_eq_true rfl, Nat.le_of_ble_eq_true rfl⟩ (fun r h' hp9 => ?_) (fun E h9 q => q.elim)
          obtain ⟨rfl, rfl⟩ := hp9
          refine j_istore_n (L' := [(0, _), (1, _), (2, _), (3, _)]) dX1_heirOf_34 rfl (by decide) rfl ?_
          refine j_iinc (L' := [(0, _), (1, _), (2, _), (3, _)]) dX1_heirOf_35 rfl (by decide) rfl ?_
          refine j_goto (tgt := 9) dX1_heirOf_38 (by decide) ?_
          refine ih (fnb F p x, i + 1) ?_ (by show (24 - (i + 1)).toNat < (24 - i).toNat; omega)
          rw [fsuc (by omega : i < 24), fnl_st (x := x) (by omega)] at i4
          exact ⟨by show 0 ≤ i + 1; omega, by show i + 1 ≤ 24; omega, hb9, i4⟩
  · dsimp only
    exact ⟨by omega, by omega, by omega, rfl⟩
set_option maxHeartbeats 4000000 in
/-- Families.livingPersons -/
theorem c_livingPersons {k : Nat} {F : fS} {B : Int} {h : jH} (hF : jFam k F h) (hO : jOk B F)  : jM mX1_livingPersons 1 0 0 [] [.ref (k)] h (jRet (iv (csum (fun c => bi (F 3 c ≠ 0)) (F 6 0).toNat)) h) jno := by
  refine j_method (by decide +kernel) rfl (fun _ _ _ => trivial) (Nat.le_of_ble_eq_true rfl) ?_
  generalize hZ : jZ [] 0 0 _ _ = Z
  show J mX1_livingPersons (jR 1 0 0) [] Z 0 [(0, .ref (k))] [] h 0 0
  have hn := hO.n
  have hq := hO.q
  have hb := hO.b
  refine j_iconst dX1_livingPersons_0 ?_
  refine j_istore_n (L' := [(0, _), (1, _)]) dX1_livingPersons_1 rfl (by decide) rfl ?_
  refine j_iconst dX1_livingPersons_2 ?_
  refine j_istore_n (L' := [(0, _), (1, _), (2, _)]) dX1_livingPersons_3 rfl (by decide) rfl ?_
  refine jloop (P := fun a : Int × Int => J mX1_livingPersons (jR 1 0 0) [] Z 4 [(0, .ref k), (1, iv a.1), (2, iv a.2)] [] h 0 0) (fun a => 0 ≤ a.2 ∧ a.2 ≤ F 6 0 ∧ (0 ≤ a.1 ∧ a.1 ≤ a.2) ∧ a.1 = csum (fun c => bi (F 3 c ≠ 0)) a.2.toNat) (fun a => (F 6 0 - a.2).toNat) ?_ (0, 0) ?_
  · rintro ⟨a, i⟩ hinv ih
    dsimp only at hinv ih ⊢
    obtain ⟨i1, i2, i3, i4⟩ := hinv
    have hx8 := hO.l i
    refine j_iload_n dX1_livingPersons_4 rfl rfl ?_
    refine j_aload_n dX1_livingPersons_5 rfl rfl ?_
    refine j_getfield dX1_livingPersons_6 jf_X1_31 hF.1 rfl ?_
    refine j_icmp_ge (tgt := 34) dX1_livingPersons_9 (by decide) (by omega) (fun c9 => ?_) (fun c9 => ?_)
    · refine j_iload_n dX1_livingPersons_34 rfl rfl ?_
      subst hZ
      exact j_ireturn dX1_livingPersons_35 rfl rfl (jRet_i (by rw [i4, show i = F 6 0 by omega])) (Nat.le_refl _) (Nat.le_refl _)
    · refine j_iload_n dX1_livingPersons_12 rfl rfl ?_
      refine j_aload_n dX1_livingPersons_13 rfl rfl ?_
      refine j_iload_n dX1_livingPersons_14 rfl rfl ?_
      refine j_callV (c_lives hF hO (by omega)) dX1_livingPersons_15 jc_X1_75 jmV_X1_lives rfl rfl hF.1 rfl rfl (by simp) jfr_nil (Nat.le_of_ble_eq_true rfl) ⟨Nat.le_of_ble_eq_true rfl, Nat.le_of_ble_eq_true rfl⟩ ⟨Nat.le_of_ble_eq_true rfl, Nat.le_of_ble_eq_true rfl⟩ (fun r h' hp9 => ?_) (fun E h9 q => q.elim)
      obtain ⟨rfl, rfl⟩ := hp9
      refine j_if_eq (tgt := 25) dX1_livingPersons_18 (by decide) (by omega) (fun c18 => ?_) (fun c18 => ?_)
      · refine j_iconst dX1_livingPersons_25 ?_
        refine j_iadd dX1_livingPersons_26 ?_
        refine j_istore_n (L' := [(0, _), (1, _), (2, _)]) dX1_livingPersons_27 rfl (by decide) rfl ?_
        refine j_iinc (L' := [(0, _), (1, _), (2, _)]) dX1_livingPersons_28 rfl (by decide) rfl ?_
        refine j_goto (tgt := 4) dX1_livingPersons_31 (by decide) ?_
        first
          | exact ih (a + 1, i + 1) ⟨by show 0 ≤ i + 1; omega, by show i + 1 ≤ F 6 0; omega, by show 0 ≤ (a + 1) ∧ (a + 1) ≤ (i + 1); omega, by show a + 1 = csum (fun c => bi (F 3 c ≠ 0)) (i + 1).toNat; rw [csum_s _ i1, ← i4]; show a + 1 = a + bi (F 3 i ≠ 0); rw [show bi (F 3 i ≠ 0) = 1 from bi_t (by omega)]⟩ (by show (F 6 0 - (i + 1)).toNat < (F 6 0 - i).toNat; omega)
          | exact ih (a + 0, i + 1) ⟨by show 0 ≤ i + 1; omega, by show i + 1 ≤ F 6 0; omega, by show 0 ≤ (a + 0) ∧ (a + 0) ≤ (i + 1); omega, by show a + 0 = csum (fun c => bi (F 3 c ≠ 0)) (i + 1).toNat; rw [csum_s _ i1, ← i4]; show a + 0 = a + bi (F 3 i ≠ 0); rw [show bi (F 3 i ≠ 0) = 0 from bi_f (by omega)]⟩ (by show (F 6 0 - (i + 1)).toNat < (F 6 0 - i).toNat; omega)
      · refine j_iconst dX1_livingPersons_21 ?_
        refine j_goto (tgt := 26) dX1_livingPersons_22 (by decide) ?_
        refine j_iadd dX1_livingPersons_26 ?_
        refine j_istore_n (L' := [(0, _), (1, _), (2, _)]) dX1_livingPersons_27 rfl (by decide) rfl ?_
        refine j_iinc (L' := [(0, _), (1, _), (2, _)]) dX1_livingPersons_28 rfl (by decide) rfl ?_
        refine j_goto (tgt := 4) dX1_livingPersons_31 (by decide) ?_
        first
          | exact ih (a + 1, i + 1) ⟨by show 0 ≤ i + 1; omega, by show i + 1 ≤ F 6 0; omega, by show 0 ≤ (a + 1) ∧ (a + 1) ≤ (i + 1); omega, by show a + 1 = csum (fun c => bi (F 3 c ≠ 0)) (i + 1).toNat; rw [csum_s _ i1, ← i4]; show a + 1 = a + bi (F 3 i ≠ 0); rw [show bi (F 3 i ≠ 0) = 1 from bi_t (by omega)]⟩ (by show (F 6 0 - (i + 1)).toNat < (F 6 0 - i).toNat; omega)
          | exact ih (a + 0, i + 1) ⟨by show 0 ≤ i + 1; omega, by show i + 1 ≤ F 6 0; omega, by show 0 ≤ (a + 0) ∧ (a + 0) ≤ (i + 1); omega, by show a + 0 = csum (fun c => bi (F 3 c ≠ 0)) (i + 1).toNat; rw [csum_s _ i1, ← i4]; show a + 0 = a + bi (F 3 i ≠ 0); rw [show bi (F 3 i ≠ 0) = 0 from bi_f (by omega)]⟩ (by show (F 6 0 - (i + 1)).toNat < (F 6 0 - i).toNat; omega)
  · dsimp only
    exact ⟨by omega, by omega, by omega, rfl⟩
set_option maxHeartbeats 4000000 in
/-- Families.oaks -/
theorem c_oaks {k : Nat} {F : fS} {B : Int} {h : jH} (hF : jFam k F h) (hO : jOk B F)  : jM mX1_oaks 1 0 0 [] [.ref (k)] h (jRet (iv (csum (fun c => bi (F 0 c = -1)) (F 6 0).toNat)) h) jno := by
  refine j_method (by decide +kernel) rfl (fun _ _ _ => trivial) (Nat.le_of_ble_eq_true rfl) ?_
  generalize hZ : jZ [] 0 0 _ _ = Z
  show J mX1_oaks (jR 1 0 0) [] Z 0 [(0, .ref (k))] [] h 0 0
  have hn := hO.n
  have hq := hO.q
  have hb := hO.b
  refine j_iconst dX1_oaks_0 ?_
  refine j_istore_n (L' := [(0, _), (1, _)]) dX1_oaks_1 rfl (by decide) rfl ?_
  refine j_iconst dX1_oaks_2 ?_
  refine j_istore_n (L' := [(0, _), (1, _), (2, _)]) dX1_oaks_3 rfl (by decide) rfl ?_
  refine jloop (P := fun a : Int × Int => J mX1_oaks (jR 1 0 0) [] Z 4 [(0, .ref k), (1, iv a.1), (2, iv a.2)] [] h 0 0) (fun a => 0 ≤ a.2 ∧ a.2 ≤ F 6 0 ∧ (0 ≤ a.1 ∧ a.1 ≤ a.2) ∧ a.1 = csum (fun c => bi (F 0 c = -1)) a.2.toNat) (fun a => (F 6 0 - a.2).toNat) ?_ (0, 0) ?_
  · rintro ⟨a, i⟩ hinv ih
    dsimp only at hinv ih ⊢
    obtain ⟨i1, i2, i3, i4⟩ := hinv
    have hx8 := hO.p i
    refine j_iload_n dX1_oaks_4 rfl rfl ?_
    refine j_aload_n dX1_oaks_5 rfl rfl ?_
    refine j_getfield dX1_oaks_6 jf_X1_31 hF.1 rfl ?_
    refine j_icmp_ge (tgt := 35) dX1_oaks_9 (by decide) (by omega) (fun c9 => ?_) (fun c9 => ?_)
    · refine j_iload_n dX1_oaks_35 rfl rfl ?_
      subst hZ
      exact j_ireturn dX1_oaks_36 rfl rfl (jRet_i (by rw [i4, show i = F 6 0 by omega])) (Nat.le_refl _) (Nat.le_refl _)
    · refine j_iload_n dX1_oaks_12 rfl rfl ?_
      refine j_aload_n dX1_oaks_13 rfl rfl ?_
      refine j_iload_n dX1_oaks_14 rfl rfl ?_
      refine j_callV (c_parentOf hF hO (by omega)) dX1_oaks_15 jc_X1_65 jmV_X1_parentOf rfl rfl hF.1 rfl rfl (by simp) jfr_nil (Nat.le_of_ble_eq_true rfl) ⟨Nat.le_of_ble_eq_true rfl, Nat.le_of_ble_eq_true rfl⟩ ⟨Nat.le_of_ble_eq_true rfl, Nat.le_of_ble_eq_true rfl⟩ (fun r h' hp9 => ?_) (fun E h9 q => q.elim)
      obtain ⟨rfl, rfl⟩ := hp9
      refine j_iconst dX1_oaks_18 ?_
      refine j_icmp_ne (tgt := 26) dX1_oaks_19 (by decide) (by omega) (fun c19 => ?_) (fun c19 => ?_)
      · refine j_iconst dX1_oaks_26 ?_
        refine j_iadd dX1_oaks_27 ?_
        refine j_istore_n (L' := [(0, _), (1, _), (2, _)]) dX1_oaks_28 rfl (by decide) rfl ?_
        refine j_iinc (L' := [(0, _), (1, _), (2, _)]) dX1_oaks_29 rfl (by decide) rfl ?_
        refine j_goto (tgt := 4) dX1_oaks_32 (by decide) ?_
        first
          | exact ih (a + 1, i + 1) ⟨by show 0 ≤ i + 1; omega, by show i + 1 ≤ F 6 0; omega, by show 0 ≤ (a + 1) ∧ (a + 1) ≤ (i + 1); omega, by show a + 1 = csum (fun c => bi (F 0 c = -1)) (i + 1).toNat; rw [csum_s _ i1, ← i4]; show a + 1 = a + bi (F 0 i = -1); rw [show bi (F 0 i = -1) = 1 from bi_t (by omega)]⟩ (by show (F 6 0 - (i + 1)).toNat < (F 6 0 - i).toNat; omega)
          | exact ih (a + 0, i + 1) ⟨by show 0 ≤ i + 1; omega, by show i + 1 ≤ F 6 0; omega, by show 0 ≤ (a + 0) ∧ (a + 0) ≤ (i + 1); omega, by show a + 0 = csum (fun c => bi (F 0 c = -1)) (i + 1).toNat; rw [csum_s _ i1, ← i4]; show a + 0 = a + bi (F 0 i = -1); rw [show bi (F 0 i = -1) = 0 from bi_f (by omega)]⟩ (by show (F 6 0 - (i + 1)).toNat < (F 6 0 - i).toNat; omega)
      · refine j_iconst dX1_oaks_22 ?_
        refine j_goto (tgt := 27) dX1_oaks_23 (by decide) ?_
        refine j_iadd dX1_oaks_27 ?_
        refine j_istore_n (L' := [(0, _), (1, _), (2, _)]) dX1_oaks_28 rfl (by decide) rfl ?_
        refine j_iinc (L' := [(0, _), (1, _), (2, _)]) dX1_oaks_29 rfl (by decide) rfl ?_
        refine j_goto (tgt := 4) dX1_oaks_32 (by decide) ?_
        first
          | exact ih (a + 1, i + 1) ⟨by show 0 ≤ i + 1; omega, by show i + 1 ≤ F 6 0; omega, by show 0 ≤ (a + 1) ∧ (a + 1) ≤ (i + 1); omega, by show a + 1 = csum (fun c => bi (F 0 c = -1)) (i + 1).toNat; rw [csum_s _ i1, ← i4]; show a + 1 = a + bi (F 0 i = -1); rw [show bi (F 0 i = -1) = 1 from bi_t (by omega)]⟩ (by show (F 6 0 - (i + 1)).toNat < (F 6 0 - i).toNat; omega)
          | exact ih (a + 0, i + 1) ⟨by show 0 ≤ i + 1; omega, by show i + 1 ≤ F 6 0; omega, by show 0 ≤ (a + 0) ∧ (a + 0) ≤ (i + 1); omega, by show a + 0 = csum (fun c => bi (F 0 c = -1)) (i + 1).toNat; rw [csum_s _ i1, ← i4]; show a + 0 = a + bi (F 0 i = -1); rw [show bi (F 0 i = -1) = 0 from bi_f (by omega)]⟩ (by show (F 6 0 - (i + 1)).toNat < (F 6 0 - i).toNat; omega)
  · dsimp only
    exact ⟨by omega, by omega, by omega, rfl⟩
set_option maxHeartbeats 4000000 in
/-- Families.marriages -/
theorem c_marriages {k : Nat} {F : fS} {B : Int} {h : jH} (hF : jFam k F h) (hO : jOk B F)  : jM mX1_marriages 1 0 0 [] [.ref (k)] h (jRet (iv (csum (fun c => bi (F 1 c > c)) (F 6 0).toNat)) h) jno := by
  refine j_method (by decide +kernel) rfl (fun _ _ _ => trivial) (Nat.le_of_ble_eq_true rfl) ?_
  generalize hZ : jZ [] 0 0 _ _ = Z
  show J mX1_marriages (jR 1 0 0) [] Z 0 [(0, .ref (k))] [] h 0 0
  have hn := hO.n
  have hq := hO.q
  have hb := hO.b
  refine j_iconst dX1_marriages_0 ?_
  refine j_istore_n (L' := [(0, _), (1, _)]) dX1_marriages_1 rfl (by decide) rfl ?_
  refine j_iconst dX1_marriages_2 ?_
  refine j_istore_n (L' := [(0, _), (1, _), (2, _)]) dX1_marriages_3 rfl (by decide) rfl ?_
  refine jloop (P := fun a : Int × Int => J mX1_marriages (jR 1 0 0) [] Z 4 [(0, .ref k), (1, iv a.1), (2, iv a.2)] [] h 0 0) (fun a => 0 ≤ a.2 ∧ a.2 ≤ F 6 0 ∧ (0 ≤ a.1 ∧ a.1 ≤ a.2) ∧ a.1 = csum (fun c => bi (F 1 c > c)) a.2.toNat) (fun a => (F 6 0 - a.2).toNat) ?_ (0, 0) ?_
  · rintro ⟨a, i⟩ hinv ih
    dsimp only at hinv ih ⊢
    obtain ⟨i1, i2, i3, i4⟩ := hinv
    have hx8 := hO.s i
    refine j_iload_n dX1_marriages_4 rfl rfl ?_
    refine j_aload_n dX1_marriages_5 rfl rfl ?_
    refine j_getfield dX1_marriages_6 jf_X1_31 hF.1 rfl ?_
    refine j_icmp_ge (tgt := 35) dX1_marriages_9 (by decide) (by omega) (fun c9 => ?_) (fun c9 => ?_)
    · refine j_iload_n dX1_marriages_35 rfl rfl ?_
      subst hZ
      exact j_ireturn dX1_marriages_36 rfl rfl (jRet_i (by rw [i4, show i = F 6 0 by omega])) (Nat.le_refl _) (Nat.le_refl _)
    · refine j_iload_n dX1_marriages_12 rfl rfl ?_
      refine j_aload_n dX1_marriages_13 rfl rfl ?_
      refine j_iload_n dX1_marriages_14 rfl rfl ?_
      refine j_callV (c_spouseOf hF hO (by omega)) dX1_marriages_15 jc_X1_51 jmV_X1_spouseOf rfl rfl hF.1 rfl rfl (by simp) jfr_nil (Nat.le_of_ble_eq_true rfl) ⟨Nat.le_of_ble_eq_true rfl, Nat.le_of_ble_eq_true rfl⟩ ⟨Nat.le_of_ble_eq_true rfl, Nat.le_of_ble_eq_true rfl⟩ (fun r h' hp9 => ?_) (fun E h9 q => q.elim)
      obtain ⟨rfl, rfl⟩ := hp9
      refine j_iload_n dX1_marriages_18 rfl rfl ?_
      refine j_icmp_le (tgt := 26) dX1_marriages_19 (by decide) (by omega) (fun c19 => ?_) (fun c19 => ?_)
      · refine j_iconst dX1_marriages_26 ?_
        refine j_iadd dX1_marriages_27 ?_
        refine j_istore_n (L' := [(0, _), (1, _), (2, _)]) dX1_marriages_28 rfl (by decide) rfl ?_
        refine j_iinc (L' := [(0, _), (1, _), (2, _)]) dX1_marriages_29 rfl (by decide) rfl ?_
        refine j_goto (tgt := 4) dX1_marriages_32 (by decide) ?_
        first
          | exact ih (a + 1, i + 1) ⟨by show 0 ≤ i + 1; omega, by show i + 1 ≤ F 6 0; omega, by show 0 ≤ (a + 1) ∧ (a + 1) ≤ (i + 1); omega, by show a + 1 = csum (fun c => bi (F 1 c > c)) (i + 1).toNat; rw [csum_s _ i1, ← i4]; show a + 1 = a + bi (F 1 i > i); rw [show bi (F 1 i > i) = 1 from bi_t (by omega)]⟩ (by show (F 6 0 - (i + 1)).toNat < (F 6 0 - i).toNat; omega)
          | exact ih (a + 0, i + 1) ⟨by show 0 ≤ i + 1; omega, by show i + 1 ≤ F 6 0; omega, by show 0 ≤ (a + 0) ∧ (a + 0) ≤ (i + 1); omega, by show a + 0 = csum (fun c => bi (F 1 c > c)) (i + 1).toNat; rw [csum_s _ i1, ← i4]; show a + 0 = a + bi (F 1 i > i); rw [show bi (F 1 i > i) = 0 from bi_f (by omega)]⟩ (by show (F 6 0 - (i + 1)).toNat < (F 6 0 - i).toNat; omega)
      · refine j_iconst dX1_marriages_22 ?_
        refine j_goto (tgt := 27) dX1_marriages_23 (by decide) ?_
        refine j_iadd dX1_marriages_27 ?_
        refine j_istore_n (L' := [(0, _), (1, _), (2, _)]) dX1_marriages_28 rfl (by decide) rfl ?_
        refine j_iinc (L' := [(0, _), (1, _), (2, _)]) dX1_marriages_29 rfl (by decide) rfl ?_
        refine j_goto (tgt := 4) dX1_marriages_32 (by decide) ?_
        first
          | exact ih (a + 1, i + 1) ⟨by show 0 ≤ i + 1; omega, by show i + 1 ≤ F 6 0; omega, by show 0 ≤ (a + 1) ∧ (a + 1) ≤ (i + 1); omega, by show a + 1 = csum (fun c => bi (F 1 c > c)) (i + 1).toNat; rw [csum_s _ i1, ← i4]; show a + 1 = a + bi (F 1 i > i); rw [show bi (F 1 i > i) = 1 from bi_t (by omega)]⟩ (by show (F 6 0 - (i + 1)).toNat < (F 6 0 - i).toNat; omega)
          | exact ih (a + 0, i + 1) ⟨by show 0 ≤ i + 1; omega, by show i + 1 ≤ F 6 0; omega, by show 0 ≤ (a + 0) ∧ (a + 0) ≤ (i + 1); omega, by show a + 0 = csum (fun c => bi (F 1 c > c)) (i + 1).toNat; rw [csum_s _ i1, ← i4]; show a + 0 = a + bi (F 1 i > i); rw [show bi (F 1 i > i) = 0 from bi_f (by omega)]⟩ (by show (F 6 0 - (i + 1)).toNat < (F 6 0 - i).toNat; omega)
  · dsimp only
    exact ⟨by omega, by omega, by omega, rfl⟩
set_option maxHeartbeats 4000000 in
/-- Families.sumOfDepths -/
theorem c_sumOfDepths {k : Nat} {F : fS} {B : Int} {h : jH} (hF : jFam k F h) (hO : jOk B F)  : jM mX1_sumOfDepths 2 0 0 [] [.ref (k)] h (jRet (iv (csum (fun c => fdep F c) (F 6 0).toNat)) h) jno := by
  refine j_method (by decide +kernel) rfl (fun _ _ _ => trivial) (Nat.le_of_ble_eq_true rfl) ?_
  generalize hZ : jZ [] 0 0 _ _ = Z
  show J mX1_sumOfDepths (jR 2 0 0) [] Z 0 [(0, .ref (k))] [] h 0 0
  have hn := hO.n
  have hq := hO.q
  have hb := hO.b
  refine j_iconst dX1_sumOfDepths_0 ?_
  refine j_istore_n (L' := [(0, _), (1, _)]) dX1_sumOfDepths_1 rfl (by decide) rfl ?_
  refine j_iconst dX1_sumOfDepths_2 ?_
  refine j_istore_n (L' := [(0, _), (1, _), (2, _)]) dX1_sumOfDepths_3 rfl (by decide) rfl ?_
  refine jloop (P := fun a : Int × Int => J mX1_sumOfDepths (jR 2 0 0) [] Z 4 [(0, .ref k), (1, iv a.1), (2, iv a.2)] [] h 0 0) (fun a => 0 ≤ a.2 ∧ a.2 ≤ F 6 0 ∧ (0 ≤ a.1 ∧ a.1 ≤ 24 * a.2) ∧ a.1 = csum (fun c => fdep F c) a.2.toNat) (fun a => (F 6 0 - a.2).toNat) ?_ (0, 0) ?_
  · rintro ⟨a, i⟩ hinv ih
    dsimp only at hinv ih ⊢
    obtain ⟨i1, i2, i3, i4⟩ := hinv
    have hx8 := fdep_rg F i
    refine j_iload_n dX1_sumOfDepths_4 rfl rfl ?_
    refine j_aload_n dX1_sumOfDepths_5 rfl rfl ?_
    refine j_getfield dX1_sumOfDepths_6 jf_X1_31 hF.1 rfl ?_
    refine j_icmp_ge (tgt := 26) dX1_sumOfDepths_9 (by decide) (by omega) (fun c9 => ?_) (fun c9 => ?_)
    · refine j_iload_n dX1_sumOfDepths_26 rfl rfl ?_
      subst hZ
      exact j_ireturn dX1_sumOfDepths_27 rfl rfl (jRet_i (by rw [i4, show i = F 6 0 by omega])) (Nat.le_refl _) (Nat.le_refl _)
    · refine j_iload_n dX1_sumOfDepths_12 rfl rfl ?_
      refine j_aload_n dX1_sumOfDepths_13 rfl rfl ?_
      refine j_iload_n dX1_sumOfDepths_14 rfl rfl ?_
      refine j_callV (c_depthOf hF hO (by omega)) dX1_sumOfDepths_15 jc_X1_90 jmV_X1_depthOf rfl rfl hF.1 rfl rfl (by simp) jfr_nil (Nat.le_of_ble_eq_true rfl) ⟨Nat.le_of_ble_eq_true rfl, Nat.le_of_ble_eq_true rfl⟩ ⟨Nat.le_of_ble_eq_true rfl, Nat.le_of_ble_eq_true rfl⟩ (fun r h' hp9 => ?_) (fun E h9 q => q.elim)
      obtain ⟨rfl, rfl⟩ := hp9
      refine j_iadd dX1_sumOfDepths_18 ?_
      refine j_istore_n (L' := [(0, _), (1, _), (2, _)]) dX1_sumOfDepths_19 rfl (by decide) rfl ?_
      refine j_iinc (L' := [(0, _), (1, _), (2, _)]) dX1_sumOfDepths_20 rfl (by decide) rfl ?_
      refine j_goto (tgt := 4) dX1_sumOfDepths_23 (by decide) ?_
      first
        | exact ih (a + fdep F i, i + 1) ⟨by show 0 ≤ i + 1; omega, by show i + 1 ≤ F 6 0; omega, by show 0 ≤ (a + fdep F i) ∧ (a + fdep F i) ≤ 24 * (i + 1); omega, by show a + fdep F i = csum (fun c => fdep F c) (i + 1).toNat; rw [csum_s _ i1, ← i4]⟩ (by show (F 6 0 - (i + 1)).toNat < (F 6 0 - i).toNat; omega)
  · dsimp only
    exact ⟨by omega, by omega, by omega, rfl⟩
set_option maxHeartbeats 4000000 in
/-- Families.allCoins -/
theorem c_allCoins {k : Nat} {F : fS} {B : Int} {h : jH} (hF : jFam k F h) (hO : jOk B F)  : jM mX1_allCoins 1 0 0 [] [.ref (k)] h (jRet (iv (csum (fun c => F 2 c) (F 6 0).toNat)) h) jno := by
  refine j_method (by decide +kernel) rfl (fun _ _ _ => trivial) (Nat.le_of_ble_eq_true rfl) ?_
  generalize hZ : jZ [] 0 0 _ _ = Z
  show J mX1_allCoins (jR 1 0 0) [] Z 0 [(0, .ref (k))] [] h 0 0
  have hn := hO.n
  have hq := hO.q
  have hb := hO.b
  refine j_iconst dX1_allCoins_0 ?_
  refine j_istore_n (L' := [(0, _), (1, _)]) dX1_allCoins_1 rfl (by decide) rfl ?_
  refine j_iconst dX1_allCoins_2 ?_
  refine j_istore_n (L' := [(0, _), (1, _), (2, _)]) dX1_allCoins_3 rfl (by decide) rfl ?_
  refine jloop (P := fun a : Int × Int => J mX1_allCoins (jR 1 0 0) [] Z 4 [(0, .ref k), (1, iv a.1), (2, iv a.2)] [] h 0 0) (fun a => 0 ≤ a.2 ∧ a.2 ≤ F 6 0 ∧ (0 ≤ a.1 ∧ a.1 ≤ 20000000 * a.2) ∧ a.1 = csum (fun c => F 2 c) a.2.toNat) (fun a => (F 6 0 - a.2).toNat) ?_ (0, 0) ?_
  · rintro ⟨a, i⟩ hinv ih
    dsimp only at hinv ih ⊢
    obtain ⟨i1, i2, i3, i4⟩ := hinv
    have hx8 := hO.c i
    refine j_iload_n dX1_allCoins_4 rfl rfl ?_
    refine j_aload_n dX1_allCoins_5 rfl rfl ?_
    refine j_getfield dX1_allCoins_6 jf_X1_31 hF.1 rfl ?_
    refine j_icmp_ge (tgt := 26) dX1_allCoins_9 (by decide) (by omega) (fun c9 => ?_) (fun c9 => ?_)
    · refine j_iload_n dX1_allCoins_26 rfl rfl ?_
      subst hZ
      exact j_ireturn dX1_allCoins_27 rfl rfl (jRet_i (by rw [i4, show i = F 6 0 by omega])) (Nat.le_refl _) (Nat.le_refl _)
    · refine j_iload_n dX1_allCoins_12 rfl rfl ?_
      refine j_aload_n dX1_allCoins_13 rfl rfl ?_
      refine j_iload_n dX1_allCoins_14 rfl rfl ?_
      refine j_callV (c_coinsOf hF hO (by omega)) dX1_allCoins_15 jc_X1_59 jmV_X1_coinsOf rfl rfl hF.1 rfl rfl (by simp) jfr_nil (Nat.le_of_ble_eq_true rfl) ⟨Nat.le_of_ble_eq_true rfl, Nat.le_of_ble_eq_true rfl⟩ ⟨Nat.le_of_ble_eq_true rfl, Nat.le_of_ble_eq_true rfl⟩ (fun r h' hp9 => ?_) (fun E h9 q => q.elim)
      obtain ⟨rfl, rfl⟩ := hp9
      refine j_iadd dX1_allCoins_18 ?_
      refine j_istore_n (L' := [(0, _), (1, _), (2, _)]) dX1_allCoins_19 rfl (by decide) rfl ?_
      refine j_iinc (L' := [(0, _), (1, _), (2, _)]) dX1_allCoins_20 rfl (by decide) rfl ?_
      refine j_goto (tgt := 4) dX1_allCoins_23 (by decide) ?_
      first
        | exact ih (a + F 2 i, i + 1) ⟨by show 0 ≤ i + 1; omega, by show i + 1 ≤ F 6 0; omega, by show 0 ≤ (a + F 2 i) ∧ (a + F 2 i) ≤ 20000000 * (i + 1); omega, by show a + F 2 i = csum (fun c => F 2 c) (i + 1).toNat; rw [csum_s _ i1, ← i4]⟩ (by show (F 6 0 - (i + 1)).toNat < (F 6 0 - i).toNat; omega)
  · dsimp only
    exact ⟨by omega, by omega, by omega, rfl⟩
set_option maxHeartbeats 4000000 in
/-- Families.greatestDepth -/
theorem c_greatestDepth {k : Nat} {F : fS} {B : Int} {h : jH} (hF : jFam k F h) (hO : jOk B F)  : jM mX1_greatestDepth 2 0 0 [] [.ref (k)] h (jRet (iv (cmax (fun c => fdep F c) (F 6 0).toNat)) h) jno := by
  refine j_method (by decide +kernel) rfl (fun _ _ _ => trivial) (Nat.le_of_ble_eq_true rfl) ?_
  generalize hZ : jZ [] 0 0 _ _ = Z
  show J mX1_greatestDepth (jR 2 0 0) [] Z 0 [(0, .ref (k))] [] h 0 0
  have hn := hO.n
  have hq := hO.q
  have hb := hO.b
  refine j_iconst dX1_greatestDepth_0 ?_
  refine j_istore_n (L' := [(0, _), (1, _)]) dX1_greatestDepth_1 rfl (by decide) rfl ?_
  refine j_iconst dX1_greatestDepth_2 ?_
  refine j_istore_n (L' := [(0, _), (1, _), (2, _)]) dX1_greatestDepth_3 rfl (by decide) rfl ?_
  refine jloop (P := fun a : Int × Int => J mX1_greatestDepth (jR 2 0 0) [] Z 4 [(0, .ref k), (1, iv a.1), (2, iv a.2)] [] h 0 0) (fun a => 0 ≤ a.2 ∧ a.2 ≤ F 6 0 ∧ (0 ≤ a.1 ∧ a.1 ≤ 24) ∧ a.1 = cmax (fun c => fdep F c) a.2.toNat) (fun a => (F 6 0 - a.2).toNat) ?_ (0, 0) ?_
  · rintro ⟨a, i⟩ hinv ih
    dsimp only at hinv ih ⊢
    obtain ⟨i1, i2, i3, i4⟩ := hinv
    have hx8 := fdep_rg F i
    refine j_iload_n dX1_greatestDepth_4 rfl rfl ?_
    refine j_aload_n dX1_greatestDepth_5 rfl rfl ?_
    refine j_getfield dX1_greatestDepth_6 jf_X1_31 hF.1 rfl ?_
    refine j_icmp_ge (tgt := 28) dX1_greatestDepth_9 (by decide) (by omega) (fun c9 => ?_) (fun c9 => ?_)
    · refine j_iload_n dX1_greatestDepth_28 rfl rfl ?_
      subst hZ
      exact j_ireturn dX1_greatestDepth_29 rfl rfl (jRet_i (by rw [i4, show i = F 6 0 by omega])) (Nat.le_refl _) (Nat.le_refl _)
    · refine j_iload_n dX1_greatestDepth_12 rfl rfl ?_
      refine j_aload_n dX1_greatestDepth_13 rfl rfl ?_
      refine j_iload_n dX1_greatestDepth_14 rfl rfl ?_
      refine j_callV (c_depthOf hF hO (by omega)) dX1_greatestDepth_15 jc_X1_90 jmV_X1_depthOf rfl rfl hF.1 rfl rfl (by simp) jfr_nil (Nat.le_of_ble_eq_true rfl) ⟨Nat.le_of_ble_eq_true rfl, Nat.le_of_ble_eq_true rfl⟩ ⟨Nat.le_of_ble_eq_true rfl, Nat.le_of_ble_eq_true rfl⟩ (fun r h' hp9 => ?_) (fun E h9 q => q.elim)
      obtain ⟨rfl, rfl⟩ := hp9
      refine j_mmax (jw_mem 305 (by decide +kernel) (by decide +kernel)) (jw_mem 306 (by decide +kernel) (by decide +kernel)) (jw_mem 56 (by decide +kernel) (by decide +kernel)) (jw_mem 307 (by decide +kernel) (by decide +kernel)) (by omega) dX1_greatestDepth_18 (by decide) (by decide) (by decide) ?_
      refine j_istore_n (L' := [(0, _), (1, _), (2, _)]) dX1_greatestDepth_21 rfl (by decide) rfl ?_
      refine j_iinc (L' := [(0, _), (1, _), (2, _)]) dX1_greatestDepth_22 rfl (by decide) rfl ?_
      refine j_goto (tgt := 4) dX1_greatestDepth_25 (by decide) ?_
      exact ih (max a (fdep F i), i + 1) ⟨by show 0 ≤ i + 1; omega, by show i + 1 ≤ F 6 0; omega, by show 0 ≤ max a (fdep F i) ∧ max a (fdep F i) ≤ 24; omega, by show max a (fdep F i) = cmax (fun c => fdep F c) (i + 1).toNat; rw [cmax_s _ i1, ← i4]⟩ (by show (F 6 0 - (i + 1)).toNat < (F 6 0 - i).toNat; omega)
  · dsimp only
    exact ⟨by omega, by omega, by omega, rfl⟩
