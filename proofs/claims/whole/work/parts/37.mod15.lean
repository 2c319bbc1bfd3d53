def m_meanDepth (G : fS) : Value × fS := if ((G 0) 0) = 0 then (.double FP.dconst0, gn G 6 1) else (.double (FP.ddiv (FP.i2d (Int32.ofInt (csum (fun c => fdep (mK (G 0)) c) ((G 0) 0).toNat))) (FP.i2d (Int32.ofInt ((G 0) 0)))), gn G 6 0)
set_option maxHeartbeats 4000000 in
/-- reference: meanDepth -/
theorem c5_meanDepth {k : Nat} {G : fS} {f : Int → Int} {B : Int} {h : jH} (hG : jOb sM k G h) (hf : G 0 = f) (hO : jOk B (mK f)) (hA : fAc (mK f))  : jM mX5_meanDepth 3 0 0 [] [.ref k] h (jWg sM k (m_meanDepth G) h) jno := by
  refine j_method (by decide +kernel) rfl (fun _ _ _ => trivial) (Nat.le_of_ble_eq_true rfl) ?_
  generalize hZ : jZ [] 0 0 _ _ = Z
  show J mX5_meanDepth (jR 3 0 0) [] Z 0 [(0, .ref k)] [] h 0 0
  subst hf
  have hn := mK_n hO
  have hb := hO.b
  have hE0 : jEx k 10 h h := jEx.rf
  refine j_iconst dX5_meanDepth_0 ?_
  refine j_istore_n (L' := [(0, _), (1, _)]) dX5_meanDepth_1 rfl (by decide) rfl ?_
  refine j_iconst dX5_meanDepth_2 ?_
  refine j_istore_n (L' := [(0, _), (1, _), (2, _)]) dX5_meanDepth_3 rfl (by decide) rfl ?_
  refine jloop (P := fun z9 : Int × Int => J mX5_meanDepth (jR 3 0 0) [] Z 4 [(0, .ref k), (1, iv z9.1), (2, iv z9.2)] [] h 0 0) (fun z9 => 0 ≤ z9.2 ∧ z9.2 ≤ G 0 0 ∧ z9.1 = csum (fun c => fdep (mK (G 0)) c) z9.2.toNat ∧ 0 ≤ z9.1 ∧ z9.1 ≤ 24 * z9.2) (fun z9 => ((G 0) 0 - z9.2).toNat) ?_ (0, 0) ?_
  · rintro ⟨a, i⟩ hinv ih
    dsimp only at hinv ih ⊢
    obtain ⟨i1, i2, i3, i4, i5⟩ := hinv
    refine j_iload_n dX5_meanDepth_4 rfl rfl ?_
    refine j_aload_n dX5_meanDepth_5 rfl rfl ?_
    refine j_getfield (v := .ref (k + 1)) dX5_meanDepth_6 jf_X5_9 hG.1 rfl ?_
    refine j_iconst dX5_meanDepth_9 ?_
    refine j_iaload (f := G 0) dX5_meanDepth_10 (hG.a 0 1 0 141 rfl) (by omega) (by decide) ?_
    refine j_icmp_ge (tgt := 28) dX5_meanDepth_11 (by decide) (by omega) (fun c1 => ?_) (fun c1 => ?_)
    · refine j_aload_n dX5_meanDepth_28 rfl rfl ?_
      refine j_aload_n dX5_meanDepth_29 rfl rfl ?_
      refine j_getfield (v := .ref (k + 1)) dX5_meanDepth_30 jf_X5_9 hG.1 rfl ?_
      refine j_iconst dX5_meanDepth_33 ?_
      refine j_iaload (f := G 0) dX5_meanDepth_34 (hG.a 0 1 0 141 rfl) (by omega) (by decide) ?_
      refine j_if_ne (tgt := 42) dX5_meanDepth_35 (by decide) (by omega) (fun c2 => ?_) (fun c2 => ?_)
      · refine j_iconst dX5_meanDepth_42 ?_
        refine jo_put (S := sM) dX5_meanDepth_43 jf_X5_42 (fun q hq => by cases hq; exact ⟨rfl, rfl⟩) (jHold_int _) okM hG rfl (fun h3 hG3 hX3 => ?_)
        have hE4 := hE0.tr hX3
        refine j_aload_n dX5_meanDepth_46 rfl rfl ?_
        refine j_getfield (v := iv 0) dX5_meanDepth_47 jf_X5_42 hG3.1 rfl ?_
        refine j_if_le (tgt := 57) dX5_meanDepth_50 (by decide) (by omega) (fun c5 => ?_) (fun c5 => absurd (by decide) c5)
        refine j_iload_n dX5_meanDepth_57 rfl rfl ?_
        refine j_i2d dX5_meanDepth_58 ?_
        refine j_aload_n dX5_meanDepth_59 rfl rfl ?_
        refine j_getfield (v := .ref (k + 1)) dX5_meanDepth_60 jf_X5_9 hG3.1 rfl ?_
        refine j_iconst dX5_meanDepth_63 ?_
        refine j_iaload (f := G 0) dX5_meanDepth_64 (hG3.a 0 1 0 141 rfl) (by omega) (by decide) ?_
        refine j_i2d dX5_meanDepth_65 ?_
        refine j_ddiv dX5_meanDepth_66 (fp_d (by omega) (by omega)) ?_
        subst hZ
        exact j_dreturn dX5_meanDepth_67 rfl (jWg.i (((if_neg c2)).trans (by first | rfl | rw [i3, show i = (G 0) 0 by omega])) hG3 hE4) (Nat.le_refl _) (Nat.le_refl _)
      · refine j_iconst dX5_meanDepth_38 ?_
        refine j_goto (tgt := 43) dX5_meanDepth_39 (by decide) ?_
        refine jo_put (S := sM) dX5_meanDepth_43 jf_X5_42 (fun q hq => by cases hq; exact ⟨rfl, rfl⟩) (jHold_int _) okM hG rfl (fun h6 hG6 hX6 => ?_)
        have hE7 := hE0.tr hX6
        refine j_aload_n dX5_meanDepth_46 rfl rfl ?_
        refine j_getfield (v := iv 1) dX5_meanDepth_47 jf_X5_42 hG6.1 rfl ?_
        refine j_if_le (tgt := 57) dX5_meanDepth_50 (by decide) (by omega) (fun c8 => absurd c8 (by decide)) (fun c8 => ?_)
        refine j_dconst0 dX5_meanDepth_53 ?_
        refine j_goto (tgt := 67) dX5_meanDepth_54 (by decide) ?_
        subst hZ
        exact j_dreturn dX5_meanDepth_67 rfl (jWg.i (((if_pos c2)).trans (by first | rfl | rw [i3, show i = (G 0) 0 by omega])) hG6 hE7) (Nat.le_refl _) (Nat.le_refl _)
    · refine j_iload_n dX5_meanDepth_14 rfl rfl ?_
      refine j_aload_n dX5_meanDepth_15 rfl rfl ?_
      refine j_iload_n dX5_meanDepth_16 rfl rfl ?_
      refine j_callV (c5_depth hG (f := (G 0)) rfl hO hA (by omega)) dX5_meanDepth_17 jc_X5_118 jmV_X5_depth rfl rfl hG.1 rfl rfl (by simp) jfr_nil (Nat.le_of_ble_eq_true rfl) ⟨Nat.le_of_ble_eq_true rfl, Nat.le_of_ble_eq_true rfl⟩ ⟨Nat.le_of_ble_eq_true rfl, Nat.le_of_ble_eq_true rfl⟩ (fun r h9 hp9 => ?_) (fun E h9 q => q.elim)
      obtain ⟨rfl, rfl⟩ := hp9
      have hd9 := fdep_rg (mK (G 0)) i
      refine j_iadd dX5_meanDepth_20 ?_
      refine j_istore_n (L' := [(0, _), (1, _), (2, _)]) dX5_meanDepth_21 rfl (by decide) rfl ?_
      refine j_iinc (L' := [(0, _), (1, _), (2, _)]) dX5_meanDepth_22 rfl (by decide) rfl ?_
      refine j_goto (tgt := 4) dX5_meanDepth_25 (by decide) ?_
      have e9 := csum_s (fun c => fdep (mK (G 0)) c) i1
      try dsimp only at e9
      have ih9 := ih (a + fdep (mK (G 0)) i, i + 1)
      dsimp only at ih9
      exact ih9 ⟨by omega, by omega, by omega, by omega, by omega⟩ (by omega)
  · dsimp only
    exact ⟨by omega, by omega, rfl, by omega, by omega⟩
theorem csum_li {B : Int} {f : Int → Int} (hO : jOk B (mK f)) : 0 ≤ csum (fun c => mK f 3 c) (f 0).toNat ∧ csum (fun c => mK f 3 c) (f 0).toNat ≤ 24 := by
  have hn := mK_n hO
  have := csum_big (f := fun c => mK f 3 c) (b := 1) (fun i => by have := hO.l i; omega) (by omega) (f 0).toNat
  omega
def m_livingShare (G : fS) : Value × fS := if ((G 0) 0) = 0 then (.float FP.fconst0, gn G 6 1) else (.float (FP.fdiv (FP.i2f (Int32.ofInt (csum (fun c => mK (G 0) 3 c) ((G 0) 0).toNat))) (FP.i2f (Int32.ofInt ((G 0) 0)))), gn G 6 0)
set_option maxHeartbeats 4000000 in
/-- reference: livingShare -/
theorem c5_livingShare {k : Nat} {G : fS} {f : Int → Int} {B : Int} {h : jH} (hG : jOb sM k G h) (hf : G 0 = f) (hO : jOk B (mK f))  : jM mX5_livingShare 3 0 0 [] [.ref k] h (jWg sM k (m_livingShare G) h) jno := by
  refine j_method (by decide +kernel) rfl (fun _ _ _ => trivial) (Nat.le_of_ble_eq_true rfl) ?_
  generalize hZ : jZ [] 0 0 _ _ = Z
  show J mX5_livingShare (jR 3 0 0) [] Z 0 [(0, .ref k)] [] h 0 0
  subst hf
  have hn := mK_n hO
  have hb := hO.b
  have hE0 : jEx k 10 h h := jEx.rf
  refine j_aload_n dX5_livingShare_0 rfl rfl ?_
  refine j_aload_n dX5_livingShare_1 rfl rfl ?_
  refine j_getfield (v := .ref (k + 1)) dX5_livingShare_2 jf_X5_9 hG.1 rfl ?_
  refine j_iconst dX5_livingShare_5 ?_
  refine j_iaload (f := G 0) dX5_livingShare_6 (hG.a 0 1 0 141 rfl) (by omega) (by decide) ?_
  refine j_if_ne (tgt := 14) dX5_livingShare_7 (by decide) (by omega) (fun c1 => ?_) (fun c1 => ?_)
  · refine j_iconst dX5_livingShare_14 ?_
    refine jo_put (S := sM) dX5_livingShare_15 jf_X5_42 (fun q hq => by cases hq; exact ⟨rfl, rfl⟩) (jHold_int _) okM hG rfl (fun h2 hG2 hX2 => ?_)
    have hE3 := hE0.tr hX2
    refine j_aload_n dX5_livingShare_18 rfl rfl ?_
    refine j_getfield (v := iv 0) dX5_livingShare_19 jf_X5_42 hG2.1 rfl ?_
    refine j_if_le (tgt := 29) dX5_livingShare_22 (by decide) (by omega) (fun c4 => ?_) (fun c4 => absurd (by decide) c4)
    refine j_aload_n dX5_livingShare_29 rfl rfl ?_
    refine j_callV (c5_living hG2 (f := (G 0)) rfl hO) dX5_livingShare_30 jc_X5_233 jmV_X5_living rfl rfl hG2.1 rfl rfl (by simp) jfr_nil (Nat.le_of_ble_eq_true rfl) ⟨Nat.le_of_ble_eq_true rfl, Nat.le_of_ble_eq_true rfl⟩ ⟨Nat.le_of_ble_eq_true rfl, Nat.le_of_ble_eq_true rfl⟩ (fun r h5 hp9 => ?_) (fun E h9 q => q.elim)
    obtain ⟨rfl, rfl⟩ := hp9
    have hlv9 := csum_li hO
    refine j_i2f dX5_livingShare_33 ?_
    refine j_aload_n dX5_livingShare_34 rfl rfl ?_
    refine j_getfield (v := .ref (k + 1)) dX5_livingShare_35 jf_X5_9 hG2.1 rfl ?_
    refine j_iconst dX5_livingShare_38 ?_
    refine j_iaload (f := G 0) dX5_livingShare_39 (hG2.a 0 1 0 141 rfl) (by omega) (by decide) ?_
    refine j_i2f dX5_livingShare_40 ?_
    refine j_fdiv dX5_livingShare_41 (fp_f (by omega) (by omega)).1 ?_
    subst hZ
    exact j_freturn dX5_livingShare_42 rfl (jWg.i (if_neg c1) hG2 hE3) (Nat.le_refl _) (Nat.le_refl _)
  · refine j_iconst dX5_livingShare_10 ?_
    refine j_goto (tgt := 15) dX5_livingShare_11 (by decide) ?_
    refine jo_put (S := sM) dX5_livingShare_15 jf_X5_42 (fun q hq => by cases hq; exact ⟨rfl, rfl⟩) (jHold_int _) okM hG rfl (fun h6 hG6 hX6 => ?_)
    have hE7 := hE0.tr hX6
    refine j_aload_n dX5_livingShare_18 rfl rfl ?_
    refine j_getfield (v := iv 1) dX5_livingShare_19 jf_X5_42 hG6.1 rfl ?_
    refine j_if_le (tgt := 29) dX5_livingShare_22 (by decide) (by omega) (fun c8 => absurd c8 (by decide)) (fun c8 => ?_)
    refine j_fconst0 dX5_livingShare_25 ?_
    refine j_goto (tgt := 42) dX5_livingShare_26 (by decide) ?_
    subst hZ
    exact j_freturn dX5_livingShare_42 rfl (jWg.i (if_pos c1) hG6 hE7) (Nat.le_refl _) (Nat.le_refl _)
/-- the digits of v, with k more before the last at most -/
def dgs : Nat → Int → List Int
  | 0, v => [48 + v]
  | k + 1, v => if 9 < v then dgs k (Int.tdiv v 10) ++ [48 + (v - Int.tdiv v 10 * 10)] else [48 + v]
theorem dgs_len : ∀ (k : Nat) (v : Int), (dgs k v).length ≤ k + 1
  | 0, _ => Nat.le_refl _
  | k + 1, v => by
    have := dgs_len k (Int.tdiv v 10)
    unfold dgs
    split
    · rw [List.length_append]
      show _ + 1 ≤ _
      omega
    · show 1 ≤ _
      omega
def m_lin (G : fS) (l : List Int) : fS := gn (gs G 13 (jwl (G 13) (G 14 0) l)) 14 (G 14 0 + (l.length : Int))
theorem m_lin_app (G : fS) (l l' : List Int) : m_lin (m_lin G l) l' = m_lin G (l ++ l') := by
  funext j
  by_cases h1 : j = 14
  · subst h1
    funext x
    show G 14 0 + (l.length : Int) + (l'.length : Int) = G 14 0 + ((l ++ l').length : Int)
    rw [List.length_append]
    omega
  · by_cases h2 : j = 13
    · subst h2
      show jwl (jwl (G 13) (G 14 0) l) (G 14 0 + (l.length : Int)) l' = jwl (G 13) (G 14 0) (l ++ l')
      exact (jwl_app (G 13) l l' (G 14 0) (G 13)).symm
    · simp only [gn, m_lin, gs, if_neg h1, if_neg h2]
theorem m_says_lin (G : fS) (c : Int) : m_says G c = m_lin G [c] := rfl
theorem tdiv10 {v : Int} (h : 0 ≤ v) : Int.tdiv v 10 = v / 10 := Int.tdiv_eq_ediv_of_nonneg h
set_option maxHeartbeats 4000000 in
/-- reference: saysNumber -/
theorem c5_saysNumber (n9 : Nat) : ∀ (k : Nat) (G : fS) (h : jH), jOb sM k G h → ∀ v : Int, 0 ≤ v ∧ v < 10 ^ (n9 + 1) ∧ v ≤ 20000000 → 0 ≤ G 14 0 ∧ G 14 0 + n9 < 40 →
    jM mX5_saysNumber (n9 + 2) 0 0 [] [.ref k, iv v] h (jWv sM k (m_lin G (dgs n9 v)) h) jno := by
  induction n9 with
  | zero =>
    intro k G h hG v hv hl
    have hv : 0 ≤ v ∧ v < 10 ∧ v ≤ 20000000 := hv
    refine j_method (by decide +kernel) rfl (fun _ _ _ => trivial) (Nat.le_of_ble_eq_true rfl) ?_
    generalize hZ : jZ [] 0 0 _ _ = Z
    show J mX5_saysNumber (jR 2 0 0) [] Z 0 [(0, .ref k), (1, iv v)] [] h 0 0
    have ht := tdiv10 hv.1
    have hE0 : jEx k 10 h h := jEx.rf
    refine j_iload_n dX5_saysNumber_0 rfl rfl ?_
    refine j_bipush dX5_saysNumber_1 (by decide +kernel) ?_
    refine j_icmp_le (tgt := 14) dX5_saysNumber_3 (by decide) (by omega) (fun c1 => ?_) (fun c1 => (False.elim (by omega)))
    refine j_aload_n dX5_saysNumber_14 rfl rfl ?_
    refine j_bipush dX5_saysNumber_15 (by decide +kernel) ?_
    refine j_iload_n dX5_saysNumber_17 rfl rfl ?_
    refine j_bipush dX5_saysNumber_18 (by decide +kernel) ?_
    refine j_irem (z := v - Int.tdiv v 10 * 10) dX5_saysNumber_20 (jz_ne (by omega) (by omega)) (jz_rem (by omega) (by omega)) ?_
    refine j_iadd dX5_saysNumber_21 ?_
    refine j_i2c (v := 48 + (v - Int.tdiv v 10 * 10)) dX5_saysNumber_22 (jz_i2c (by omega)) ?_
    refine j_callV (c5_says hG (by omega) (by show 0 ≤ G 14 0 ∧ G 14 0 < 40; omega)) dX5_saysNumber_23 jc_X5_200 jmV_X5_says rfl rfl hG.1 rfl rfl (by simp) jfr_nil (Nat.le_of_ble_eq_true rfl) ⟨Nat.le_of_ble_eq_true rfl, Nat.le_of_ble_eq_true rfl⟩ ⟨Nat.le_of_ble_eq_true rfl, Nat.le_of_ble_eq_true rfl⟩ (fun r h2 hp9 => ?_) (fun E h9 q => q.elim)
    obtain ⟨rfl, hG3, hX4⟩ := hp9
    have hE5 := hE0.tr hX4
    subst hZ
    exact j_return dX5_saysNumber_26 rfl (jWv.i (by exact congrArg (fun z => m_lin G [48 + z]) (by omega)) hG3 hE5) (Nat.le_refl _) (Nat.le_refl _)
  | succ n9 IH =>
    intro k G h hG v hv hl
    have hq : (10 : Int) ^ (n9 + 1 + 1) = 10 ^ (n9 + 1) * 10 := Int.pow_succ 10 (n9 + 1)
    rw [hq] at hv
    generalize (10 : Int) ^ (n9 + 1) = w9 at *
    refine j_method (by decide +kernel) rfl (fun _ _ _ => trivial) (Nat.le_of_ble_eq_true rfl) ?_
    generalize hZ : jZ [] 0 0 _ _ = Z
    show J mX5_saysNumber (jR (n9 + 3) 0 0) [] Z 0 [(0, .ref k), (1, iv v)] [] h 0 0
    have ht := tdiv10 hv.1
    have hE0 : jEx k 10 h h := jEx.rf
    refine j_iload_n dX5_saysNumber_0 rfl rfl ?_
    refine j_bipush dX5_saysNumber_1 (by decide +kernel) ?_
    refine j_icmp_le (tgt := 14) dX5_saysNumber_3 (by decide) (by omega) (fun c1 => ?_) (fun c1 => ?_)
    · refine j_aload_n dX5_saysNumber_14 rfl rfl ?_
      refine j_bipush dX5_saysNumber_15 (by decide +kernel) ?_
      refine j_iload_n dX5_saysNumber_17 rfl rfl ?_
      refine j_bipush dX5_saysNumber_18 (by decide +kernel) ?_
      refine j_irem (z := v - Int.tdiv v 10 * 10) dX5_saysNumber_20 (jz_ne (by omega) (by omega)) (jz_rem (by omega) (by omega)) ?_
      refine j_iadd dX5_saysNumber_21 ?_
      refine j_i2c (v := 48 + (v - Int.tdiv v 10 * 10)) dX5_saysNumber_22 (jz_i2c (by omega)) ?_
      refine j_callV (c5_says hG (by omega) (by show 0 ≤ G 14 0 ∧ G 14 0 < 40; omega)) dX5_saysNumber_23 jc_X5_200 jmV_X5_says rfl rfl hG.1 rfl rfl (by simp) jfr_nil (Nat.le_of_ble_eq_true rfl) (by show 1 + 1 ≤ n9 + 3 ∧ 8 + (2 + 11) + 64 * 1 ≤ 64 * (n9 + 3); omega) ⟨Nat.le_of_ble_eq_true rfl, Nat.le_of_ble_eq_true rfl⟩ (fun r h2 hp9 => ?_) (fun E h9 q => q.elim)
      obtain ⟨rfl, hG3, hX4⟩ := hp9
      have hE5 := hE0.tr hX4
      subst hZ
      exact j_return dX5_saysNumber_26 rfl (jWv.i (by rw [show dgs (n9 + 1) v = [48 + v] from if_neg (by omega)]; exact congrArg (fun z => m_lin G [48 + z]) (by omega)) hG3 hE5) (Nat.le_refl _) (Nat.le_refl _)
    · refine j_aload_n dX5_saysNumber_6 rfl rfl ?_
      refine j_iload_n dX5_saysNumber_7 rfl rfl ?_
      refine j_bipush dX5_saysNumber_8 (by decide +kernel) ?_
      refine j_idiv (z := Int.tdiv v 10) dX5_saysNumber_10 (jz_ne (by omega) (by omega)) (jz_div (by omega) (by omega)) ?_
      refine j_callV (IH k G h hG (Int.tdiv v 10) (by omega) (by omega)) dX5_saysNumber_11 jc_X5_197 jmV_X5_saysNumber rfl rfl hG.1 rfl rfl (by simp) jfr_nil (Nat.le_of_ble_eq_true rfl) (by show n9 + 2 + 1 ≤ n9 + 3 ∧ 8 + (2 + 11) + 64 * (n9 + 2) ≤ 64 * (n9 + 3); omega) ⟨Nat.le_of_ble_eq_true rfl, Nat.le_of_ble_eq_true rfl⟩ (fun r h6 hp9 => ?_) (fun E h9 q => q.elim)
      obtain ⟨rfl, hG7, hX8⟩ := hp9
      have hE9 := hE0.tr hX8
      have hdl := dgs_len n9 (Int.tdiv v 10)
      refine j_aload_n dX5_saysNumber_14 rfl rfl ?_
      refine j_bipush dX5_saysNumber_15 (by decide +kernel) ?_
      refine j_iload_n dX5_saysNumber_17 rfl rfl ?_
      refine j_bipush dX5_saysNumber_18 (by decide +kernel) ?_
      refine j_irem (z := v - Int.tdiv v 10 * 10) dX5_saysNumber_20 (jz_ne (by omega) (by omega)) (jz_rem (by omega) (by omega)) ?_
      refine j_iadd dX5_saysNumber_21 ?_
      refine j_i2c (v := 48 + (v - Int.tdiv v 10 * 10)) dX5_saysNumber_22 (jz_i2c (by omega)) ?_
      refine j_callV (c5_says hG7 (by omega) (by show 0 ≤ G 14 0 + ((dgs n9 (Int.tdiv v 10)).length : Int) ∧ G 14 0 + ((dgs n9 (Int.tdiv v 10)).length : Int) < 40; omega)) dX5_saysNumber_23 jc_X5_200 jmV_X5_says rfl rfl hG7.1 rfl rfl (by simp) jfr_nil (Nat.le_of_ble_eq_true rfl) (by show 1 + 1 ≤ n9 + 3 ∧ 8 + (2 + 11) + 64 * 1 ≤ 64 * (n9 + 3); omega) ⟨Nat.le_of_ble_eq_true rfl, Nat.le_of_ble_eq_true rfl⟩ (fun r h10 hp9 => ?_) (fun E h9 q => q.elim)
      obtain ⟨rfl, hG11, hX12⟩ := hp9
      have hE13 := hE9.tr hX12
      subst hZ
      exact j_return dX5_saysNumber_26 rfl (jWv.i (by rw [show dgs (n9 + 1) v = dgs n9 (Int.tdiv v 10) ++ [48 + (v - Int.tdiv v 10 * 10)] from if_pos (by omega)]; exact (m_lin_app _ _ _).symm) hG11 hE13) (Nat.le_refl _) (Nat.le_refl _)
