def m_row (G : fS) (l : List Int) : fS := gn (gs G 10 (jwl (G 10) (G 11 0) l)) 11 (G 11 0 + (l.length : Int))
theorem m_row_app (G : fS) (lp : List Int) (i : Int) (l : List Int) : m_row (gn (gs (m_row G lp) 10 (jfu (jwl (G 10) (G 11 0) lp) (G 11 0 + (lp.length : Int)) i)) 11 (G 11 0 + (lp.length : Int) + 1)) l = m_row G (lp ++ i :: l) := by
  funext j
  by_cases h11 : j = 11
  · subst h11
    funext x
    show G 11 0 + (lp.length : Int) + 1 + (l.length : Int) = G 11 0 + ((lp ++ i :: l).length : Int)
    rw [List.length_append, List.length_cons]
    omega
  · by_cases h10 : j = 10
    · subst h10
      show jwl (jfu (jwl (G 10) (G 11 0) lp) (G 11 0 + (lp.length : Int)) i) (G 11 0 + (lp.length : Int) + 1) l = jwl (G 10) (G 11 0) (lp ++ i :: l)
      rw [jwl_app (G 10) lp (i :: l) (G 11 0) (G 10)]
      rfl
    · show gn _ 11 _ j = gn _ 11 _ j
      simp only [gn, m_row, gs, if_neg h11, if_neg h10]
theorem jOb.eqv {S : jSc} {k : Nat} {G G' : fS} {h : jH} (hG : jOb S k G h) (h0 : ∀ i, G' i 0 = G i 0) (h1 : ∀ (i p t n : Nat), S.2.2[i]? = some (1, p, t, n) → G' i = G i) : jOb S k G' h := by
  refine ⟨?_, fun i p t n hi => by rw [h1 i p t n hi]; exact hG.2 i p t n hi⟩
  have e : ∀ (l : List (Nat × Nat × Nat × Nat)) (j : Nat), jFls k G' j l = jFls k G j l := by
    intro l
    induction l with
    | nil => intro _; rfl
    | cons s l ih =>
      intro j
      show jFv k G' j s :: jFls k G' (j + 1) l = jFv k G j s :: jFls k G (j + 1) l
      rw [ih (j + 1)]
      congr 1
      unfold jFv
      rw [h0 j]
  rw [e]
  exact hG.1
theorem m_row_nil {k : Nat} {G : fS} {h : jH} (hG : jOb sM k G h) : jOb sM k (m_row G []) h := by
  refine hG.eqv (fun i => ?_) fun i p t n hi => ?_
  · by_cases h11 : i = 11
    · subst h11
      show G 11 0 + ((0 : Nat) : Int) = G 11 0
      omega
    · by_cases h10 : i = 10
      · subst h10; rfl
      · simp only [gn, m_row, gs, if_neg h11, if_neg h10]
  · have h11 : i ≠ 11 := fun e => by subst e; cases hi
    by_cases h10 : i = 10
    · subst h10; rfl
    · simp only [gn, m_row, gs, if_neg h11, if_neg h10]
set_option maxHeartbeats 4000000 in
/-- reference: adds -/
theorem c5_adds (n9 : Nat) : ∀ (k : Nat) (G : fS) (f : Int → Int) (B : Int) (h : jH), jOb sM k G h → G 0 = f → jOk B (mK f) → fAc (mK f) → ∀ p : Int, 0 ≤ p ∧ p < f 0 → (∀ x, upk (mK f 0) n9 x ≠ p) → 0 ≤ G 11 0 ∧ G 11 0 + ((des (mK f) n9 p).length : Int) ≤ 24 →
    jM mX5_adds (n9 + 1) 0 0 [] [.ref k, iv p] h (jWv sM k (m_row G (des (mK f) n9 p)) h) jno := by
  induction n9 with
  | zero => intro k G f B h _ _ _ _ p _ hk; exact absurd rfl (hk p)
  | succ n9 IH =>
  intro k G f B h hG hf hO hA p hp hk hr
  subst hf
  refine j_method (by decide +kernel) rfl (fun _ _ _ => trivial) (Nat.le_of_ble_eq_true rfl) ?_
  generalize hZ : jZ [] 0 0 _ _ = Z
  show J mX5_adds (jR (n9 + 2) 0 0) [] Z 0 [(0, .ref k), (1, iv p)] [] h 0 0
  have hn := mK_n hO
  have hE0 : jEx k 10 h h := jEx.rf
  refine j_iconst dX5_adds_0 ?_
  refine j_istore_n (L' := [(0, _), (1, _), (2, _)]) dX5_adds_1 rfl (by decide) rfl ?_
  have hGr := m_row_nil hG
  refine jloop (P := fun z9 : Int × List Int => ∀ h1 : jH, jOb sM k (m_row G z9.2) h1 → jEx k 10 h h1 → J mX5_adds (jR (n9 + 2) 0 0) [] Z 2 [(0, .ref k), (1, iv p), (2, iv z9.1)] [] h1 0 0) (fun z9 => 0 ≤ z9.1 ∧ z9.1 ≤ G 0 0 ∧ z9.2 ++ dsl (mK (G 0)) (des (mK (G 0)) n9) p (G 0 0 - z9.1).toNat z9.1 = des (mK (G 0)) (n9 + 1) p) (fun z9 => (G 0 0 - z9.1).toNat) ?_ (0, []) ?_ _ hGr hE0
  · rintro ⟨i, lp⟩ hinv ih
    dsimp only at hinv ih ⊢
    intro h2 hG3 hE4
    obtain ⟨i1, i2, i3⟩ := hinv
    have hx9 : _ ∧ _ < G 0 0 := hO.p i
    refine j_iload_n dX5_adds_2 rfl rfl ?_
    refine j_aload_n dX5_adds_3 rfl rfl ?_
    refine j_getfield (v := .ref (k + 1)) dX5_adds_4 jf_X5_9 hG3.1 rfl ?_
    refine j_iconst dX5_adds_7 ?_
    refine j_iaload (f := G 0) dX5_adds_8 (hG3.a 0 1 0 141 rfl) (by omega) (by decide) ?_
    refine j_icmp_ge (tgt := 52) dX5_adds_9 (by decide) (by omega) (fun c5 => ?_) (fun c5 => ?_)
    · subst hZ
      exact j_return dX5_adds_52 rfl (jWv.i (by rw [show (G 0 0 - i).toNat = 0 by omega] at i3; have e9 : lp = des (mK (G 0)) (n9 + 1) p := (List.append_nil lp).symm.trans i3; rw [e9]) hG3 hE4) (Nat.le_refl _) (Nat.le_refl _)
    · refine j_aload_n dX5_adds_12 rfl rfl ?_
      refine j_iload_n dX5_adds_13 rfl rfl ?_
      refine j_callV (c5_parent hG3 (f := (G 0)) rfl hO (by omega)) dX5_adds_14 jc_X5_68 jmV_X5_parent rfl rfl hG3.1 rfl rfl (by simp) jfr_nil (Nat.le_of_ble_eq_true rfl) (by show 0 + 1 ≤ n9 + 2 ∧ 8 + (2 + 11) + 64 * 0 ≤ 64 * (n9 + 2); omega) ⟨Nat.le_of_ble_eq_true rfl, Nat.le_of_ble_eq_true rfl⟩ (fun r h6 hp9 => ?_) (fun E h9 q => q.elim)
      obtain ⟨rfl, rfl⟩ := hp9
      have hpp9 : -1 ≤ mK (G 0) 0 i ∧ mK (G 0) 0 i < (G 0) 0 := hO.p i
      refine j_iload_n dX5_adds_17 rfl rfl ?_
      refine j_icmp_ne (tgt := 46) dX5_adds_18 (by decide) (by omega) (fun c7 => ?_) (fun c7 => ?_)
      · refine j_iinc (L' := [(0, _), (1, _), (2, _)]) dX5_adds_46 rfl (by decide) rfl ?_
        refine j_goto (tgt := 2) dX5_adds_49 (by decide) ?_
        rw [fsuc (by omega : i < G 0 0)] at i3
        unfold dsl at i3
        rw [if_neg c7, List.nil_append] at i3
        exact ih (i + 1, lp) ⟨by show 0 ≤ i + 1; omega, by show i + 1 ≤ G 0 0; omega, i3⟩ (by show (G 0 0 - (i + 1)).toNat < (G 0 0 - i).toNat; omega) _ hG3 hE4
      · have i4 := i3
        rw [fsuc (by omega : i < G 0 0)] at i4
        unfold dsl at i4
        rw [if_pos c7] at i4
        have i5 := congrArg List.length i4
        simp only [List.length_append, List.length_cons] at i5
        refine j_aload_n dX5_adds_21 rfl rfl ?_
        refine j_getfield (v := .ref (k + 5)) dX5_adds_22 jf_X5_22 hG3.1 rfl ?_
        refine j_aload_n dX5_adds_25 rfl rfl ?_
        refine j_getfield (v := iv (G 11 0 + (lp.length : Int))) dX5_adds_26 jf_X5_137 hG3.1 rfl ?_
        refine j_iload_n dX5_adds_29 rfl rfl ?_
        refine jo_ias (S := sM) (k := k) dX5_adds_30 okM hG3 (i := 10) (p := 5) rfl (by omega) (by decide) (fun h8 hG8 hX8 => ?_)
        have hE9 := hE4.tr hX8
        refine j_aload_n dX5_adds_31 rfl rfl ?_
        refine j_dup dX5_adds_32 rfl ?_
        refine j_getfield (v := iv (G 11 0 + (lp.length : Int))) dX5_adds_33 jf_X5_137 hG8.1 rfl ?_
        refine j_iconst dX5_adds_36 ?_
        refine j_iadd dX5_adds_37 ?_
        refine jo_put (S := sM) dX5_adds_38 jf_X5_137 (fun q hq => by cases hq; exact ⟨rfl, rfl⟩) (jHold_int _) okM hG8 rfl (fun h10 hG10 hX10 => ?_)
        have hE11 := hE9.tr hX10
        refine j_aload_n dX5_adds_41 rfl rfl ?_
        refine j_iload_n dX5_adds_42 rfl rfl ?_
        refine j_callV (IH k _ _ _ _ hG10 (show _ = G 0 from rfl) hO hA i (by omega) (fun x hx => hk x (by rw [upk_s, hx]; exact c7)) (by show 0 ≤ G 11 0 + (lp.length : Int) + 1 ∧ G 11 0 + (lp.length : Int) + 1 + ((des (mK (G 0)) n9 i).length : Int) ≤ 24; omega)) dX5_adds_43 jc_X5_140 jmV_X5_adds rfl rfl hG10.1 rfl rfl (by simp) jfr_nil (Nat.le_of_ble_eq_true rfl) (by show n9 + 1 + 1 ≤ n9 + 2 ∧ 8 + (3 + 11) + 64 * (n9 + 1) ≤ 64 * (n9 + 2); omega) ⟨Nat.le_of_ble_eq_true rfl, Nat.le_of_ble_eq_true rfl⟩ (fun r h12 hp9 => ?_) (fun E h9 q => q.elim)
        obtain ⟨rfl, hG13, hX14⟩ := hp9
        have hE15 := hE11.tr hX14
        refine j_iinc (L' := [(0, _), (1, _), (2, _)]) dX5_adds_46 rfl (by decide) rfl ?_
        refine j_goto (tgt := 2) dX5_adds_49 (by decide) ?_
        have hG9 : jOb sM k (m_row G (lp ++ i :: des (mK (G 0)) n9 i)) h12 := Eq.mp (congrArg (fun z => jOb sM k z _) (m_row_app G lp i (des (mK (G 0)) n9 i))) hG13
        exact ih (i + 1, lp ++ i :: des (mK (G 0)) n9 i) ⟨by show 0 ≤ i + 1; omega, by show i + 1 ≤ G 0 0; omega, by rw [List.append_assoc]; exact i4⟩ (by show (G 0 0 - (i + 1)).toNat < (G 0 0 - i).toNat; omega) _ hG9 hE15
  · dsimp only
    exact ⟨by omega, by omega, by rw [Int.sub_zero]; rfl⟩
def m_rows (G : fS) (p : Int) : fS := m_row (gn G 11 0) (des (mK (G 0)) 24 p)
set_option maxHeartbeats 4000000 in
/-- reference: rows -/
theorem c5_rows {k : Nat} {G : fS} {f : Int → Int} {B : Int} {h : jH} (hG : jOb sM k G h) (hf : G 0 = f) (hO : jOk B (mK f)) (hA : fAc (mK f)) {p : Int} (hp : 0 ≤ p ∧ p < f 0) : jM mX5_rows 30 0 0 [] [.ref k, iv p] h (jWv sM k (m_rows G p) h) jno := by
  refine j_method (by decide +kernel) rfl (fun _ _ _ => trivial) (Nat.le_of_ble_eq_true rfl) ?_
  generalize hZ : jZ [] 0 0 _ _ = Z
  show J mX5_rows (jR 30 0 0) [] Z 0 [(0, .ref k), (1, iv p)] [] h 0 0
  subst hf
  have hn := mK_n hO
  have hb := hO.b
  have hE0 : jEx k 10 h h := jEx.rf
  refine j_aload_n dX5_rows_0 rfl rfl ?_
  refine j_iconst dX5_rows_1 ?_
  refine jo_put (S := sM) dX5_rows_2 jf_X5_137 (fun q hq => by cases hq; exact ⟨rfl, rfl⟩) (jHold_int _) okM hG rfl (fun h1 hG1 hX1 => ?_)
  have hE2 := hE0.tr hX1
  refine j_aload_n dX5_rows_5 rfl rfl ?_
  refine j_iload_n dX5_rows_6 rfl rfl ?_
  refine j_callV (c5_adds 24 k _ _ _ _ hG1 (show _ = G 0 from rfl) hO hA p (by omega) (fun x hx => by have := hA x; omega) (by have := des_len hO hA 24 (p := p) (by omega); show (0 : Int) ≤ 0 ∧ 0 + ((des (mK (G 0)) 24 p).length : Int) ≤ 24; omega)) dX5_rows_7 jc_X5_140 jmV_X5_adds rfl rfl hG1.1 rfl rfl (by simp) jfr_nil (Nat.le_of_ble_eq_true rfl) ⟨Nat.le_of_ble_eq_true rfl, Nat.le_of_ble_eq_true rfl⟩ ⟨Nat.le_of_ble_eq_true rfl, Nat.le_of_ble_eq_true rfl⟩ (fun r h3 hp9 => ?_) (fun E h9 q => q.elim)
  obtain ⟨rfl, hG4, hX5⟩ := hp9
  have hE6 := hE2.tr hX5
  subst hZ
  exact j_return dX5_rows_10 rfl (jWv.i rfl hG4 hE6) (Nat.le_refl _) (Nat.le_refl _)
theorem m_rows_e {G : fS} {p : Int} : (0 : Int) + ((des (mK (G 0)) 24 p).length : Int) = ((des (mK (G 0)) 24 p).length : Int) := Int.zero_add _
