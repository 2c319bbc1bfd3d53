theorem isHo_ex {B : Int} {F : fS} (hO : jOk B F) {p : Int} (hp : 0 ≤ p ∧ p < F 6 0) : ∀ (m : Nat) (q : Int), con F p q → q.toNat ≤ m → ∃ r, isHo F p r
  | 0, q, hq, hm => ⟨q, hq, fun q' hq' => by have := hq'.rg hO hp; have := hq.rg hO hp; omega⟩
  | m + 1, q, hq, hm => by
    by_cases hmin : ∀ q', con F p q' → q ≤ q'
    · exact ⟨q, hq, hmin⟩
    · obtain ⟨q', h'⟩ := Classical.not_forall.mp hmin
      obtain ⟨h1, h2⟩ := Classical.not_imp.mp h'
      have := h1.rg hO hp
      exact isHo_ex hO hp m q' h1 (by omega)
theorem fho_is {B : Int} {F : fS} (hO : jOk B F) {p : Int} (hp : 0 ≤ p ∧ p < F 6 0) : isHo F p (fho F p) := Classical.epsilon_spec (isHo_ex hO hp _ p con.rf (Nat.le_refl _))
theorem fho_rg {B : Int} {F : fS} (hO : jOk B F) {p : Int} (hp : 0 ≤ p ∧ p < F 6 0) : 0 ≤ fho F p ∧ fho F p ≤ p := by
  have h := fho_is hO hp
  exact ⟨(h.1.rg hO hp).1, h.2 p con.rf⟩
theorem mfho {B : Int} {f : Int → Int} (hO : jOk B (mK f)) {p : Int} (hp : 0 ≤ p ∧ p < f 0) : 0 ≤ fho (mK f) p ∧ fho (mK f) p ≤ p := fho_rg hO hp
noncomputable def m_hrow (G : fS) : Int → Int := m_tells G 12
theorem m_hrow_in {G : fS} {p : Int} (hp : 0 ≤ p ∧ p < G 0 0) : m_hrow G p = fho (mK (G 0)) p := if_pos hp
theorem m_hrow_rg {B : Int} {G : fS} (hO : jOk B (mK (G 0))) {p : Int} (hp : 0 ≤ p ∧ p < G 0 0) : 0 ≤ m_hrow G p ∧ m_hrow G p ≤ p := by
  rw [m_hrow_in hp]
  exact mfho hO hp
set_option maxHeartbeats 4000000 in
/-- reference: houseMany -/
theorem c5_houseMany {k : Nat} {G : fS} {f : Int → Int} {B : Int} {h : jH} (hG : jOb sM k G h) (hf : G 0 = f) (hO : jOk B (mK f))  : jM mX5_houseMany 3 0 0 [] [.ref k] h (jWi sM k (csum (fun p => bi (fho (mK f) p = p)) (f 0).toNat, m_tells G) h) jno := by
  refine j_method (by decide +kernel) rfl (fun _ _ _ => trivial) (Nat.le_of_ble_eq_true rfl) ?_
  generalize hZ : jZ [] 0 0 _ _ = Z
  show J mX5_houseMany (jR 3 0 0) [] Z 0 [(0, .ref k)] [] h 0 0
  subst hf
  have hn := mK_n hO
  have hb := hO.b
  have hE0 : jEx k 10 h h := jEx.rf
  refine j_aload_n dX5_houseMany_0 rfl rfl ?_
  refine j_callV (c5_tellsHouses hG (f := (G 0)) rfl hO) dX5_houseMany_1 jc_X5_155 jmV_X5_tellsHouses rfl rfl hG.1 rfl rfl (by simp) jfr_nil (Nat.le_of_ble_eq_true rfl) ⟨Nat.le_of_ble_eq_true rfl, Nat.le_of_ble_eq_true rfl⟩ ⟨Nat.le_of_ble_eq_true rfl, Nat.le_of_ble_eq_true rfl⟩ (fun r h1 hp9 => ?_) (fun E h9 q => q.elim)
  obtain ⟨rfl, hG2, hX3⟩ := hp9
  have hE4 := hE0.tr hX3
  refine j_iconst dX5_houseMany_4 ?_
  refine j_istore_n (L' := [(0, _), (1, _)]) dX5_houseMany_5 rfl (by decide) rfl ?_
  refine j_iconst dX5_houseMany_6 ?_
  refine j_istore_n (L' := [(0, _), (1, _), (2, _)]) dX5_houseMany_7 rfl (by decide) rfl ?_
  refine jloop (P := fun z9 : Int × Int => J mX5_houseMany (jR 3 0 0) [] Z 8 [(0, .ref k), (1, iv z9.1), (2, iv z9.2)] [] h1 0 0) (fun z9 => 0 ≤ z9.2 ∧ z9.2 ≤ G 0 0 ∧ z9.1 = csum (fun p => bi (fho (mK (G 0)) p = p)) z9.2.toNat) (fun z9 => (G 0 0 - z9.2).toNat) ?_ (0, 0) ?_
  · rintro ⟨a, i⟩ hinv ih
    dsimp only at hinv ih ⊢
    obtain ⟨i1, i2, i3⟩ := hinv
    have g1 := fun q => m_hrow_rg (G := G) hO (p := i) ⟨i1, q⟩
    have g2 := fun q => m_hrow_in (G := G) (p := i) ⟨i1, q⟩
    refine j_iload_n dX5_houseMany_8 rfl rfl ?_
    refine j_aload_n dX5_houseMany_9 rfl rfl ?_
    refine j_getfield (v := .ref (k + 1)) dX5_houseMany_10 jf_X5_9 hG2.1 rfl ?_
    refine j_iconst dX5_houseMany_13 ?_
    refine j_iaload (f := G 0) dX5_houseMany_14 (hG2.a 0 1 0 141 rfl) (by omega) (by decide) ?_
    refine j_icmp_ge (tgt := 42) dX5_houseMany_15 (by decide) (by omega) (fun c5 => ?_) (fun c5 => ?_)
    · refine j_iload_n dX5_houseMany_42 rfl rfl ?_
      subst hZ
      exact j_ireturn dX5_houseMany_43 rfl rfl (jWi.i (by rw [i3, show i = G 0 0 by omega]) hG2 hE4) (Nat.le_refl _) (Nat.le_refl _)
    · have g4 := g1 (by omega)
      refine j_iload_n dX5_houseMany_18 rfl rfl ?_
      refine j_aload_n dX5_houseMany_19 rfl rfl ?_
      refine j_getfield (v := .ref (k + 6)) dX5_houseMany_20 jf_X5_25 hG2.1 rfl ?_
      refine j_iload_n dX5_houseMany_23 rfl rfl ?_
      refine j_iaload (f := m_hrow G) dX5_houseMany_24 (hG2.a 12 6 0 24 rfl) (by omega) (by decide) ?_
      refine j_iload_n dX5_houseMany_25 rfl rfl ?_
      refine j_icmp_ne (tgt := 33) dX5_houseMany_26 (by decide) (by omega) (fun c6 => ?_) (fun c6 => ?_)
      · refine j_iconst dX5_houseMany_33 ?_
        refine j_iadd dX5_houseMany_34 ?_
        refine j_istore_n (L' := [(0, _), (1, _), (2, _)]) dX5_houseMany_35 rfl (by decide) rfl ?_
        refine j_iinc (L' := [(0, _), (1, _), (2, _)]) dX5_houseMany_36 rfl (by decide) rfl ?_
        refine j_goto (tgt := 8) dX5_houseMany_39 (by decide) ?_
        have e9 := csum_s (fun p => bi (fho (mK (G 0)) p = p)) i1
        try dsimp only at e9
        have g3 := g2 (by omega)
        first
          | (rw [bi_t (by omega)] at e9; have ih9 := ih (a + 1, i + 1); dsimp only at ih9; exact ih9 ⟨by omega, by omega, by omega⟩ (by omega))
          | (rw [bi_f (by omega)] at e9; have ih9 := ih (a + 0, i + 1); dsimp only at ih9; exact ih9 ⟨by omega, by omega, by omega⟩ (by omega))
      · refine j_iconst dX5_houseMany_29 ?_
        refine j_goto (tgt := 34) dX5_houseMany_30 (by decide) ?_
        refine j_iadd dX5_houseMany_34 ?_
        refine j_istore_n (L' := [(0, _), (1, _), (2, _)]) dX5_houseMany_35 rfl (by decide) rfl ?_
        refine j_iinc (L' := [(0, _), (1, _), (2, _)]) dX5_houseMany_36 rfl (by decide) rfl ?_
        refine j_goto (tgt := 8) dX5_houseMany_39 (by decide) ?_
        have e9 := csum_s (fun p => bi (fho (mK (G 0)) p = p)) i1
        try dsimp only at e9
        have g3 := g2 (by omega)
        first
          | (rw [bi_t (by omega)] at e9; have ih9 := ih (a + 1, i + 1); dsimp only at ih9; exact ih9 ⟨by omega, by omega, by omega⟩ (by omega))
          | (rw [bi_f (by omega)] at e9; have ih9 := ih (a + 0, i + 1); dsimp only at ih9; exact ih9 ⟨by omega, by omega, by omega⟩ (by omega))
  · dsimp only
    exact ⟨by omega, by omega, rfl⟩
set_option maxHeartbeats 4000000 in
/-- reference: houses -/
theorem c5_houses {k : Nat} {G : fS} {f : Int → Int} {B : Int} {h : jH} (hG : jOb sM k G h) (hf : G 0 = f) (hO : jOk B (mK f))  : jM mX5_houses 4 0 0 [] [.ref k] h (jWi sM k (csum (fun p => bi (fho (mK f) p = p)) (f 0).toNat, m_tells (gn G 6 0)) h) jno := by
  refine j_method (by decide +kernel) rfl (fun _ _ _ => trivial) (Nat.le_of_ble_eq_true rfl) ?_
  generalize hZ : jZ [] 0 0 _ _ = Z
  show J mX5_houses (jR 4 0 0) [] Z 0 [(0, .ref k)] [] h 0 0
  subst hf
  have hn := mK_n hO
  have hb := hO.b
  have hE0 : jEx k 10 h h := jEx.rf
  refine j_aload_n dX5_houses_0 rfl rfl ?_
  refine j_iconst dX5_houses_1 ?_
  refine jo_put (S := sM) dX5_houses_2 jf_X5_42 (fun q hq => by cases hq; exact ⟨rfl, rfl⟩) (jHold_int _) okM hG rfl (fun h1 hG1 hX1 => ?_)
  have hE2 := hE0.tr hX1
  refine j_aload_n dX5_houses_5 rfl rfl ?_
  refine j_callV (c5_houseMany hG1 (f := (G 0)) rfl hO) dX5_houses_6 jc_X5_158 jmV_X5_houseMany rfl rfl hG1.1 rfl rfl (by simp) jfr_nil (Nat.le_of_ble_eq_true rfl) ⟨Nat.le_of_ble_eq_true rfl, Nat.le_of_ble_eq_true rfl⟩ ⟨Nat.le_of_ble_eq_true rfl, Nat.le_of_ble_eq_true rfl⟩ (fun r h3 hp9 => ?_) (fun E h9 q => q.elim)
  obtain ⟨rfl, hG4, hX5⟩ := hp9
  have hE6 := hE2.tr hX5
  subst hZ
  exact j_ireturn dX5_houses_9 rfl rfl (jWi.i rfl hG4 hE6) (Nat.le_refl _) (Nat.le_refl _)
set_option maxHeartbeats 4000000 in
/-- reference: housesAgain -/
theorem c5_housesAgain {k : Nat} {G : fS} {f : Int → Int} {B : Int} {h : jH} (hG : jOb sM k G h) (hf : G 0 = f) (hO : jOk B (mK f))  : jM mX5_housesAgain 5 0 0 [] [.ref k] h (jWi sM k (csum (fun p => bi (fho (mK f) p = p)) (f 0).toNat, m_tells (gn G 6 0)) h) jno := by
  refine j_method (by decide +kernel) rfl (fun _ _ _ => trivial) (Nat.le_of_ble_eq_true rfl) ?_
  generalize hZ : jZ [] 0 0 _ _ = Z
  show J mX5_housesAgain (jR 5 0 0) [] Z 0 [(0, .ref k)] [] h 0 0
  subst hf
  have hn := mK_n hO
  have hb := hO.b
  have hE0 : jEx k 10 h h := jEx.rf
  refine j_aload_n dX5_housesAgain_0 rfl rfl ?_
  refine j_callV (c5_houses hG (f := (G 0)) rfl hO) dX5_housesAgain_1 jc_X5_161 jmV_X5_houses rfl rfl hG.1 rfl rfl (by simp) jfr_nil (Nat.le_of_ble_eq_true rfl) ⟨Nat.le_of_ble_eq_true rfl, Nat.le_of_ble_eq_true rfl⟩ ⟨Nat.le_of_ble_eq_true rfl, Nat.le_of_ble_eq_true rfl⟩ (fun r h1 hp9 => ?_) (fun E h9 q => q.elim)
  obtain ⟨rfl, hG2, hX3⟩ := hp9
  have hE4 := hE0.tr hX3
  subst hZ
  exact j_ireturn dX5_housesAgain_4 rfl rfl (jWi.i rfl hG2 hE4) (Nat.le_refl _) (Nat.le_refl _)
set_option maxHeartbeats 4000000 in
/-- reference: houseOf -/
theorem c5_houseOf {k : Nat} {G : fS} {f : Int → Int} {B : Int} {h : jH} (hG : jOb sM k G h) (hf : G 0 = f) (hO : jOk B (mK f)) {p : Int} (hp : 0 ≤ p ∧ p < f 0) : jM mX5_houseOf 3 0 0 [] [.ref k, iv p] h (jWi sM k (fho (mK f) p, m_tells G) h) jno := by
  refine j_method (by decide +kernel) rfl (fun _ _ _ => trivial) (Nat.le_of_ble_eq_true rfl) ?_
  generalize hZ : jZ [] 0 0 _ _ = Z
  show J mX5_houseOf (jR 3 0 0) [] Z 0 [(0, .ref k), (1, iv p)] [] h 0 0
  subst hf
  have hn := mK_n hO
  have hb := hO.b
  have hE0 : jEx k 10 h h := jEx.rf
  refine j_aload_n dX5_houseOf_0 rfl rfl ?_
  refine j_callV (c5_tellsHouses hG (f := (G 0)) rfl hO) dX5_houseOf_1 jc_X5_155 jmV_X5_tellsHouses rfl rfl hG.1 rfl rfl (by simp) jfr_nil (Nat.le_of_ble_eq_true rfl) ⟨Nat.le_of_ble_eq_true rfl, Nat.le_of_ble_eq_true rfl⟩ ⟨Nat.le_of_ble_eq_true rfl, Nat.le_of_ble_eq_true rfl⟩ (fun r h1 hp9 => ?_) (fun E h9 q => q.elim)
  obtain ⟨rfl, hG2, hX3⟩ := hp9
  have hE4 := hE0.tr hX3
  refine j_aload_n dX5_houseOf_4 rfl rfl ?_
  refine j_getfield (v := .ref (k + 6)) dX5_houseOf_5 jf_X5_25 hG2.1 rfl ?_
  refine j_iload_n dX5_houseOf_8 rfl rfl ?_
  refine j_iaload (f := m_hrow G) dX5_houseOf_9 (hG2.a 12 6 0 24 rfl) (by omega) (by decide) ?_
  subst hZ
  exact j_ireturn dX5_houseOf_10 rfl rfl (jWi.i (by rw [m_hrow_in hp]) hG2 hE4) (Nat.le_refl _) (Nat.le_refl _)
/-- the quarrels from q on that stay, written from to on -/
def meq (H : Int → Int) : Nat → Int → Int → (Int → Int) → Int × (Int → Int)
  | 0, _, to, f => (to, f)
  | k + 1, q, to, f => if H (f (101 + 2 * q)) = H (f (101 + 2 * q + 1)) then meq H k (q + 1) to f else meq H k (q + 1) (to + 1) (jfu (jfu f (101 + 2 * to) (f (101 + 2 * q))) (101 + 2 * to + 1) (f (101 + 2 * q + 1)))
noncomputable def m_endQ (G : fS) : Int × fS :=
  (G 0 1 - (meq (m_hrow G) (G 0 1).toNat 0 0 (G 0)).1, gs (m_tells G) 0 (jfu (jfu (meq (m_hrow G) (G 0 1).toNat 0 0 (G 0)).2 1 (meq (m_hrow G) (G 0 1).toNat 0 0 (G 0)).1) 2 (jfu (meq (m_hrow G) (G 0 1).toNat 0 0 (G 0)).2 1 (meq (m_hrow G) (G 0 1).toNat 0 0 (G 0)).1 2 + (G 0 1 - (meq (m_hrow G) (G 0 1).toNat 0 0 (G 0)).1))))
theorem meq_0 {H : Int → Int} {q to : Int} {f : Int → Int} : meq H 0 q to f = (to, f) := rfl
theorem meq_e {H : Int → Int} {k : Nat} {q to : Int} {f : Int → Int} (h : H (f (101 + 2 * q)) = H (f (101 + 2 * q + 1))) : meq H (k + 1) q to f = meq H k (q + 1) to f := if_pos h
theorem meq_n {H : Int → Int} {k : Nat} {q to : Int} {f : Int → Int} (h : ¬ H (f (101 + 2 * q)) = H (f (101 + 2 * q + 1))) : meq H (k + 1) q to f = meq H k (q + 1) (to + 1) (jfu (jfu f (101 + 2 * to) (f (101 + 2 * q))) (101 + 2 * to + 1) (f (101 + 2 * q + 1))) := if_neg h
set_option maxHeartbeats 4000000 in
/-- reference: endQuarrels -/
theorem c5_endQuarrels {k : Nat} {G : fS} {f : Int → Int} {B : Int} {h : jH} (hG : jOb sM k G h) (hf : G 0 = f) (hO : jOk B (mK f))  : jM mX5_endQuarrels 3 0 0 [] [.ref k] h (jWi sM k (m_endQ G) h) jno := by
  refine j_method (by decide +kernel) rfl (fun _ _ _ => trivial) (Nat.le_of_ble_eq_true rfl) ?_
  generalize hZ : jZ [] 0 0 _ _ = Z
  show J mX5_endQuarrels (jR 3 0 0) [] Z 0 [(0, .ref k)] [] h 0 0
  subst hf
  have hn := mK_n hO
  have hb := hO.b
  have hq2 := mK_q hO
  have hE0 : jEx k 10 h h := jEx.rf
  refine j_aload_n dX5_endQuarrels_0 rfl rfl ?_
  refine j_callV (c5_tellsHouses hG (f := (G 0)) rfl hO) dX5_endQuarrels_1 jc_X5_155 jmV_X5_tellsHouses rfl rfl hG.1 rfl rfl (by simp) jfr_nil (Nat.le_of_ble_eq_true rfl) ⟨Nat.le_of_ble_eq_true rfl, Nat.le_of_ble_eq_true rfl⟩ ⟨Nat.le_of_ble_eq_true rfl, Nat.le_of_ble_eq_true rfl⟩ (fun r h1 hp9 => ?_) (fun E h9 q => q.elim)
  obtain ⟨rfl, hG2, hX3⟩ := hp9
  have hE4 := hE0.tr hX3
  refine j_iconst dX5_endQuarrels_4 ?_
  refine j_istore_n (L' := [(0, _), (1, _)]) dX5_endQuarrels_5 rfl (by decide) rfl ?_
  refine j_aload_n dX5_endQuarrels_6 rfl rfl ?_
  refine j_getfield (v := .ref (k + 1)) dX5_endQuarrels_7 jf_X5_9 hG2.1 rfl ?_
  refine j_iconst dX5_endQuarrels_10 ?_
  refine j_iaload (f := G 0) dX5_endQuarrels_11 (hG2.a 0 1 0 141 rfl) (by omega) (by decide) ?_
  refine j_istore_n (L' := [(0, _), (1, _), (2, _)]) dX5_endQuarrels_12 rfl (by decide) rfl ?_
  refine j_iconst dX5_endQuarrels_13 ?_
  refine j_istore_n (L' := [(0, _), (1, _), (2, _), (3, _)]) dX5_endQuarrels_14 rfl (by decide) rfl ?_
  have hGr : jOb sM k (gs (m_tells G) 0 (G 0)) h1 := (gs_id (G := m_tells G) (i := 0) rfl).symm ▸ hG2
  refine jloop (P := fun z9 : Int × Int × (Int → Int) => ∀ h5 : jH, jOb sM k (gs (m_tells G) 0 z9.2.2) h5 → jEx k 10 h h5 → J mX5_endQuarrels (jR 3 0 0) [] Z 15 [(0, .ref k), (1, iv z9.1), (2, iv (G 0 1)), (3, iv z9.2.1)] [] h5 0 0) (fun z9 => 0 ≤ z9.2.1 ∧ z9.2.1 ≤ G 0 1 ∧ (0 ≤ z9.1 ∧ z9.1 ≤ z9.2.1) ∧ (∀ j, j < 101 ∨ 101 + 2 * z9.2.1 ≤ j → z9.2.2 j = G 0 j) ∧ meq (m_hrow G) (G 0 1).toNat 0 0 (G 0) = meq (m_hrow G) (G 0 1 - z9.2.1).toNat z9.2.1 z9.1 z9.2.2) (fun z9 => (G 0 1 - z9.2.1).toNat) ?_ (0, 0, G 0) ?_ _ hGr hE4
  · rintro ⟨to, q, f⟩ hinv ih
    dsimp only at hinv ih ⊢
    intro h6 hG7 hE8
    obtain ⟨i1, i2, i3, i4, i5⟩ := hinv
    have z1 := i4 (101 + 2 * q) (by omega)
    have z2 := i4 (101 + 2 * q + 1) (by omega)
    have z6 : G 0 (101 + 2 * q + 1) = G 0 (102 + 2 * q) := congrArg (G 0) (by omega)
    refine j_iload_n dX5_endQuarrels_15 rfl rfl ?_
    refine j_iload_n dX5_endQuarrels_16 rfl rfl ?_
    refine j_icmp_ge (tgt := 102) dX5_endQuarrels_17 (by decide) (by omega) (fun c9 => ?_) (fun c9 => ?_)
    · refine j_aload_n dX5_endQuarrels_102 rfl rfl ?_
      refine j_getfield (v := .ref (k + 1)) dX5_endQuarrels_103 jf_X5_9 hG7.1 rfl ?_
      refine j_iconst dX5_endQuarrels_106 ?_
      refine j_iload_n dX5_endQuarrels_107 rfl rfl ?_
      refine jo_ias (S := sM) (k := k) dX5_endQuarrels_108 okM hG7 (i := 0) (p := 1) rfl (by omega) (by decide) (fun h10 hG10 hX10 => ?_)
      have hE11 := hE8.tr hX10
      have hG12 : jOb sM k (gs (m_tells G) 0 (jfu f 1 to)) h10 := Eq.mp (congrArg (fun z => jOb sM k z _) gs_gs) hG10
      refine j_aload_n dX5_endQuarrels_109 rfl rfl ?_
      refine j_getfield (v := .ref (k + 1)) dX5_endQuarrels_110 jf_X5_9 hG12.1 rfl ?_
      refine j_iconst dX5_endQuarrels_113 ?_
      refine j_dup2 dX5_endQuarrels_114 rfl rfl ?_
      refine j_iaload (f := jfu f 1 to) dX5_endQuarrels_115 (hG12.a 0 1 0 141 rfl) (by omega) (by decide) ?_
      refine j_iload_n dX5_endQuarrels_116 rfl rfl ?_
      refine j_iload_n dX5_endQuarrels_117 rfl rfl ?_
      refine j_isub dX5_endQuarrels_118 ?_
      refine j_iadd dX5_endQuarrels_119 ?_
      refine jo_ias (S := sM) (k := k) dX5_endQuarrels_120 okM hG12 (i := 0) (p := 1) rfl (by omega) (by decide) (fun h13 hG13 hX13 => ?_)
      have hE14 := hE11.tr hX13
      have hG15 : jOb sM k (gs (m_tells G) 0 (jfu (jfu f 1 to) 2 (((jfu f 1 to) 2) + ((G 0 1) - to)))) h13 := Eq.mp (congrArg (fun z => jOb sM k z _) gs_gs) hG13
      refine j_iload_n dX5_endQuarrels_121 rfl rfl ?_
      refine j_iload_n dX5_endQuarrels_122 rfl rfl ?_
      refine j_isub dX5_endQuarrels_123 ?_
      subst hZ
      exact j_ireturn dX5_endQuarrels_124 rfl rfl (jWi.i (by unfold m_endQ; rw [i5, show (G 0 1 - q).toNat = 0 by omega]; rfl) hG15 hE14) (Nat.le_refl _) (Nat.le_refl _)
    · have z3 := hO.qq q i1 (by show q < G 0 1; omega)
      have z4 := mK_4 (f := G 0) (p := q) (by omega)
      have z5 := mK_5 (f := G 0) (p := q) (by omega)
      have z7 : 0 ≤ f (101 + 2 * q) ∧ f (101 + 2 * q) < G 0 0 := ⟨by rw [z1, ← z4]; exact z3.1.1, by rw [z1, ← z4]; exact z3.1.2⟩
      have z8 : 0 ≤ f (101 + 2 * q + 1) ∧ f (101 + 2 * q + 1) < G 0 0 := ⟨by rw [z2, z6, ← z5]; exact z3.2.1, by rw [z2, z6, ← z5]; exact z3.2.2⟩
      have z9 := m_hrow_rg (G := G) hO z7
      have z10 := m_hrow_rg (G := G) hO z8
      refine j_aload_n dX5_endQuarrels_20 rfl rfl ?_
      refine j_getfield (v := .ref (k + 1)) dX5_endQuarrels_21 jf_X5_9 hG7.1 rfl ?_
      refine j_bipush dX5_endQuarrels_24 (by decide +kernel) ?_
      refine j_iconst dX5_endQuarrels_26 ?_
      refine j_iload_n dX5_endQuarrels_27 rfl rfl ?_
      refine j_imul dX5_endQuarrels_28 ?_
      refine j_iadd dX5_endQuarrels_29 ?_
      refine j_iaload (f := f) dX5_endQuarrels_30 (hG7.a 0 1 0 141 rfl) (by omega) (by decide) ?_
      refine j_istore (L' := [(0, _), (1, _), (2, _), (3, _), (4, _)]) dX5_endQuarrels_31 (by decide) rfl ?_
      refine j_aload_n dX5_endQuarrels_33 rfl rfl ?_
      refine j_getfield (v := .ref (k + 1)) dX5_endQuarrels_34 jf_X5_9 hG7.1 rfl ?_
      refine j_bipush dX5_endQuarrels_37 (by decide +kernel) ?_
      refine j_iconst dX5_endQuarrels_39 ?_
      refine j_iload_n dX5_endQuarrels_40 rfl rfl ?_
      refine j_imul dX5_endQuarrels_41 ?_
      refine j_iadd dX5_endQuarrels_42 ?_
      refine j_iconst dX5_endQuarrels_43 ?_
      refine j_iadd dX5_endQuarrels_44 ?_
      refine j_iaload (f := f) dX5_endQuarrels_45 (hG7.a 0 1 0 141 rfl) (by omega) (by decide) ?_
      refine j_istore (L' := [(0, _), (1, _), (2, _), (3, _), (4, _), (5, _)]) dX5_endQuarrels_46 (by decide) rfl ?_
      refine j_aload_n dX5_endQuarrels_48 rfl rfl ?_
      refine j_getfield (v := .ref (k + 6)) dX5_endQuarrels_49 jf_X5_25 hG7.1 rfl ?_
      refine j_iload dX5_endQuarrels_52 rfl ?_
      refine j_iaload (f := m_hrow G) dX5_endQuarrels_54 (hG7.a 12 6 0 24 rfl) (by omega) (by decide) ?_
      refine j_aload_n dX5_endQuarrels_55 rfl rfl ?_
      refine j_getfield (v := .ref (k + 6)) dX5_endQuarrels_56 jf_X5_25 hG7.1 rfl ?_
      refine j_iload dX5_endQuarrels_59 rfl ?_
      refine j_iaload (f := m_hrow G) dX5_endQuarrels_61 (hG7.a 12 6 0 24 rfl) (by omega) (by decide) ?_
      refine j_icmp_eq (tgt := 96) dX5_endQuarrels_62 (by decide) (by omega) (fun c16 => ?_) (fun c16 => ?_)
      · refine j_iinc (L' := [(0, _), (1, _), (2, _), (3, _), (4, _), (5, _)]) dX5_endQuarrels_96 rfl (by decide) rfl ?_
        refine j_goto (tgt := 15) dX5_endQuarrels_99 (by decide) ?_
        refine J.keep [0, 1, 2, 3] (L' := [(0, _), (1, _), (2, _), (3, _)]) rfl ?_
        rw [fsuc (by omega : q < G 0 1), meq_e c16] at i5
        exact ih (to, q + 1, f) ⟨by show 0 ≤ q + 1; omega, by show q + 1 ≤ G 0 1; omega, by show 0 ≤ to ∧ to ≤ q + 1; omega, fun j hj => i4 j (by have hj : j < 101 ∨ 101 + 2 * (q + 1) ≤ j := hj; omega), i5⟩ (by show (G 0 1 - (q + 1)).toNat < (G 0 1 - q).toNat; omega) _ hG7 hE8
      · refine j_aload_n dX5_endQuarrels_65 rfl rfl ?_
        refine j_getfield (v := .ref (k + 1)) dX5_endQuarrels_66 jf_X5_9 hG7.1 rfl ?_
        refine j_bipush dX5_endQuarrels_69 (by decide +kernel) ?_
        refine j_iconst dX5_endQuarrels_71 ?_
        refine j_iload_n dX5_endQuarrels_72 rfl rfl ?_
        refine j_imul dX5_endQuarrels_73 ?_
        refine j_iadd dX5_endQuarrels_74 ?_
        refine j_iload dX5_endQuarrels_75 rfl ?_
        refine jo_ias (S := sM) (k := k) dX5_endQuarrels_77 okM hG7 (i := 0) (p := 1) rfl (by omega) (by decide) (fun h17 hG17 hX17 => ?_)
        have hE18 := hE8.tr hX17
        have hG19 : jOb sM k (gs (m_tells G) 0 (jfu f (101 + (2 * to)) (f (101 + (2 * q))))) h17 := Eq.mp (congrArg (fun z => jOb sM k z _) gs_gs) hG17
        refine j_aload_n dX5_endQuarrels_78 rfl rfl ?_
        refine j_getfield (v := .ref (k + 1)) dX5_endQuarrels_79 jf_X5_9 hG19.1 rfl ?_
        refine j_bipush dX5_endQuarrels_82 (by decide +kernel) ?_
        refine j_iconst dX5_endQuarrels_84 ?_
        refine j_iload_n dX5_endQuarrels_85 rfl rfl ?_
        refine j_imul dX5_endQuarrels_86 ?_
        refine j_iadd dX5_endQuarrels_87 ?_
        refine j_iconst dX5_endQuarrels_88 ?_
        refine j_iadd dX5_endQuarrels_89 ?_
        refine j_iload dX5_endQuarrels_90 rfl ?_
        refine jo_ias (S := sM) (k := k) dX5_endQuarrels_92 okM hG19 (i := 0) (p := 1) rfl (by omega) (by decide) (fun h20 hG20 hX20 => ?_)
        have hE21 := hE18.tr hX20
        have hG22 : jOb sM k (gs (m_tells G) 0 (jfu (jfu f (101 + (2 * to)) (f (101 + (2 * q)))) ((101 + (2 * to)) + 1) (f ((101 + (2 * q)) + 1)))) h20 := Eq.mp (congrArg (fun z => jOb sM k z _) gs_gs) hG20
        refine j_iinc (L' := [(0, _), (1, _), (2, _), (3, _), (4, _), (5, _)]) dX5_endQuarrels_93 rfl (by decide) rfl ?_
        refine j_iinc (L' := [(0, _), (1, _), (2, _), (3, _), (4, _), (5, _)]) dX5_endQuarrels_96 rfl (by decide) rfl ?_
        refine j_goto (tgt := 15) dX5_endQuarrels_99 (by decide) ?_
        refine J.keep [0, 1, 2, 3] (L' := [(0, _), (1, _), (2, _), (3, _)]) rfl ?_
        rw [fsuc (by omega : q < G 0 1), meq_n c16] at i5
        exact ih (to + 1, q + 1, _) ⟨by show 0 ≤ q + 1; omega, by show q + 1 ≤ G 0 1; omega, by show 0 ≤ to + 1 ∧ to + 1 ≤ q + 1; omega, fun j hj => by have hj : j < 101 ∨ 101 + 2 * (q + 1) ≤ j := hj; exact (jfu_n (by omega)).trans ((jfu_n (by omega)).trans (i4 j (by omega))), i5⟩ (by show (G 0 1 - (q + 1)).toNat < (G 0 1 - q).toNat; omega) _ hG22 hE21
  · dsimp only
    exact ⟨by omega, by omega, by omega, fun _ _ => rfl, by rw [Int.sub_zero]⟩
