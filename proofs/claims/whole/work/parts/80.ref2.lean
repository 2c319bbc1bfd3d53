/-! THE REFERENCE'S ANSWERS BESIDE THE CLASS' -/
theorem bi_i0 {c : Prop} [Decidable c] : (bi c = 0) = ¬ c := propext ⟨bi_z, fun h => bi_f h⟩
/-- the reference's answer x (and its state) is what q tells: thrown, or 0 and the value -/
def mY (q : Int × Int) (G : fS) (x : Int × fS) : Prop := x.2 6 0 = q.1 ∧ (q.1 = 0 → x.1 = q.2) ∧ (∀ i, ¬ (i = 1 ∨ 6 ≤ i ∧ i ≤ 12) → x.2 i = G i) ∧ x.2 7 0 = G 7 0 ∧ x.2 8 0 = G 8 0
theorem mYg {q : Int × Int} {G : fS} {a k : Int} (h1 : k = q.1) (h2 : q.1 = 0 → a = q.2) : mY q G (a, gn G 6 k) := ⟨h1, h2, fun i hi => gs_n (by omega), rfl, rfl⟩
theorem mYo {q : Int × Int} {G G' : fS} {a : Int} (h1 : G' 6 0 = q.1) (h2 : q.1 = 0 → a = q.2) (h3 : ∀ i, ¬ (i = 1 ∨ 6 ≤ i ∧ i ≤ 12) → G' i = G i) (h7 : G' 7 0 = G 7 0) (h8 : G' 8 0 = G 8 0) : mY q G (a, G') := ⟨h1, h2, h3, h7, h8⟩
theorem mYt {q : Int × Int} {G : fS} {a k : Int} (h1 : k = q.1) (h2 : q.1 = 0 → a = q.2) : mY q G (a, m_tells (gn G 6 k)) := ⟨h1, h2, fun i hi => (gs_n (by omega)).trans (gs_n (by omega)), rfl, rfl⟩
theorem mYr {q : Int × Int} {G : fS} {p a : Int} (h1 : 0 = q.1) (h2 : q.1 = 0 → a = q.2) : mY q G (a, m_rows (gn G 6 0) p) := ⟨h1, h2, fun i hi => (gs_n (by omega)).trans ((gs_n (by omega)).trans ((gs_n (by omega)).trans (gs_n (by omega)))), rfl, rfl⟩
theorem mYr2 {q : Int × Int} {G : fS} {p a k : Int} (h1 : k = q.1) (h2 : q.1 = 0 → a = q.2) : mY q G (a, gn (m_rows (gn G 6 0) p) 6 k) := ⟨h1, h2, fun i hi => (gs_n (by omega)).trans ((gs_n (by omega)).trans ((gs_n (by omega)).trans ((gs_n (by omega)).trans (gs_n (by omega))))), rfl, rfl⟩
theorem mR.rd2 {B : Int} {K Ks : fS} {P : Int → fS} {X I : fS} {c : Int} {t : Int → Int} {G G' : fS} (w : mR B K Ks P X I c t G) (e : ∀ i, ¬ (i = 1 ∨ 6 ≤ i ∧ i ≤ 12) → G' i = G i) (h7 : G' 7 0 = G 7 0) (h8 : G' 8 0 = G 8 0) : mR B K Ks P X I c t G' := by
  unfold mR mTx mOb at w ⊢
  rw [e 0 (by omega), e 2 (by omega), e 3 (by omega), e 4 (by omega), e 5 (by omega), h7, h8, e 13 (by omega), e 14 (by omega), e 15 (by omega), e 16 (by omega), e 17 (by omega), e 18 (by omega), e 19 (by omega), e 20 (by omega)]
  exact w
theorem mY.R {q : Int × Int} {B : Int} {K Ks : fS} {P : Int → fS} {X I : fS} {c : Int} {t : Int → Int} {G : fS} {x : Int × fS} (w : mR B K Ks P X I c t G) (h : mY q G x) : mR B K Ks P X I c t x.2 := w.rd2 h.2.2.1 h.2.2.2.1 h.2.2.2.2
theorem mY_common {G : fS} {p o a : Int} : mY (y_common (mK (G 0)) p o) G (m_common G p o a) := by
  have e6 : mK (G 0) 6 0 = G 0 0 := rfl
  have e7 : mK (G 0) 7 0 = G 0 1 := rfl
  unfold y_common m_common
  try simp only [bi_i0]
  repeat' split
  all_goals (first | exact mYg rfl (fun _ => rfl) | exact mYg rfl (fun q => absurd q (by decide)) | (exfalso; omega))
theorem mY_degree {G : fS} {p o : Int} : mY (y_degree (mK (G 0)) p o) G (m_degree G p o) := by
  have e6 : mK (G 0) 6 0 = G 0 0 := rfl
  have e7 : mK (G 0) 7 0 = G 0 1 := rfl
  unfold y_degree m_degree
  try simp only [bi_i0]
  repeat' split
  all_goals (first | exact mYg rfl (fun _ => rfl) | exact mYg rfl (fun q => absurd q (by decide)) | (exfalso; omega))
theorem mY_refusal {G : fS} {X : fS} {d : Int} (h11 : X 11 0 = G 7 0) (h12 : X 12 0 = G 8 0) : mY (y_refusal X d) G (m_refusal G d) := by
  have e6 : mK (G 0) 6 0 = G 0 0 := rfl
  have e7 : mK (G 0) 7 0 = G 0 1 := rfl
  rw [show y_refusal X d = if G 7 0 = 0 then (1, 0) else (0, if d = 0 then G 7 0 else G 8 0) by unfold y_refusal; rw [h11, h12]]
  unfold m_refusal
  try simp only [bi_i0]
  repeat' split
  all_goals (first | exact mYg rfl (fun _ => rfl) | exact mYg rfl (fun q => absurd q (by decide)) | (exfalso; omega))
theorem m_elderOf_i (f : Int → Int) {p e : Int} (hr : -2 < fup (mK f) p e) : (m_elderOf f p e = -2) = ¬ (0 ≤ e ∧ e ≤ fdep (mK f) p) := propext ⟨fun h => by
    unfold m_elderOf at h
    split at h
    · rename_i q; exact bi_z q
    · omega, fun h => by
    unfold m_elderOf
    rw [if_pos (bi_f h)]⟩
theorem fup_lo {B : Int} {F : fS} (hO : jOk B F) {p e : Int} (hp : 0 ≤ p ∧ p < F 6 0) : -2 < fup F p e := by
  have := upk_rg hO (min e 24).toNat p (by have := hO.n; omega)
  unfold fup
  omega
theorem mY_elder {B : Int} {G : fS} {p e a : Int} (hO : jOk B (mK (G 0))) : mY (y_elder (mK (G 0)) p e) G (m_elder G p e a) := by
  have e6 : mK (G 0) 6 0 = G 0 0 := rfl
  unfold y_elder m_elder
  by_cases hp : 0 ≤ p ∧ p < mK (G 0) 6 0
  · rw [if_pos hp, if_neg (bi_ne (show 0 ≤ p ∧ p < G 0 0 from hp))]
    by_cases he : 0 ≤ e ∧ e ≤ fdep (mK (G 0)) p
    · rw [if_pos he, if_neg (by rw [m_elderOf_i _ (fup_lo hO hp)]; exact fun q => q he)]
      refine mYg rfl (fun _ => ?_)
      unfold m_elderOf
      rw [if_neg (bi_ne he)]
    · rw [if_neg he, if_pos (by rw [m_elderOf_i _ (fup_lo hO hp)]; exact he)]
      exact mYg rfl (fun _ => rfl)
  · rw [if_neg hp, if_pos (bi_f (show ¬ (0 ≤ p ∧ p < G 0 0) from hp))]
    exact mYg rfl (fun _ => rfl)
theorem mY_leaps {B : Int} {G : fS} {p e : Int} (hO : jOk B (mK (G 0))) : mY (y_leaps (mK (G 0)) p e) G (m_leaps G p e) := by
  unfold y_leaps m_leaps
  by_cases hp : 0 ≤ p ∧ p < mK (G 0) 6 0
  · rw [if_pos hp, if_neg (bi_ne (show 0 ≤ p ∧ p < G 0 0 from hp))]
    by_cases he : 0 ≤ e ∧ e ≤ fdep (mK (G 0)) p
    · rw [if_pos he, if_neg (by rw [m_elderOf_i _ (fup_lo hO hp)]; exact fun q => q he)]
      exact mYg rfl (fun _ => rfl)
    · rw [if_neg he, if_pos (by rw [m_elderOf_i _ (fup_lo hO hp)]; exact he)]
      exact mYg rfl (fun _ => rfl)
  · rw [if_neg hp, if_pos (bi_f (show ¬ (0 ≤ p ∧ p < G 0 0) from hp))]
    exact mYg rfl (fun _ => rfl)
theorem mY_descendant {G : fS} {p q : Int} : mY (y_descendant (mK (G 0)) p q) G (m_descendant G p q) := by
  unfold y_descendant m_descendant
  by_cases hp : 0 ≤ p ∧ p < mK (G 0) 6 0
  · rw [if_pos hp, if_neg (bi_ne (show 0 ≤ p ∧ p < G 0 0 from hp))]
    by_cases hq : 0 ≤ q ∧ q < ((des (mK (G 0)) 24 p).length : Int)
    · rw [if_pos hq, if_neg (bi_ne (by omega))]
      refine mYr2 rfl (fun _ => ?_)
      show jwl (G 10) 0 (des (mK (G 0)) 24 p) q = ((des (mK (G 0)) 24 p)[q.toNat]?).getD 0
      rw [List.getElem?_eq_getElem (by omega)]
      have w := jwl_at (des (mK (G 0)) 24 p) 0 (G 10) q.toNat _ (List.getElem?_eq_getElem (by omega))
      rw [show (0 : Int) + (q.toNat : Int) = q by omega] at w
      exact w
    · rw [if_neg hq, if_pos (bi_f (by omega))]
      exact mYr2 rfl (fun _ => rfl)
  · rw [if_neg hp, if_pos (bi_f (show ¬ (0 ≤ p ∧ p < G 0 0) from hp))]
    exact mYg rfl (fun _ => rfl)
theorem mY_quarrelAt {G : fS} {q a : Int} : mY (y_quarrelAt (mK (G 0)) q a) G (m_quarrelAt G q a) := by
  unfold y_quarrelAt m_quarrelAt
  have e7 : mK (G 0) 7 0 = G 0 1 := rfl
  by_cases hq : 0 ≤ q ∧ q < mK (G 0) 7 0
  · rw [if_pos hq, if_neg (bi_ne (by omega)), mK_4 hq, mK_5 hq]
    by_cases ha : a = 0
    · rw [if_pos ha, if_pos ha]
      exact mYg rfl (fun _ => congrArg (G 0) (Int.add_zero _))
    · rw [if_neg ha, if_neg ha]
      exact mYg rfl (fun _ => congrArg (G 0) (by omega))
  · rw [if_neg hq, if_pos (bi_f (by omega))]
    exact mYg rfl (fun _ => rfl)
theorem mY_heir {G : fS} {p : Int} : mY (y_heir (mK (G 0)) p) G (m_heir G p) := by
  unfold y_heir m_heir
  by_cases hp : 0 ≤ p ∧ p < mK (G 0) 6 0
  · rw [if_pos hp, if_neg (bi_ne (show 0 ≤ p ∧ p < G 0 0 from hp))]
    by_cases hl : mK (G 0) 3 p = 0
    · rw [if_pos hl, if_pos hl]
      exact mYg rfl (fun _ => rfl)
    · rw [if_neg hl, if_neg hl]
      exact mYr rfl (fun _ => rfl)
  · rw [if_neg hp, if_pos (bi_f (show ¬ (0 ≤ p ∧ p < G 0 0) from hp))]
    exact mYg rfl (fun _ => rfl)
theorem mY_personOf {G : fS} {p w : Int} : mY (y_personOf (mK (G 0)) p w) G (m_personOf G p w) := by
  unfold y_personOf m_personOf
  by_cases hp : 0 ≤ p ∧ p < mK (G 0) 6 0
  · rw [if_pos hp, if_neg (bi_ne (show 0 ≤ p ∧ p < G 0 0 from hp))]
    by_cases hw : 0 ≤ w ∧ w ≤ 9
    · rw [if_pos hw, if_neg (bi_ne hw)]
      rcases (show w = 0 ∨ w = 1 ∨ w = 2 ∨ w = 3 ∨ w = 4 ∨ w = 5 ∨ w = 6 ∨ w = 7 ∨ w = 8 ∨ w = 9 by omega) with rfl | rfl | rfl | rfl | rfl | rfl | rfl | rfl | rfl | rfl
      · exact mYg rfl (fun _ => rfl)
      · exact mYg rfl (fun _ => rfl)
      · exact mYg rfl (fun _ => rfl)
      · exact mYr rfl (fun _ => Int.zero_add _)
      · exact mYg rfl (fun _ => (mK_1 (f := G 0) hp).symm)
      · exact mYg rfl (fun _ => (mK_2 (f := G 0) hp).symm)
      · exact mYg rfl (fun _ => (mK_3 (f := G 0) hp).symm)
      · exact mYg rfl (fun _ => rfl)
      · exact mYt rfl (fun _ => rfl)
      · exact mYg rfl (fun _ => rfl)
    · rw [if_neg hw, if_pos (bi_f hw)]
      exact mYg rfl (fun _ => rfl)
  · rw [if_neg hp, if_pos (bi_f (show ¬ (0 ≤ p ∧ p < G 0 0) from hp))]
    exact mYg rfl (fun _ => rfl)
theorem csum_3 {B : Int} {K : fS} (hO : jOk B K) (n : Nat) : csum (fun c => K 3 c) n = csum (fun c => bi (K 3 c ≠ 0)) n := by
  refine csum_eq n fun i _ _ => ?_
  have := hO.l i
  show K 3 i = bi (K 3 i ≠ 0)
  by_cases h : K 3 i = 0
  · rw [bi_f (by omega), h]
  · rw [bi_t h]; omega
theorem mY_account {B : Int} {G X I : fS} {w : Int} (hO : jOk B (mK (G 0))) (h5 : X 5 0 = G 5 0) (hi : I 5 0 = G 16 0) : mY (y_account (mK (G 0)) X I w) G (m_account G w) := by
  unfold y_account m_account
  by_cases hw : 0 ≤ w ∧ w ≤ 11
  · rw [if_pos hw, if_neg (bi_ne hw), h5, hi]
    rcases (show w = 0 ∨ w = 1 ∨ w = 2 ∨ w = 3 ∨ w = 4 ∨ w = 5 ∨ w = 6 ∨ w = 7 ∨ w = 8 ∨ w = 9 ∨ w = 10 ∨ w = 11 by omega) with rfl | rfl | rfl | rfl | rfl | rfl | rfl | rfl | rfl | rfl | rfl | rfl
    · exact mYg rfl (fun _ => rfl)
    · exact mYg rfl (fun _ => csum_3 hO _)
    all_goals exact mYg rfl (fun _ => rfl)
  · rw [if_neg hw, if_pos (bi_f hw)]
    exact mYg rfl (fun _ => rfl)
theorem mY_wouldEnd {B : Int} {G : fS} {p o : Int} (h : kI B (mK (G 0))) : mY (y_wouldEnd (mK (G 0)) p o) G (m_wouldEnd G p o) := by
  unfold y_wouldEnd m_wouldEnd
  by_cases hp : 0 ≤ p ∧ p < mK (G 0) 6 0
  · rw [if_neg (bi_ne (show 0 ≤ p ∧ p < G 0 0 from hp))]
    by_cases ho : 0 ≤ o ∧ o < mK (G 0) 6 0
    · rw [if_neg (bi_ne (show 0 ≤ o ∧ o < G 0 0 from ho)), if_pos ⟨hp, ho⟩, m_canMarry_K (G := gn G 6 0) h hp ho]
      by_cases hw : (kWhy (mK (G 0)) p o).1 = 0
      · rw [if_pos hw, if_neg (show ¬ (kWhy (mK (gn G 6 0 0)) p o).1 ≠ 0 from fun q => q hw), if_neg (show ¬ (1 : Int) = 0 by decide)]
        refine mYo rfl (fun _ => rfl) (fun i hi => ?_) rfl rfl
        exact (gs_n (by omega)).trans ((gs_n (by omega)).trans ((gs_n (by omega)).trans ((gs_n (by omega)).trans (gs_n (by omega)))))
      · rw [if_neg hw, if_pos (show (kWhy (mK (gn G 6 0 0)) p o).1 ≠ 0 from hw), if_pos rfl]
        refine mYo rfl (fun _ => rfl) (fun i hi => ?_) rfl rfl
        exact (gs_n (by omega)).trans ((gs_n (by omega)).trans ((gs_n (by omega)).trans ((gs_n (by omega)).trans ((gs_n (by omega)).trans ((gs_n (by omega)).trans ((gs_n (by omega)).trans (gs_n (by omega))))))))
    · rw [if_pos (bi_f (show ¬ (0 ≤ o ∧ o < G 0 0) from ho)), if_neg (fun q => ho q.2)]
      exact mYg rfl (fun _ => rfl)
  · rw [if_pos (bi_f (show ¬ (0 ≤ p ∧ p < G 0 0) from hp)), if_neg (fun q => hp q.1)]
    exact mYg rfl (fun _ => rfl)
theorem mY_character {G : fS} {c i : Int} {t : Int → Int} (hc : c = G 14 0) (ht : ∀ j, 0 ≤ j → j < c → t j = G 13 j) : mY (y_character c t i) G (m_character G i) := by
  unfold y_character m_character
  by_cases hi : 0 ≤ i ∧ i < c
  · rw [if_pos hi, if_neg (bi_ne (by omega))]
    exact mYg rfl (fun _ => (ht i hi.1 hi.2).symm)
  · rw [if_neg hi, if_pos (bi_f (by omega))]
    exact mYg rfl (fun q => absurd q (by decide))
theorem mfl_in {K : fS} {q : Int} : ∀ (k : Nat) (i f : Int), (∃ p, i ≤ p ∧ p < i + k ∧ krk K p = q) ∨ krk K f = q → krk K (mfl K q k i f) = q ∧ (mfl K q k i f = f ∨ (i ≤ mfl K q k i f ∧ mfl K q k i f < i + k))
  | 0, i, f, h => ⟨by
      rcases h with ⟨p, a, b, _⟩ | h
      · exfalso; omega
      · exact h, .inl rfl⟩
  | k + 1, i, f, h => by
    rw [mfl_s]
    by_cases c : krk K i = q
    · rw [if_pos c]
      have w := mfl_in (K := K) (q := q) k (i + 1) i (.inr c)
      refine ⟨w.1, ?_⟩
      rcases w.2 with e | e
      · rw [e]; exact .inr ⟨by omega, by omega⟩
      · exact .inr ⟨by omega, by omega⟩
    · rw [if_neg c]
      have w := mfl_in (K := K) (q := q) k (i + 1) f (by
        rcases h with ⟨p, a, b, e⟩ | h
        · refine .inl ⟨p, ?_, by omega, e⟩
          have : p ≠ i := fun z => c (by rw [← z]; exact e)
          omega
        · exact .inr h)
      refine ⟨w.1, ?_⟩
      rcases w.2 with e | e
      · exact .inl e
      · exact .inr ⟨by omega, by omega⟩
/-- who has the rank q -/
theorem mY_ranked {B : Int} {G : fS} {q : Int} (hO : jOk B (mK (G 0))) : (¬ (0 ≤ q ∧ q < mK (G 0) 6 0) → mY (1, 0) G (m_ranked G q)) ∧ ∀ x, 0 ≤ x ∧ x < mK (G 0) 6 0 → krk (mK (G 0)) x = q → mY (0, x) G (m_ranked G q) := by
  have hn := mK_n hO
  have e6 : mK (G 0) 6 0 = G 0 0 := rfl
  refine ⟨fun h => ?_, fun x hx hk => ?_⟩
  · unfold m_ranked
    rw [if_pos (bi_f (by omega))]
    exact mYg rfl (fun q => absurd q (by decide))
  · have hr := krk_rg hO hx
    rw [hk] at hr
    unfold m_ranked
    rw [if_neg (bi_ne (by omega))]
    refine mYg rfl (fun _ => ?_)
    have w := mfl_in (K := mK (G 0)) (q := q) (G 0 0).toNat 0 0 (.inl ⟨x, hx.1, by omega, hk⟩)
    show mfl (mK (G 0)) q (G 0 0).toNat 0 0 = x
    have hw : 0 ≤ mfl (mK (G 0)) q (G 0 0).toNat 0 0 ∧ mfl (mK (G 0)) q (G 0 0).toNat 0 0 < mK (G 0) 6 0 := by
      rcases w.2 with e | e
      · rw [e]; omega
      · omega
    by_cases e : mfl (mK (G 0)) q (G 0 0).toNat 0 0 = x
    · exact e
    · exact absurd (w.1.trans hk.symm) (krk_ne hO hw hx e)
