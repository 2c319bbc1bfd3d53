/-- the other fields are the same -/
def mQ (G G' : fS) : Prop := ∀ i, ¬ (i = 0 ∨ 6 ≤ i ∧ i ≤ 12) → G' i = G i
theorem mQ.rf {G : fS} : mQ G G := fun _ _ => rfl
theorem mQ.gs {G G' : fS} {i : Nat} {f : Int → Int} (h : mQ G G') (hi : i = 0 ∨ 6 ≤ i ∧ i ≤ 12) : mQ G (gs G' i f) := fun j hj => (gs_n (show j ≠ i from fun e => hj (by omega))).trans (h j hj)
theorem mQ.gn {G G' : fS} {i : Nat} {x : Int} (h : mQ G G') (hi : i = 0 ∨ 6 ≤ i ∧ i ≤ 12) : mQ G (gn G' i x) := h.gs hi
theorem mQ.tells {G G' : fS} (h : mQ G G') : mQ G (m_tells G') := h.gs (by omega)
theorem mQ.rows {G G' : fS} {p : Int} (h : mQ G G') : mQ G (m_rows G' p) := by
  unfold m_rows m_row
  exact ((h.gn (by omega)).gs (by omega)).gn (by omega)
theorem mQ.parts {G G' : fS} {p : Int} (h : mQ G G') : mQ G (m_parts G' p) := h.gs (by omega)
theorem mQ.endq {G G' : fS} (h : mQ G G') : mQ G (m_endQ G').2 := h.tells.gs (by omega)
theorem mQ.ref {G G' : fS} {a w d : Int} (h : mQ G G') : mQ G (m_refuse G' a w d).2 := (((h.gn (by omega)).gn (by omega)).gn (by omega)).gn (by omega)
/-- what an order of the reference does, beside what it should: t is the place of a refusal among its exceptions -/
def mRes (t : Int) (q : kR) (G : fS) (x : Int × fS) : Prop :=
  mK (x.2 0) = q.2.2.2 ∧ mQ G x.2 ∧
  ((-1 ≤ q.1 ∧ x.1 = q.1 ∧ x.2 6 0 = G 6 0 ∧ x.2 7 0 = G 7 0 ∧ x.2 8 0 = G 8 0 ∧ x.2 9 0 = G 9 0) ∨
   (q.1 = -2 ∧ x.2 6 0 = 1 ∧ x.2 7 0 = G 7 0 ∧ x.2 8 0 = G 8 0 ∧ x.2 9 0 = G 9 0) ∨
   (q.1 = -3 ∧ x.2 6 0 = 2 ∧ x.2 7 0 = G 7 0 ∧ x.2 8 0 = G 8 0 ∧ x.2 9 0 = G 9 0) ∨
   (q.1 = -4 ∧ x.2 6 0 = t ∧ x.2 7 0 = q.2.1 ∧ x.2 8 0 = q.2.2.1 ∧ x.2 9 0 = 1))
theorem mRes.no {t : Int} {G : fS} : mRes t (kNo (mK (G 0))) G ((m_fails G 1).1, (m_fails G 1).2) := ⟨rfl, mQ.rf.gn (by omega), Or.inr (Or.inl ⟨rfl, rfl, rfl, rfl, rfl⟩)⟩
theorem mRes.ref {t w d : Int} {G : fS} : mRes t (kRef w d (mK (G 0))) G ((m_refuse G t w d).1, (m_refuse G t w d).2) := ⟨rfl, mQ.rf.ref, Or.inr (Or.inr (Or.inr ⟨rfl, rfl, rfl, rfl, rfl⟩))⟩
theorem mRes.ok {t a : Int} {K : fS} {G G' : fS} {x : Int} (hx : x = a) (ha : -1 ≤ a) (hK : mK (G' 0) = K) (hq : mQ G G') (h6 : G' 6 0 = G 6 0) (h7 : G' 7 0 = G 7 0) (h8 : G' 8 0 = G 8 0) (h9 : G' 9 0 = G 9 0) : mRes t (a, 0, 0, K) G (x, G') := ⟨hK, hq, Or.inl ⟨ha, hx, h6, h7, h8, h9⟩⟩
theorem mK_c {f f' : Int → Int} {n a : Int} (h0 : f 0 = n) (hn : 0 ≤ n ∧ n < 24) (hq : 0 ≤ f 1 ∧ f 1 ≤ 20) (e : ∀ j, j ≠ 0 → j ≠ 5 + n → j ≠ 29 + n → j ≠ 53 + n → j ≠ 77 + n → f' j = f j) (x0 : f' 0 = n + 1) (x1 : f' (5 + n) = a) (x2 : f' (29 + n) = -1) (x3 : f' (53 + n) = 0) (x4 : f' (77 + n) = 1) : mK f' = kAdd (mK f) a := by
  have e1 : f' 1 = f 1 := e 1 (by omega) (by omega) (by omega) (by omega) (by omega)
  funext i
  match i with
  | 0 =>
    funext x
    show (if 0 ≤ x ∧ x < f' 0 then f' (5 + x) else -1) = jfu (mK f 0) (mK f 6 0) a x
    have hm : mK f 6 0 = n := h0
    rw [x0]
    by_cases hx : x = n
    · rw [hx, if_pos (by omega), x1]
      rw [hm, jfu_s]
    · by_cases h2 : 0 ≤ x ∧ x < n
      · rw [if_pos (by omega), e _ (by omega) (by omega) (by omega) (by omega) (by omega)]
        rw [hm, jfu_n hx, mK_0 (by omega)]
      · rw [if_neg (by omega), hm, jfu_n hx]
        exact (if_neg (by omega)).symm
  | 1 =>
    funext x
    show (if 0 ≤ x ∧ x < f' 0 then f' (29 + x) else -1) = mK f 1 x
    have hm : mK f 6 0 = n := h0
    rw [x0]
    by_cases hx : x = n
    · rw [hx, if_pos (by omega), x2]
      exact (if_neg (by omega : ¬ (0 ≤ n ∧ n < f 0))).symm
    · by_cases h2 : 0 ≤ x ∧ x < n
      · rw [if_pos (by omega), e _ (by omega) (by omega) (by omega) (by omega) (by omega)]
        exact (mK_1 (by omega)).symm
      · rw [if_neg (by omega)]
        exact (if_neg (by omega)).symm
  | 2 =>
    funext x
    show (if 0 ≤ x ∧ x < f' 0 then f' (53 + x) else 0) = mK f 2 x
    have hm : mK f 6 0 = n := h0
    rw [x0]
    by_cases hx : x = n
    · rw [hx, if_pos (by omega), x3]
      exact (if_neg (by omega : ¬ (0 ≤ n ∧ n < f 0))).symm
    · by_cases h2 : 0 ≤ x ∧ x < n
      · rw [if_pos (by omega), e _ (by omega) (by omega) (by omega) (by omega) (by omega)]
        exact (mK_2 (by omega)).symm
      · rw [if_neg (by omega)]
        exact (if_neg (by omega)).symm
  | 3 =>
    funext x
    show (if 0 ≤ x ∧ x < f' 0 then f' (77 + x) else 0) = jfu (mK f 3) (mK f 6 0) 1 x
    have hm : mK f 6 0 = n := h0
    rw [x0]
    by_cases hx : x = n
    · rw [hx, if_pos (by omega), x4]
      rw [hm, jfu_s]
    · by_cases h2 : 0 ≤ x ∧ x < n
      · rw [if_pos (by omega), e _ (by omega) (by omega) (by omega) (by omega) (by omega)]
        rw [hm, jfu_n hx, mK_3 (by omega)]
      · rw [if_neg (by omega), hm, jfu_n hx]
        exact (if_neg (by omega)).symm
  | 4 =>
    funext x
    show (if 0 ≤ x ∧ x < f' 1 then f' (101 + 2 * x) else -1) = mK f 4 x
    rw [e1]
    by_cases hx : 0 ≤ x ∧ x < f 1
    · rw [if_pos hx, mK_4 hx]
      exact e _ (by omega) (by omega) (by omega) (by omega) (by omega)
    · rw [if_neg hx]
      exact (if_neg hx).symm
  | 5 =>
    funext x
    show (if 0 ≤ x ∧ x < f' 1 then f' (102 + 2 * x) else -1) = mK f 5 x
    rw [e1]
    by_cases hx : 0 ≤ x ∧ x < f 1
    · rw [if_pos hx, mK_5 hx]
      exact e _ (by omega) (by omega) (by omega) (by omega) (by omega)
    · rw [if_neg hx]
      exact (if_neg hx).symm
  | 6 => exact funext fun _ => by show f' 0 = f 0 + 1; rw [x0, h0]
  | 7 => exact funext fun _ => e1
  | 8 => exact funext fun _ => e 2 (by omega) (by omega) (by omega) (by omega) (by omega)
  | 9 => exact funext fun _ => e 3 (by omega) (by omega) (by omega) (by omega) (by omega)
  | 10 => exact funext fun _ => e 4 (by omega) (by omega) (by omega) (by omega) (by omega)
  | n + 11 => rfl
theorem mK_aq {f f' : Int → Int} {p q : Int} (hn : 0 ≤ f 0 ∧ f 0 ≤ 24) (hq : 0 ≤ f 1 ∧ f 1 < 20) (e : ∀ j, j ≠ 1 → j ≠ 101 + 2 * f 1 → j ≠ 102 + 2 * f 1 → f' j = f j) (x1 : f' 1 = f 1 + 1) (x2 : f' (101 + 2 * f 1) = p) (x3 : f' (102 + 2 * f 1) = q) : mK f' = kAddQ (mK f) p q := by
  have e0 : f' 0 = f 0 := e 0 (by omega) (by omega) (by omega)
  funext i
  match i with
  | 0 =>
    funext x
    show (if 0 ≤ x ∧ x < f' 0 then f' (5 + x) else -1) = mK f 0 x
    rw [e0]
    by_cases hx : 0 ≤ x ∧ x < f 0
    · rw [if_pos hx, mK_0 hx]
      exact e _ (by omega) (by omega) (by omega)
    · rw [if_neg hx]
      exact (if_neg hx).symm
  | 1 =>
    funext x
    show (if 0 ≤ x ∧ x < f' 0 then f' (29 + x) else -1) = mK f 1 x
    rw [e0]
    by_cases hx : 0 ≤ x ∧ x < f 0
    · rw [if_pos hx, mK_1 hx]
      exact e _ (by omega) (by omega) (by omega)
    · rw [if_neg hx]
      exact (if_neg hx).symm
  | 2 =>
    funext x
    show (if 0 ≤ x ∧ x < f' 0 then f' (53 + x) else 0) = mK f 2 x
    rw [e0]
    by_cases hx : 0 ≤ x ∧ x < f 0
    · rw [if_pos hx, mK_2 hx]
      exact e _ (by omega) (by omega) (by omega)
    · rw [if_neg hx]
      exact (if_neg hx).symm
  | 3 =>
    funext x
    show (if 0 ≤ x ∧ x < f' 0 then f' (77 + x) else 0) = mK f 3 x
    rw [e0]
    by_cases hx : 0 ≤ x ∧ x < f 0
    · rw [if_pos hx, mK_3 hx]
      exact e _ (by omega) (by omega) (by omega)
    · rw [if_neg hx]
      exact (if_neg hx).symm
  | 4 =>
    funext x
    show (if 0 ≤ x ∧ x < f' 1 then f' (101 + 2 * x) else -1) = jfu (mK f 4) (f 1) p x
    rw [x1]
    by_cases hx : x = f 1
    · rw [hx, if_pos (by omega), x2, jfu_s]
    · rw [jfu_n hx]
      by_cases h2 : 0 ≤ x ∧ x < f 1
      · rw [if_pos (by omega), mK_4 h2]
        exact e _ (by omega) (by omega) (by omega)
      · rw [if_neg (by omega)]
        exact (if_neg h2).symm
  | 5 =>
    funext x
    show (if 0 ≤ x ∧ x < f' 1 then f' (102 + 2 * x) else -1) = jfu (mK f 5) (f 1) q x
    rw [x1]
    by_cases hx : x = f 1
    · rw [hx, if_pos (by omega), x3, jfu_s]
    · rw [jfu_n hx]
      by_cases h2 : 0 ≤ x ∧ x < f 1
      · rw [if_pos (by omega), mK_5 h2]
        exact e _ (by omega) (by omega) (by omega)
      · rw [if_neg (by omega)]
        exact (if_neg h2).symm
  | 6 => exact funext fun _ => e0
  | 7 => exact funext fun _ => x1
  | 8 => exact funext fun _ => e 2 (by omega) (by omega) (by omega)
  | 9 => exact funext fun _ => e 3 (by omega) (by omega) (by omega)
  | 10 => exact funext fun _ => e 4 (by omega) (by omega) (by omega)
  | n + 11 => rfl
theorem m_comes_K {B : Int} {G : fS} {a : Int} (hO : jOk B (mK (G 0))) (hn : (G 0) 0 < 24) : mK ((m_comes G a).2 0) = kAdd (mK (G 0)) a := by
  have h0 := mK_n hO
  refine mK_c (n := (G 0) 0) rfl ⟨h0.1, hn⟩ (mK_q hO) (fun j j0 j1 j2 j3 j4 => ?_) ?_ ?_ ?_ ?_ ?_
  · show jfu _ 0 _ j = _
    rw [jfu_n j0, jfu_n j4, jfu_n j3, jfu_n j2, jfu_n j1]
  · have e : (m_comes G a).2 0 0 = (jfu (jfu (jfu (jfu (G 0) (5 + ((G 0) 0)) a) (29 + ((G 0) 0)) (-1)) (53 + ((G 0) 0)) 0) (77 + ((G 0) 0)) 1) 0 + 1 := jfu_s (f := (jfu (jfu (jfu (jfu (G 0) (5 + ((G 0) 0)) a) (29 + ((G 0) 0)) (-1)) (53 + ((G 0) 0)) 0) (77 + ((G 0) 0)) 1)) (i := 0) (x := (jfu (jfu (jfu (jfu (G 0) (5 + ((G 0) 0)) a) (29 + ((G 0) 0)) (-1)) (53 + ((G 0) 0)) 0) (77 + ((G 0) 0)) 1) 0 + 1)
    rw [e, jfu_n (by omega), jfu_n (by omega), jfu_n (by omega), jfu_n (by omega)]
  · show jfu _ 0 _ _ = _
    rw [jfu_n (by omega), jfu_n (by omega), jfu_n (by omega), jfu_n (by omega), jfu_s]
  · show jfu _ 0 _ _ = _
    rw [jfu_n (by omega), jfu_n (by omega), jfu_n (by omega), jfu_s]
  · show jfu _ 0 _ _ = _
    rw [jfu_n (by omega), jfu_n (by omega), jfu_s]
  · show jfu _ 0 _ _ = _
    rw [jfu_n (by omega), jfu_s]
theorem m_comes_R {B t : Int} {G : fS} {a : Int} (hO : jOk B (mK (G 0))) (hn : (G 0) 0 < 24) : mRes t ((G 0) 0, 0, 0, kAdd (mK (G 0)) a) G ((m_comes G a).1, (m_comes G a).2) :=
  mRes.ok rfl (by have := mK_n hO; omega) (m_comes_K hO hn) (by unfold m_comes; exact ((((mQ.rf.gs (by omega)).gs (by omega)).gs (by omega)).gs (by omega)).gs (by omega)) rfl rfl rfl rfl
theorem if_bi0 {α : Type} {c : Prop} [Decidable c] {a b : α} : (if bi c = 0 then a else b) = if c then b else a := by
  by_cases h : c
  · rw [if_pos h, if_neg (by rw [bi_t h]; decide)]
  · rw [if_neg h, if_pos (bi_f h)]
theorem m_doFound_K {B : Int} {G : fS} (h : kI B (mK (G 0))) : mRes 1 (kFound (mK (G 0))) G (m_doFound G) := by
  have hn := mK_n h.1
  unfold m_doFound kFound
  show mRes 1 (if (G 0) 0 = 24 then _ else _) G _
  by_cases h1 : (G 0) 0 = 24
  · rw [if_pos h1, if_pos h1]; exact mRes.ref
  · rw [if_neg h1, if_neg h1]; exact m_comes_R h.1 (by omega)
theorem m_doBorn_K {B : Int} {G : fS} {p : Int} (h : kI B (mK (G 0))) : mRes 2 (kBorn (mK (G 0)) p) G (m_doBorn G p) := by
  have hn := mK_n h.1
  unfold m_doBorn kBorn
  rw [if_bi0]
  show mRes 2 (if 0 ≤ p ∧ p < (G 0) 0 then (if mK (G 0) 3 p = 0 then kRef 2 p (mK (G 0)) else if (G 0) 0 = 24 then kRef 1 24 (mK (G 0)) else ((G 0) 0, 0, 0, kAdd (mK (G 0)) p)) else kNo (mK (G 0))) G _
  by_cases h0 : 0 ≤ p ∧ p < (G 0) 0
  · rw [if_pos h0, if_pos h0]
    by_cases h1 : mK (G 0) 3 p = 0
    · rw [if_pos h1, if_pos h1]; exact mRes.ref
    · rw [if_neg h1, if_neg h1]
      by_cases h2 : (G 0) 0 = 24
      · rw [if_pos h2, if_pos h2]; exact mRes.ref
      · rw [if_neg h2, if_neg h2]; exact m_comes_R h.1 (by omega)
  · rw [if_neg h0, if_neg h0]; exact mRes.no
theorem m_doCut_K {B : Int} {G : fS} {p : Int} (h : kI B (mK (G 0))) : mRes 2 (kCut (mK (G 0)) p) G (m_doCut G p) := by
  have hn := mK_n h.1
  unfold m_doCut kCut
  rw [if_bi0]
  show mRes 2 (if 0 ≤ p ∧ p < (G 0) 0 then _ else _) G _
  by_cases h0 : 0 ≤ p ∧ p < (G 0) 0
  · rw [if_pos h0, if_pos h0]
    have hp := h.1.p p
    by_cases h1 : mK (G 0) 0 p = -1
    · rw [if_pos h1, if_neg (by omega)]; exact mRes.ref
    · rw [if_neg h1, if_pos (by omega)]
      have e := mK_u0 (v := -1) hn (mK_q h.1) h0
      have e2 : csum (fun c => bi (mK (jfu (G 0) (5 + p) (-1)) 0 c = -1)) ((jfu (G 0) (5 + p) (-1)) 0).toNat = kOaks (kpar (mK (G 0)) p (-1)) := by
        rw [e, jfu_n (by omega)]
        rfl
      exact mRes.ok e2 (by have := csum_bi (P := fun c => kpar (mK (G 0)) p (-1) 0 c = -1) ((kpar (mK (G 0)) p (-1)) 6 0).toNat; unfold kOaks; omega) e (mQ.rf.gs (by omega)) rfl rfl rfl rfl
  · rw [if_neg h0, if_neg h0]; exact mRes.no
theorem m_doGraft_K {B : Int} {G : fS} {r p : Int} (h : kI B (mK (G 0))) : mRes 2 (kGraft (mK (G 0)) r p) G (m_doGraft G r p) := by
  have hn := mK_n h.1
  unfold m_doGraft kGraft
  rw [if_bi0, if_bi0]
  show mRes 2 (if (0 ≤ r ∧ r < (G 0) 0) ∧ (0 ≤ p ∧ p < (G 0) 0) then _ else _) G _
  by_cases h0 : 0 ≤ r ∧ r < (G 0) 0
  · rw [if_pos h0]
    by_cases h9 : 0 ≤ p ∧ p < (G 0) 0
    · rw [if_pos h9, if_pos ⟨h0, h9⟩]
      have hp := h.1.p r
      by_cases h1 : mK (G 0) 0 r ≠ -1
      · rw [if_pos h1, if_neg (by omega)]; exact mRes.ref
      · rw [if_neg h1, if_pos (show mK (G 0) 0 r < 0 by omega)]
        by_cases h2 : frt (mK (G 0)) p = r
        · rw [if_pos h2, if_pos h2]; exact mRes.ref
        · rw [if_neg h2, if_neg h2]
          have e : mK ((gs G 0 (jfu (G 0) (5 + r) p)) 0) = kpar (mK (G 0)) r p := mK_u0 hn (mK_q h.1) h0
          have hO : jOk B (mK ((gs G 0 (jfu (G 0) (5 + r) p)) 0)) := by rw [e]; exact jOk_par h.1 h0 (by show -1 ≤ p ∧ p < (G 0) 0; omega)
          obtain ⟨_, e3⟩ := m_endQ_K hO
          rw [e] at e3
          have e2 : csum (fun c => bi (mK (((m_endQ (gs G 0 (jfu (G 0) (5 + r) p))).2) 0) 0 c = -1)) ((((m_endQ (gs G 0 (jfu (G 0) (5 + r) p))).2) 0) 0).toNat = kOaks (kpar (mK (G 0)) r p) := by
            have e4 : (((m_endQ (gs G 0 (jfu (G 0) (5 + r) p))).2) 0) 0 = mK (((m_endQ (gs G 0 (jfu (G 0) (5 + r) p))).2) 0) 6 0 := rfl
            rw [e4, e3]
            rfl
          exact mRes.ok e2 (by have := csum_bi (P := fun c => kpar (mK (G 0)) r p 0 c = -1) ((kpar (mK (G 0)) r p) 6 0).toNat; unfold kOaks; omega) e3 (mQ.rf.gs (by omega)).endq rfl rfl rfl rfl
    · rw [if_neg h9, if_neg (fun q => h9 q.2)]; exact mRes.no
  · rw [if_neg h0, if_neg (fun q => h0 q.1)]; exact mRes.no
theorem m_canMarry_K {B : Int} {G : fS} {p o : Int} (h : kI B (mK (G 0))) (hp : 0 ≤ p ∧ p < (G 0) 0) (ho : 0 ≤ o ∧ o < (G 0) 0) : m_canMarry G p o = if (kWhy (mK (G 0)) p o).1 ≠ 0 then (0, (m_refuse G 2 (kWhy (mK (G 0)) p o).1 (kWhy (mK (G 0)) p o).2).2) else (1, G) := by
  have e1 := mK_1 hp
  have e2 := mK_1 ho
  have s1 := h.1.s p
  have s2 := h.1.s o
  unfold m_canMarry kWhy
  rw [← e1, ← e2]
  by_cases h1 : mK (G 0) 3 p = 0
  · rw [if_pos h1, if_pos h1, if_pos (show (2 : Int) ≠ 0 by decide)]
  rw [if_neg h1, if_neg h1]
  by_cases h2 : mK (G 0) 3 o = 0
  · rw [if_pos h2, if_pos h2, if_pos (show (2 : Int) ≠ 0 by decide)]
  rw [if_neg h2, if_neg h2]
  by_cases h3 : mK (G 0) 1 p ≠ -1
  · rw [if_pos h3, if_pos (show 0 ≤ mK (G 0) 1 p by omega), if_neg (show ¬ mK (G 0) 1 p < 0 by omega), if_pos (show (6 : Int) ≠ 0 by decide)]
  rw [if_neg h3, if_neg (show ¬ 0 ≤ mK (G 0) 1 p by omega)]
  by_cases h4 : mK (G 0) 1 o ≠ -1
  · rw [if_pos h4, if_neg (show ¬ mK (G 0) 1 o < 0 by omega), if_pos (show mK (G 0) 1 p < 0 by omega), if_pos (show (6 : Int) ≠ 0 by decide)]
  rw [if_neg h4, if_pos (show mK (G 0) 1 o < 0 by omega), if_bi0]
  by_cases h5 : frt (mK (G 0)) p = frt (mK (G 0)) o
  · rw [if_pos h5]
    by_cases h6 : faw (mK (G 0)) p o ≤ 4
    · rw [if_pos (show frt (mK (G 0)) p = frt (mK (G 0)) o ∧ faw (mK (G 0)) p o ≤ 4 from ⟨h5, h6⟩), if_neg (show ¬ 4 < faw (mK (G 0)) p o by omega), if_pos (show (7 : Int) ≠ 0 by decide)]
    · rw [if_neg (show ¬ (frt (mK (G 0)) p = frt (mK (G 0)) o ∧ faw (mK (G 0)) p o ≤ 4) from fun q => h6 q.2), if_pos (show 4 < faw (mK (G 0)) p o by omega), if_neg (show ¬ ((0 : Int) ≠ 0) by decide)]
  · rw [if_neg h5, if_neg (show ¬ (frt (mK (G 0)) p = frt (mK (G 0)) o ∧ faw (mK (G 0)) p o ≤ 4) from fun q => h5 q.1), if_neg (show ¬ ((0 : Int) ≠ 0) by decide)]
theorem mK_mar {f : Int → Int} {p o : Int} (hn : 0 ≤ f 0 ∧ f 0 ≤ 24) (hq : 0 ≤ f 1 ∧ f 1 ≤ 20) (hp : 0 ≤ p ∧ p < f 0) (ho : 0 ≤ o ∧ o < f 0) (v w : Int) : mK (jfu (jfu f (29 + p) v) (29 + o) w) = kspo (kspo (mK f) p v) o w := by
  have e0 : jfu f (29 + p) v 0 = f 0 := jfu_n (by omega)
  have e1 : jfu f (29 + p) v 1 = f 1 := jfu_n (by omega)
  rw [mK_u1 (by rw [e0]; exact hn) (by rw [e1]; exact hq) (by rw [e0]; exact ho), mK_u1 hn hq hp]
  rfl
theorem m_doMarry_K {B : Int} {G : fS} {p o : Int} (h : kI B (mK (G 0))) : mRes 2 (kMarry (mK (G 0)) p o) G (m_doMarry G p o) := by
  have hn := mK_n h.1
  unfold m_doMarry kMarry
  rw [if_bi0, if_bi0]
  show mRes 2 (if (0 ≤ p ∧ p < (G 0) 0) ∧ (0 ≤ o ∧ o < (G 0) 0) then _ else _) G _
  by_cases h0 : 0 ≤ p ∧ p < (G 0) 0
  · rw [if_pos h0]
    by_cases h9 : 0 ≤ o ∧ o < (G 0) 0
    · rw [if_pos h9, if_pos ⟨h0, h9⟩, m_canMarry_K h h0 h9]
      by_cases h1 : (kWhy (mK (G 0)) p o).1 ≠ 0
      · rw [if_pos h1, if_pos h1, if_pos rfl]; exact mRes.ref
      · rw [if_neg h1, if_neg h1, if_neg (show ¬ ((1 : Int) = 0) by decide)]
        have e : mK ((gs G 0 (jfu (jfu (G 0) (29 + p) o) (29 + o) p)) 0) = kMar (mK (G 0)) p o := mK_mar hn (mK_q h.1) h0 h9 o p
        obtain ⟨_, _, g2, g3, _⟩ := kWhy_0 h1
        have hO : jOk B (mK ((gs G 0 (jfu (jfu (G 0) (29 + p) o) (29 + o) p)) 0)) := by rw [e]; exact (kI_marry h h0 h9 g2 g3).1
        obtain ⟨e4, e3⟩ := m_endQ_K hO
        have hl := kfl_len hO
        rw [e] at e3 e4 hl
        exact mRes.ok e4 (by have hl : ((kfl (kMar (mK (G 0)) p o)).length : Int) ≤ (mK (G 0)) 7 0 := hl; omega) e3 (mQ.rf.gs (by omega)).endq rfl rfl rfl rfl
    · rw [if_neg h9, if_neg (fun q => h9 q.2)]; exact mRes.no
  · rw [if_neg h0, if_neg (fun q => h0 q.1)]; exact mRes.no
theorem mK_parts {B : Int} {f : Int → Int} {p : Int} (hO : jOk B (mK f)) (hp : 0 ≤ p ∧ p < f 0) (hs : 0 ≤ f (29 + p)) : mK (jfu (jfu f (29 + f (29 + p)) (-1)) (29 + p) (-1)) = kPart (mK f) p := by
  have e := mK_1 hp
  have s : mK f 1 p < f 0 := (hO.s p).2
  rw [mK_mar (mK_n hO) (mK_q hO) (by omega) hp, ← e]
  rfl
theorem m_doPart_K {B : Int} {G : fS} {p : Int} (h : kI B (mK (G 0))) : mRes 2 (kPartR (mK (G 0)) p) G (m_doPart G p) := by
  have hn := mK_n h.1
  unfold m_doPart kPartR
  rw [if_bi0]
  show mRes 2 (if 0 ≤ p ∧ p < (G 0) 0 then _ else _) G _
  by_cases h0 : 0 ≤ p ∧ p < (G 0) 0
  · rw [if_pos h0, if_pos h0]
    have hp := h.1.s p
    have e := mK_1 h0
    rw [← e]
    by_cases h1 : mK (G 0) 1 p = -1
    · rw [if_pos h1, if_neg (by omega)]; exact mRes.ref
    · rw [if_neg h1, if_pos (by omega)]
      exact mRes.ok rfl (by omega) (mK_parts h.1 h0 (by omega)) mQ.rf.parts rfl rfl rfl rfl
  · rw [if_neg h0, if_neg h0]; exact mRes.no
theorem m_doQuarrel_K {B : Int} {G : fS} {p o : Int} (h : kI B (mK (G 0))) : mRes 2 (kQuarrel (mK (G 0)) p o) G (m_doQuarrel G p o) := by
  have hn := mK_n h.1
  have hq := mK_q h.1
  unfold m_doQuarrel kQuarrel
  rw [if_bi0, if_bi0]
  show mRes 2 (if (0 ≤ p ∧ p < (G 0) 0) ∧ (0 ≤ o ∧ o < (G 0) 0) then (if mK (G 0) 3 p = 0 then kRef 2 p (mK (G 0)) else if mK (G 0) 3 o = 0 then kRef 2 o (mK (G 0)) else if fho (mK (G 0)) p = fho (mK (G 0)) o then kRef 9 (fho (mK (G 0)) p) (mK (G 0)) else if mdq (mK (G 0)) p o ((G 0) 1).toNat 0 = true then kRef 10 ((G 0) 1) (mK (G 0)) else if (G 0) 1 = 20 then kRef 1 20 (mK (G 0)) else ((G 0) 1 + 1, 0, 0, kAddQ (mK (G 0)) p o)) else kNo (mK (G 0))) G _
  by_cases h0 : 0 ≤ p ∧ p < (G 0) 0
  · rw [if_pos h0]
    by_cases h9 : 0 ≤ o ∧ o < (G 0) 0
    · rw [if_pos h9, if_pos ⟨h0, h9⟩]
      by_cases h1 : mK (G 0) 3 p = 0
      · rw [if_pos h1, if_pos h1]; exact mRes.ref
      rw [if_neg h1, if_neg h1]
      by_cases h2 : mK (G 0) 3 o = 0
      · rw [if_pos h2, if_pos h2]; exact mRes.ref
      rw [if_neg h2, if_neg h2]
      by_cases h3 : fho (mK (G 0)) p = fho (mK (G 0)) o
      · rw [if_pos h3, if_pos h3]
        exact ⟨rfl, mQ.rf.tells.tells.tells.ref, Or.inr (Or.inr (Or.inr ⟨rfl, rfl, rfl, rfl, rfl⟩))⟩
      rw [if_neg h3, if_neg h3]
      by_cases h4 : mdq (mK (G 0)) p o ((G 0) 1).toNat 0 = true
      · rw [if_pos h4, if_pos h4]
        exact ⟨rfl, mQ.rf.tells.tells.ref, Or.inr (Or.inr (Or.inr ⟨rfl, rfl, rfl, rfl, rfl⟩))⟩
      rw [if_neg h4, if_neg h4]
      by_cases h5 : (G 0) 1 = 20
      · rw [if_pos h5, if_pos h5]
        exact ⟨rfl, mQ.rf.tells.tells.ref, Or.inr (Or.inr (Or.inr ⟨rfl, rfl, rfl, rfl, rfl⟩))⟩
      rw [if_neg h5, if_neg h5]
      refine mRes.ok rfl (by omega) ?_ (mQ.rf.tells.tells.gs (by omega)) rfl rfl rfl rfl
      refine mK_aq hn ⟨hq.1, by omega⟩ (fun j j1 j2 j3 => ?_) ?_ ?_ ?_
      · show jfu _ 1 _ j = _
        rw [jfu_n j1, jfu_n (by omega), jfu_n j2]
      · have e : jfu (jfu (jfu (G 0) (101 + (2 * ((G 0) 1))) p) ((101 + (2 * ((G 0) 1))) + 1) o) 1 ((jfu (jfu (G 0) (101 + (2 * ((G 0) 1))) p) ((101 + (2 * ((G 0) 1))) + 1) o) 1 + 1) 1 = (jfu (jfu (G 0) (101 + (2 * ((G 0) 1))) p) ((101 + (2 * ((G 0) 1))) + 1) o) 1 + 1 := jfu_s
        exact e.trans (by rw [jfu_n (by omega), jfu_n (by omega)])
      · show jfu _ 1 _ _ = _
        rw [jfu_n (by omega), jfu_n (by omega), jfu_s]
      · show jfu _ 1 _ _ = _
        rw [jfu_n (by omega), show 102 + 2 * (G 0) 1 = 101 + 2 * (G 0) 1 + 1 by omega, jfu_s]
    · rw [if_neg h9, if_neg (fun q => h9 q.2)]; exact mRes.no
  · rw [if_neg h0, if_neg (fun q => h0 q.1)]; exact mRes.no
theorem m_doGive_K {B : Int} {G : fS} {p c : Int} (h : kI B (mK (G 0))) : mRes 3 (kGiveR (mK (G 0)) p c) G (m_doGive G p c) := by
  have hn := mK_n h.1
  unfold m_doGive kGiveR
  rw [if_bi0, if_bi0]
  show mRes 3 (if 0 ≤ p ∧ p < (G 0) 0 then _ else _) G _
  by_cases h0 : 0 ≤ p ∧ p < (G 0) 0
  · rw [if_pos h0, if_pos h0]
    by_cases h1 : 1 ≤ c ∧ c ≤ 999
    · rw [if_pos h1, if_pos h1]
      by_cases h2 : mK (G 0) 3 p = 0
      · rw [if_pos h2, if_pos h2]; exact mRes.ref
      rw [if_neg h2, if_neg h2]
      have e := mK_2 h0
      have hc := h.1.c p
      refine mRes.ok ?_ (by omega) ?_ (mQ.rf.gs (by omega)) rfl rfl rfl rfl
      · rw [jfu_n (by omega), jfu_s, e]
      · show mK (jfu (jfu (G 0) (53 + p) (G 0 (53 + p) + c)) 3 (jfu (G 0) (53 + p) (G 0 (53 + p) + c) 3 + c)) = _
        rw [mK_w3, mK_u2 hn (mK_q h.1) h0, jfu_n (by omega), ← e]
        rfl
    · rw [if_neg h1, if_neg h1]
      exact ⟨rfl, mQ.rf.gn (by omega), Or.inr (Or.inr (Or.inl ⟨rfl, rfl, rfl, rfl, rfl⟩))⟩
  · rw [if_neg h0, if_neg h0]; exact mRes.no
theorem mK_pass {B : Int} {f : Int → Int} {p e : Int} (hO : jOk B (mK f)) (hp : 0 ≤ p ∧ p < f 0) (he : -1 ≤ e ∧ e < f 0) : mK (jfu (jfu f (53 + p) 0) (if e < 0 then 4 else 53 + e) (jfu f (53 + p) 0 (if e < 0 then 4 else 53 + e) + f (53 + p))) = kPass (mK f) p e := by
  have hn := mK_n hO
  have hq := mK_q hO
  have e2 := mK_2 hp
  have x0 : jfu f (53 + p) 0 0 = f 0 := jfu_n (by omega)
  have x1 : jfu f (53 + p) 0 1 = f 1 := jfu_n (by omega)
  unfold kPass
  by_cases h0 : e < 0
  · rw [if_pos h0, if_pos h0, mK_w4, mK_u2 hn hq hp, jfu_n (by omega), ← e2]
    rfl
  · rw [if_neg h0, if_neg h0, mK_u2 (by rw [x0]; exact hn) (by rw [x1]; exact hq) (by rw [x0]; omega), mK_u2 hn hq hp]
    have e3 : jfu f (53 + p) 0 (53 + e) = jfu (mK f 2) p 0 e := by
      by_cases hep : e = p
      · rw [hep, jfu_s, jfu_s]
      · rw [jfu_n (by omega), jfu_n hep, mK_2 (by omega)]
    rw [e3, ← e2]
    rfl
theorem m_doDie_K {B : Int} {G : fS} {p : Int} (h : kI B (mK (G 0))) : mRes 2 (kDieR (mK (G 0)) p) G (m_doDie G p) := by
  have hn := mK_n h.1
  have hq := mK_q h.1
  unfold m_doDie kDieR
  rw [if_bi0]
  show mRes 2 (if 0 ≤ p ∧ p < (G 0) 0 then _ else _) G _
  by_cases h0 : 0 ≤ p ∧ p < (G 0) 0
  · rw [if_pos h0, if_pos h0]
    by_cases h2 : mK (G 0) 3 p = 0
    · rw [if_pos h2, if_pos h2]; exact mRes.ref
    rw [if_neg h2, if_neg h2]
    have he : -1 ≤ fhe (mK (G 0)) p ∧ fhe (mK (G 0)) p < (G 0) 0 := fhe_rg h.1 h.2.1 h0
    have hk := mK_pass h.1 h0 he
    have hO := (kPass_ok h.1 h.2.2.2 h0 he).1
    rw [← hk] at hO
    -- the two ways to pass coins, as one
    have hform : ∀ (J : Int) (hJ : J = if fhe (mK (G 0)) p < 0 then 4 else 53 + fhe (mK (G 0)) p), mRes 2 (fhe (mK (G 0)) p, 0, 0, kDie (mK (G 0)) p) G
        (if (jfu (jfu (G 0) (53 + p) 0) J (jfu (G 0) (53 + p) 0 J + (G 0) (53 + p))) (29 + p) < 0 then (fhe (mK (G 0)) p, gs (m_rows G p) 0 (jfu (jfu (jfu (G 0) (53 + p) 0) J (jfu (G 0) (53 + p) 0 J + (G 0) (53 + p))) (77 + p) 0))
         else (fhe (mK (G 0)) p, gs (m_parts (gs (m_rows G p) 0 (jfu (jfu (G 0) (53 + p) 0) J (jfu (G 0) (53 + p) 0 J + (G 0) (53 + p)))) p) 0 (jfu ((m_parts (gs (m_rows G p) 0 (jfu (jfu (G 0) (53 + p) 0) J (jfu (G 0) (53 + p) 0 J + (G 0) (53 + p)))) p) 0) (77 + p) 0))) := by
      intro J hJ
      rw [← hJ] at hk hO
      have hJ2 : J = 4 ∨ (53 ≤ J ∧ J < 77) := by
        rw [hJ]
        split
        · exact Or.inl rfl
        · exact Or.inr (by omega)
      generalize hR : jfu (jfu (G 0) (53 + p) 0) J (jfu (G 0) (53 + p) 0 J + (G 0) (53 + p)) = R at hk hO ⊢
      have r0 : R 0 = (G 0) 0 := by rw [← hR]; exact (jfu_n (by omega)).trans (jfu_n (by omega))
      have r1 : R 1 = (G 0) 1 := by rw [← hR]; exact (jfu_n (by omega)).trans (jfu_n (by omega))
      have r29 : R (29 + p) = (G 0) (29 + p) := by rw [← hR]; exact (jfu_n (by omega)).trans (jfu_n (by omega))
      have e29 := mK_1 h0
      obtain ⟨t1, t2, t3, t4⟩ := kPass_1 (K := mK (G 0)) (p := p) (e := fhe (mK (G 0)) p)
      unfold kDie
      rw [r29, ← e29]
      by_cases h5 : mK (G 0) 1 p < 0
      · rw [if_pos h5, if_pos h5]
        refine mRes.ok rfl he.1 ?_ (mQ.rf.rows.gs (by omega)) rfl rfl rfl rfl
        show mK (jfu R (77 + p) 0) = _
        rw [mK_u3 (by rw [r0]; exact hn) (by rw [r1]; exact hq) (by rw [r0]; exact h0), hk]
        rfl
      · rw [if_neg h5, if_neg h5]
        refine mRes.ok rfl he.1 ?_ ((mQ.rf.rows.gs (by omega)).parts.gs (by omega)) rfl rfl rfl rfl
        show mK (jfu (jfu (jfu R (29 + R (29 + p)) (-1)) (29 + p) (-1)) (77 + p) 0) = _
        have hs := h.1.s p
        have e9 := mK_parts hO (p := p) (by rw [r0]; exact h0) (by rw [r29, ← e29]; omega)
        have hr : 0 ≤ R (29 + p) ∧ R (29 + p) < 24 := by rw [r29, ← e29]; have : mK (G 0) 1 p < (G 0) 0 := hs.2; omega
        have y0 : jfu (jfu R (29 + R (29 + p)) (-1)) (29 + p) (-1) 0 = (G 0) 0 := ((jfu_n (by omega)).trans (jfu_n (by omega))).trans r0
        have y1 : jfu (jfu R (29 + R (29 + p)) (-1)) (29 + p) (-1) 1 = (G 0) 1 := ((jfu_n (by omega)).trans (jfu_n (by omega))).trans r1
        rw [mK_u3 (by rw [y0]; exact hn) (by rw [y1]; exact hq) (by rw [y0]; exact h0), e9, hk]
        rfl
    by_cases h4 : 0 ≤ fhe (mK (G 0)) p
    · rw [if_pos h4]
      exact hform (53 + fhe (mK (G 0)) p) (by rw [if_neg (by omega)])
    · rw [if_neg h4]
      exact hform 4 (by rw [if_pos (by omega)])
  · rw [if_neg h0, if_neg h0]; exact mRes.no
