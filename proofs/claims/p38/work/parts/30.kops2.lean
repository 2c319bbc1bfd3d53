/-! quarrels as a list -/
def qL (a b : Int → Int) : Nat → Int → List (Int × Int)
  | 0, _ => []
  | k + 1, i => (a i, b i) :: qL a b k (i + 1)
def qA (l : List (Int × Int)) (i : Int) : Int := if 0 ≤ i then ((l[i.toNat]?).map Prod.fst).getD (-1) else -1
def qB (l : List (Int × Int)) (i : Int) : Int := if 0 ≤ i then ((l[i.toNat]?).map Prod.snd).getD (-1) else -1
theorem qL_len (a b : Int → Int) : ∀ (k : Nat) (i : Int), (qL a b k i).length = k
  | 0, _ => rfl
  | k + 1, i => congrArg (· + 1) (qL_len a b k (i + 1))
theorem qL_at (a b : Int → Int) : ∀ (k : Nat) (i : Int) (j : Nat), j < k → (qL a b k i)[j]? = some (a (i + j), b (i + j))
  | 0, _, _, h => absurd h (Nat.not_lt_zero _)
  | k + 1, i, 0, _ => by
    show some (a i, b i) = some (a (i + (0 : Nat)), b (i + (0 : Nat)))
    rw [show i + ((0 : Nat) : Int) = i by omega]
  | k + 1, i, j + 1, h => by
    show (qL a b k (i + 1))[j]? = _
    rw [qL_at a b k (i + 1) j (by omega), show i + 1 + (j : Int) = i + ((j + 1 : Nat) : Int) by omega]
theorem qL_re {a b a' b' : Int → Int} : ∀ (k : Nat) (i : Int), (∀ j, i ≤ j → j < i + k → a j = a' j ∧ b j = b' j) → qL a b k i = qL a' b' k i
  | 0, _, _ => rfl
  | k + 1, i, h => by
    show (a i, b i) :: qL a b k (i + 1) = (a' i, b' i) :: qL a' b' k (i + 1)
    obtain ⟨e1, e2⟩ := h i (Int.le_refl _) (by omega)
    rw [e1, e2, qL_re k (i + 1) fun j h0 h1 => h j (by omega) (by omega)]
theorem qL_mem {a b : Int → Int} {z : Int × Int} : ∀ (k : Nat) (i : Int), z ∈ qL a b k i → ∃ j, i ≤ j ∧ j < i + k ∧ z = (a j, b j)
  | 0, _, h => by cases h
  | k + 1, i, h => by
    rcases List.mem_cons.mp h with q | q
    · exact ⟨i, by omega, by omega, q⟩
    · obtain ⟨j, h0, h1, h2⟩ := qL_mem k (i + 1) q
      exact ⟨j, by omega, by omega, h2⟩
def kq (K : fS) (l : List (Int × Int)) : fS := gn (gs (gs K 4 (qA l)) 5 (qB l)) 7 l.length
def hne (H : Int → Int) (z : Int × Int) : Bool := !decide (H z.1 = H z.2)
theorem hne_t {H : Int → Int} {z : Int × Int} (h : ¬ H z.1 = H z.2) : hne H z = true := by unfold hne; rw [decide_eq_false h]; rfl
theorem hne_f {H : Int → Int} {z : Int × Int} (h : H z.1 = H z.2) : hne H z = false := by unfold hne; rw [decide_eq_true h]; rfl
theorem meq_spec (H : Int → Int) : ∀ (k : Nat) (q to : Int) (f : Int → Int), 0 ≤ to → to ≤ q →
    (meq H k q to f).1 = to + (((qL (fun i => f (101 + 2 * i)) (fun i => f (101 + 2 * i + 1)) k q).filter (hne H)).length : Int) ∧
    (∀ j, j < 101 + 2 * to → (meq H k q to f).2 j = f j) ∧
    ∀ (i : Nat) (z : Int × Int), ((qL (fun i => f (101 + 2 * i)) (fun i => f (101 + 2 * i + 1)) k q).filter (hne H))[i]? = some z → (meq H k q to f).2 (101 + 2 * (to + i)) = z.1 ∧ (meq H k q to f).2 (101 + 2 * (to + i) + 1) = z.2
  | 0, q, to, f, _, _ => ⟨by show to = to + ((0 : Nat) : Int); omega, fun _ _ => rfl, fun i z h => by simp [qL] at h⟩
  | k + 1, q, to, f, h0, h1 => by
    by_cases hq : H (f (101 + 2 * q)) = H (f (101 + 2 * q + 1))
    · have e : (qL (fun i => f (101 + 2 * i)) (fun i => f (101 + 2 * i + 1)) (k + 1) q).filter (hne H) = (qL (fun i => f (101 + 2 * i)) (fun i => f (101 + 2 * i + 1)) k (q + 1)).filter (hne H) := by
        show List.filter (hne H) (_ :: _) = _
        rw [List.filter_cons_of_neg]
        rw [hne_f hq]
        decide
      rw [e, meq_e hq]
      exact meq_spec H k (q + 1) to f h0 (by omega)
    · have e : (qL (fun i => f (101 + 2 * i)) (fun i => f (101 + 2 * i + 1)) (k + 1) q).filter (hne H) = (f (101 + 2 * q), f (101 + 2 * q + 1)) :: (qL (fun i => f (101 + 2 * i)) (fun i => f (101 + 2 * i + 1)) k (q + 1)).filter (hne H) := by
        show List.filter (hne H) (_ :: _) = _
        rw [List.filter_cons_of_pos]
        exact hne_t hq
      have e2 : qL (fun i => jfu (jfu f (101 + 2 * to) (f (101 + 2 * q))) (101 + 2 * to + 1) (f (101 + 2 * q + 1)) (101 + 2 * i)) (fun i => jfu (jfu f (101 + 2 * to) (f (101 + 2 * q))) (101 + 2 * to + 1) (f (101 + 2 * q + 1)) (101 + 2 * i + 1)) k (q + 1) = qL (fun i => f (101 + 2 * i)) (fun i => f (101 + 2 * i + 1)) k (q + 1) :=
        qL_re k (q + 1) fun j j0 j1 => ⟨(jfu_n (by omega)).trans (jfu_n (by omega)), (jfu_n (by omega)).trans (jfu_n (by omega))⟩
      obtain ⟨s1, s2, s3⟩ := meq_spec H k (q + 1) (to + 1) (jfu (jfu f (101 + 2 * to) (f (101 + 2 * q))) (101 + 2 * to + 1) (f (101 + 2 * q + 1))) (by omega) (by omega)
      rw [e2] at s1 s3
      rw [e, meq_n hq]
      refine ⟨by rw [s1, List.length_cons]; omega, fun j hj => by rw [s2 j (by omega), jfu_n (by omega), jfu_n (by omega)], fun i z hz => ?_⟩
      cases i with
      | zero =>
        have : (f (101 + 2 * q), f (101 + 2 * q + 1)) = z := by simpa using hz
        subst this
        rw [show to + ((0 : Nat) : Int) = to by omega, s2 _ (by omega), s2 _ (by omega), jfu_s, jfu_n (by omega), jfu_s]
        exact ⟨rfl, rfl⟩
      | succ i =>
        have := s3 i z (by simpa using hz)
        rw [show to + ((i + 1 : Nat) : Int) = to + 1 + (i : Int) by omega]
        exact this
/-- the quarrels that stay -/
noncomputable def kfl (K : fS) : List (Int × Int) := (qL (K 4) (K 5) (K 7 0).toNat 0).filter (hne (fho K))
noncomputable def kEnd (K : fS) : fS := gn (kq K (kfl K)) 8 (K 8 0 + (K 7 0 - ((kfl K).length : Int)))
theorem kfl_len {B : Int} {K : fS} (hO : jOk B K) : ((kfl K).length : Int) ≤ K 7 0 := by
  have h := List.length_filter_le (hne (fho K)) (qL (K 4) (K 5) (K 7 0).toNat 0)
  rw [qL_len] at h
  have := hO.q
  unfold kfl
  omega
theorem qA_at {l : List (Int × Int)} {i : Int} (h : 0 ≤ i) {z : Int × Int} (hz : l[i.toNat]? = some z) : qA l i = z.1 ∧ qB l i = z.2 := by
  unfold qA qB
  rw [if_pos h, if_pos h, hz]
  exact ⟨rfl, rfl⟩
theorem qA_out {l : List (Int × Int)} {i : Int} (h : ¬ (0 ≤ i ∧ i < l.length)) : qA l i = -1 ∧ qB l i = -1 := by
  unfold qA qB
  by_cases h0 : 0 ≤ i
  · rw [if_pos h0, if_pos h0, List.getElem?_eq_none (by omega)]
    exact ⟨rfl, rfl⟩
  · rw [if_neg h0, if_neg h0]
    exact ⟨rfl, rfl⟩
theorem jOk_q {B B' : Int} {K : fS} {l : List (Int × Int)} {e : Int} (h : jOk B K) (hl : l.length ≤ 20) (hm : ∀ z ∈ l, (0 ≤ z.1 ∧ z.1 < K 6 0) ∧ (0 ≤ z.2 ∧ z.2 < K 6 0)) (hB : B ≤ B' ∧ B' ≤ 20000000) (he : 0 ≤ e ∧ e ≤ B') : jOk B' (gn (kq K l) 8 e) := by
  obtain ⟨a1, a2, a3, a4, a5, a6, a7, a8, a9, a10, a11, a12⟩ := h
  refine ⟨a1, ⟨by show 0 ≤ (l.length : Int); omega, by show (l.length : Int) ≤ 20; omega⟩, a3, a4, a5, fun i => ⟨(a6 i).1, Int.le_trans (a6 i).2 hB.1⟩, a7, fun i h0 h1 => ?_, he, ⟨a10.1, Int.le_trans a10.2 hB.1⟩, ⟨a11.1, Int.le_trans a11.2 hB.1⟩, hB.2⟩
  have h1 : i < (l.length : Int) := h1
  have hz : l[i.toNat]? = some l[i.toNat] := List.getElem?_eq_getElem (by omega)
  obtain ⟨e1, e2⟩ := qA_at h0 hz
  have := hm _ (List.mem_of_getElem? hz)
  show (0 ≤ qA l i ∧ qA l i < K 6 0) ∧ (0 ≤ qB l i ∧ qB l i < K 6 0)
  rw [e1, e2]
  exact this
theorem kfl_mem {B : Int} {K : fS} (hO : jOk B K) : ∀ z ∈ kfl K, (0 ≤ z.1 ∧ z.1 < K 6 0) ∧ (0 ≤ z.2 ∧ z.2 < K 6 0) := by
  intro z hz
  obtain ⟨j, h0, h1, h2⟩ := qL_mem _ _ (List.mem_filter.mp hz).1
  have := hO.q
  rw [h2]
  exact hO.qq j (by omega) (by omega)
theorem jOk_end {B : Int} {K : fS} (hO : jOk B K) (hB : B + 20 ≤ 20000000) : jOk (B + 20) (kEnd K) := by
  have h1 := kfl_len hO
  have h2 := hO.q
  have h3 := hO.e
  exact jOk_q hO (by omega) (kfl_mem hO) ⟨by omega, hB⟩ ⟨by omega, by omega⟩
theorem m_endQ_K {B : Int} {G : fS} (hO : jOk B (mK (G 0))) : (m_endQ G).1 = mK (G 0) 7 0 - ((kfl (mK (G 0))).length : Int) ∧ mK ((m_endQ G).2 0) = kEnd (mK (G 0)) := by
  have hn := mK_n hO
  have hq := mK_q hO
  have ec : (qL (fun i => G 0 (101 + 2 * i)) (fun i => G 0 (101 + 2 * i + 1)) (G 0 1).toNat 0).filter (hne (m_hrow G)) = kfl (mK (G 0)) := by
    have e1 : qL (fun i => G 0 (101 + 2 * i)) (fun i => G 0 (101 + 2 * i + 1)) (G 0 1).toNat 0 = qL (mK (G 0) 4) (mK (G 0) 5) (G 0 1).toNat 0 :=
      qL_re _ _ fun j j0 j1 => ⟨(mK_4 ⟨j0, by omega⟩).symm, (congrArg (G 0) (by omega : 101 + 2 * j + 1 = 102 + 2 * j)).trans (mK_5 ⟨j0, by omega⟩).symm⟩
    rw [e1]
    show List.filter _ _ = List.filter _ (qL (mK (G 0) 4) (mK (G 0) 5) (G 0 1).toNat 0)
    refine List.filter_congr fun z hz => ?_
    obtain ⟨j, h0, h1, h2⟩ := qL_mem _ _ hz
    have q := hO.qq j (by omega) (by show j < G 0 1; omega)
    unfold hne
    rw [h2]
    dsimp only
    rw [m_hrow_in q.1, m_hrow_in q.2]
  obtain ⟨s1, s2, s3⟩ := meq_spec (m_hrow G) (G 0 1).toNat 0 0 (G 0) (Int.le_refl _) (Int.le_refl _)
  rw [ec] at s1 s3
  have s1 : (meq (m_hrow G) (G 0 1).toNat 0 0 (G 0)).1 = ((kfl (mK (G 0))).length : Int) := by rw [s1]; omega
  have hl := kfl_len hO
  have hl : ((kfl (mK (G 0))).length : Int) ≤ G 0 1 := hl
  refine ⟨by show G 0 1 - (meq (m_hrow G) (G 0 1).toNat 0 0 (G 0)).1 = G 0 1 - _; rw [s1], ?_⟩
  show mK (jfu (jfu (meq (m_hrow G) (G 0 1).toNat 0 0 (G 0)).2 1 (meq (m_hrow G) (G 0 1).toNat 0 0 (G 0)).1) 2 (jfu (meq (m_hrow G) (G 0 1).toNat 0 0 (G 0)).2 1 (meq (m_hrow G) (G 0 1).toNat 0 0 (G 0)).1 2 + (G 0 1 - (meq (m_hrow G) (G 0 1).toNat 0 0 (G 0)).1))) = _
  rw [s1, jfu_n (show (2 : Int) ≠ 1 by omega), s2 2 (by omega)]
  generalize (meq (m_hrow G) (G 0 1).toNat 0 0 (G 0)).2 = r at s2 s3
  have x0 : ∀ j : Int, j ≠ 1 → j ≠ 2 → jfu (jfu r 1 ((kfl (mK (G 0))).length : Int)) 2 (G 0 2 + (G 0 1 - ((kfl (mK (G 0))).length : Int))) j = r j := fun j h1 h2 => (jfu_n h2).trans (jfu_n h1)
  have y0 : jfu (jfu r 1 ((kfl (mK (G 0))).length : Int)) 2 (G 0 2 + (G 0 1 - ((kfl (mK (G 0))).length : Int))) 0 = G 0 0 := (x0 0 (by omega) (by omega)).trans (s2 0 (by omega))
  have y1 : jfu (jfu r 1 ((kfl (mK (G 0))).length : Int)) 2 (G 0 2 + (G 0 1 - ((kfl (mK (G 0))).length : Int))) 1 = ((kfl (mK (G 0))).length : Int) := (jfu_n (by omega)).trans jfu_s
  generalize hR : jfu (jfu r 1 ((kfl (mK (G 0))).length : Int)) 2 (G 0 2 + (G 0 1 - ((kfl (mK (G 0))).length : Int))) = R at *
  have y2 : R 2 = G 0 2 + (G 0 1 - ((kfl (mK (G 0))).length : Int)) := by rw [← hR]; exact jfu_s
  have lo : ∀ (o : Int) (d : Int) (x : Int), 3 ≤ o → (0 ≤ x ∧ x < G 0 0 → o + x < 101) → (if 0 ≤ x ∧ x < R 0 then R (o + x) else d) = (if 0 ≤ x ∧ x < G 0 0 then G 0 (o + x) else d) := by
    intro o d x h0 h1
    rw [y0]
    by_cases hx : 0 ≤ x ∧ x < G 0 0
    · rw [if_pos hx, if_pos hx, x0 _ (by omega) (by omega)]
      exact s2 _ (by have := h1 hx; omega)
    · rw [if_neg hx, if_neg hx]
  funext i
  match i with
  | 0 => exact funext fun x => lo 5 (-1) x (by omega) (by omega)
  | 1 => exact funext fun x => lo 29 (-1) x (by omega) (by omega)
  | 2 => exact funext fun x => lo 53 0 x (by omega) (by omega)
  | 3 => exact funext fun x => lo 77 0 x (by omega) (by omega)
  | 4 =>
    funext x
    show (if 0 ≤ x ∧ x < R 1 then R (101 + 2 * x) else -1) = qA (kfl (mK (G 0))) x
    rw [y1]
    by_cases hx : 0 ≤ x ∧ x < ((kfl (mK (G 0))).length : Int)
    · have hz : (kfl (mK (G 0)))[x.toNat]? = some (kfl (mK (G 0)))[x.toNat] := List.getElem?_eq_getElem (by omega)
      rw [if_pos hx, (qA_at hx.1 hz).1, x0 _ (by omega) (by omega)]
      have := (s3 x.toNat _ hz).1
      rw [show 101 + 2 * ((0 : Int) + (x.toNat : Int)) = 101 + 2 * x by omega] at this
      exact this
    · rw [if_neg hx, (qA_out hx).1]
  | 5 =>
    funext x
    show (if 0 ≤ x ∧ x < R 1 then R (102 + 2 * x) else -1) = qB (kfl (mK (G 0))) x
    rw [y1]
    by_cases hx : 0 ≤ x ∧ x < ((kfl (mK (G 0))).length : Int)
    · have hz : (kfl (mK (G 0)))[x.toNat]? = some (kfl (mK (G 0)))[x.toNat] := List.getElem?_eq_getElem (by omega)
      rw [if_pos hx, (qA_at hx.1 hz).2, x0 _ (by omega) (by omega)]
      have := (s3 x.toNat _ hz).2
      rw [show 101 + 2 * ((0 : Int) + (x.toNat : Int)) + 1 = 102 + 2 * x by omega] at this
      exact this
    · rw [if_neg hx, (qA_out hx).2]
  | 6 => exact funext fun _ => y0
  | 7 => exact funext fun _ => y1
  | 8 => exact funext fun _ => y2
  | 9 => exact funext fun _ => (x0 3 (by omega) (by omega)).trans (s2 3 (by omega))
  | 10 => exact funext fun _ => (x0 4 (by omega) (by omega)).trans (s2 4 (by omega))
  | n + 11 => rfl
