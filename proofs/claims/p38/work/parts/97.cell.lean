theorem wd97_268 : (Jvm.Cond.constant "FamilyOaksLaw" (7 : Nat) (40503 : Int32)) ∈ jWL := jw_mem 268 (by decide +kernel) (by decide +kernel)
/-! THE SCRIPT'S CELL; and what the check of pairs rests on -/
theorem iv_r (x : Int) : iv x = iv (Int32.ofInt x).toInt := by unfold iv; rw [Int32.ofInt_toInt]
theorem i32_r (x : Int) : r32 (Int32.ofInt x).toInt := by
  have h1 := Int32.le_toInt (Int32.ofInt x)
  have h2 := Int32.toInt_lt (Int32.ofInt x)
  unfold r32
  omega
theorem m_cell {Ln : Nat} {xs : Nat → Int32} {h : jH} {i : Int} (hi : 0 ≤ i ∧ i ≤ 100) (hL : Ln ≤ 2048) : jMF mL_cell Ln xs 0 0 0 [] [.ref 150, iv i] h (fun r h' => h = h' ∧ ∃ x, r = some (iv x) ∧ r32 x) jno := by
  refine j_methodF (by decide +kernel) rfl (Nat.le_of_ble_eq_true rfl) ?_
  generalize hZ : jZ [] 0 0 _ _ = Z
  show J (pMe mL_cell Ln xs) (jR 0 0 0) [] Z 0 [(0, .ref 150), (1, iv i)] [] h 0 0
  refine j_iload_n dL_cell_0 rfl rfl ?_
  refine j_aload_n dL_cell_1 rfl rfl ?_
  refine j_sarl dL_cell_2 (pNw.of rfl) ?_
  refine j_icmp_ge (tgt := 12) dL_cell_3 (by decide) (by omega) (fun c3 => ?_) (fun c3 => ?_)
  · refine j_ldcI (n := 40503) dL_cell_12 wd97_268 ?_
    refine j_iload_n dL_cell_14 rfl rfl ?_
    refine j_imul dL_cell_15 ?_
    subst hZ
    rw [iv_r (40503 * i)]
    exact j_ireturn dL_cell_16 rfl rfl ⟨rfl, _, rfl, i32_r (40503 * i)⟩ (Nat.le_refl _) (Nat.le_refl _)
  · refine j_aload_n dL_cell_6 rfl rfl ?_
    refine j_iload_n dL_cell_7 rfl rfl ?_
    refine j_sarr dL_cell_8 (pNw.of rfl) (by omega) hL ?_
    refine j_goto (tgt := 16) dL_cell_9 (by decide) ?_
    subst hZ
    exact j_ireturn dL_cell_16 rfl rfl ⟨rfl, _, rfl, sc_r xs i⟩ (Nat.le_refl _) (Nat.le_refl _)
theorem fab_dep {B : Int} {F : fS} (hO : jOk B F) (hA : fAc F) {a x : Int} (ha : a ≠ -1) (h : fab F a x = true) : fdep F a ≤ fdep F x ∧ (fdep F a = fdep F x → a = x) := by
  obtain ⟨j, hj⟩ := (fab_iff hO hA ha).mp h
  have := fdep_up hO hA j x (by rw [hj]; exact ha)
  rw [hj] at this
  refine ⟨by omega, fun e => ?_⟩
  have j0 : j = 0 := by omega
  rw [j0] at hj
  exact hj.symm
theorem cm_st {B : Int} {F : fS} (hO : jOk B F) (hA : fAc F) {a b : Int} (ha : a ≠ -1) (h : ¬ fab F a b = true) : cmE F a b (F 0 a) b := fun x hx => by
  rw [fab_st hO hA (a := x) ha]
  by_cases e : a = x
  · subst e
    exact ⟨fun q => absurd q.2 h, fun q => absurd q.2 h⟩
  · rw [decide_eq_false e, Bool.false_or]
/-- two on one oak, on the way up: how it stands -/
def pSt (F : fS) (p q u o s : Int) : Prop := (0 ≤ u ∧ u < F 6 0) ∧ (0 ≤ o ∧ o < F 6 0) ∧ frt F u = frt F o ∧ cmE F p q u o ∧ 0 ≤ s ∧ s + 2 * (fdep F u + fdep F o) + s % 2 ≤ 2 * (fdep F p + fdep F q)
theorem pSt.z {F : fS} {p q : Int} (hp : 0 ≤ p ∧ p < F 6 0) (hq : 0 ≤ q ∧ q < F 6 0) (he : frt F p = frt F q) : pSt F p q p q 0 := ⟨hp, hq, he, cmE.rf, by omega, by omega⟩
theorem pSt.b {F : fS} {p q u o s : Int} (h : pSt F p q u o s) : 0 ≤ s ∧ s ≤ 96 := by
  have h1 := fdep_rg F p
  have h2 := fdep_rg F q
  have h3 := fdep_rg F u
  have h4 := fdep_rg F o
  have h5 := h.2.2.2.2
  omega
theorem pSt.e {B : Int} {F : fS} (hO : jOk B F) (hA : fAc F) {p q u s : Int} (hp : 0 ≤ p) (hq : 0 ≤ q) (he : frt F p = frt F q) (h : pSt F p q u u s) : u = flc F p q :=
  (h.2.2.2.1.L (isL_same hO hA (show u ≠ -1 by have := h.1; omega))).eq hO hA (flc_L hO hA hp hq he)
/-- not both at the top -/
theorem pSt.t {B : Int} {F : fS} (hO : jOk B F) (hA : fAc F) {p q u o s : Int} (h : pSt F p q u o s) (hd : fdep F o ≤ fdep F u) (hne : u ≠ o) : F 0 u ≠ -1 := fun e => by
  have d1 := fdep_z hO e
  have d2 := fdep_rg F o
  have e2 : F 0 o = -1 := Decidable.not_not.mp fun z => by
    have := fdep_st hO hA z
    have := fdep_rg F (F 0 o)
    omega
  have := h.2.2.1
  rw [frt_z e, frt_z e2] at this
  exact hne this
/-- one goes up -/
theorem pSt.u {B : Int} {F : fS} (hO : jOk B F) (hA : fAc F) {p q u o s : Int} (h : pSt F p q u o s) (hd : fdep F o < fdep F u) : pSt F p q (F 0 u) o (s + 1) ∧ fdep F (F 0 u) = fdep F u - 1 ∧ (0 ≤ F 0 u ∧ F 0 u < F 6 0) := by
  obtain ⟨h1, h2, h3, h4, h5, h6⟩ := h
  have d2 := fdep_rg F o
  have e : F 0 u ≠ -1 := fun e => by have := fdep_z hO e; omega
  have hp := hO.p u
  have hs := fdep_st hO hA e
  refine ⟨⟨by omega, h2, by rw [← frt_st hO hA e]; exact h3, h4.tr (cm_st hO hA (by omega) fun z => ?_), by omega, by omega⟩, by omega, by omega⟩
  have := fab_dep hO hA (show u ≠ -1 by omega) z
  omega
theorem pSt.o {B : Int} {F : fS} (hO : jOk B F) (hA : fAc F) {p q u o s : Int} (h : pSt F p q u o s) (hd : fdep F u < fdep F o) : pSt F p q u (F 0 o) (s + 1) ∧ (0 ≤ F 0 o ∧ F 0 o < F 6 0) := by
  obtain ⟨h1, h2, h3, h4, h5, h6⟩ := h
  have d2 := fdep_rg F u
  have e : F 0 o ≠ -1 := fun e => by have := fdep_z hO e; omega
  have hp := hO.p o
  have hs := fdep_st hO hA e
  refine ⟨⟨h1, by omega, by rw [← frt_st hO hA e]; exact h3, h4.tr ((cm_st hO hA (by omega) fun z => ?_ : cmE F o u (F 0 o) u).sw), by omega, by omega⟩, by omega⟩
  have := fab_dep hO hA (show o ≠ -1 by omega) z
  omega
/-- both, one after the other -/
theorem pSt.uo {B : Int} {F : fS} (hO : jOk B F) (hA : fAc F) {p q u o s : Int} (h : pSt F p q u o s) (hd : fdep F u = fdep F o) (hne : u ≠ o) : pSt F p q (F 0 u) (F 0 o) (s + 1) ∧ fdep F (F 0 u) = fdep F u - 1 ∧ (0 ≤ F 0 u ∧ F 0 u < F 6 0) ∧ (0 ≤ F 0 o ∧ F 0 o < F 6 0) := by
  have e := h.t hO hA (by omega) hne
  obtain ⟨h1, h2, h3, h4, h5, h6⟩ := h
  have hp := hO.p u
  have hs := fdep_st hO hA e
  have d9 := fdep_rg F (F 0 u)
  have e2 : F 0 o ≠ -1 := fun e => by have := fdep_z hO e; omega
  have hp2 := hO.p o
  have hs2 := fdep_st hO hA e2
  have c1 : cmE F u o (F 0 u) o := cm_st hO hA (by omega) fun z => hne ((fab_dep hO hA (show u ≠ -1 by omega) z).2 hd)
  have c2 : cmE F o (F 0 u) (F 0 o) (F 0 u) := cm_st hO hA (by omega) fun z => by
    have := fab_dep hO hA (show o ≠ -1 by omega) z
    omega
  exact ⟨⟨by omega, by omega, by rw [← frt_st hO hA e, ← frt_st hO hA e2]; exact h3, h4.tr (c1.tr c2.sw), by omega, by omega⟩, by omega, by omega, by omega⟩
/-- none: the other parity -/
theorem pSt.n {F : fS} {p q u o s : Int} (h : pSt F p q u o s) (hs : ¬ s % 2 = 0) : pSt F p q u o (s + 1) := by
  obtain ⟨h1, h2, h3, h4, h5, h6⟩ := h
  exact ⟨h1, h2, h3, h4, by omega, by omega⟩
/-- the farthest kin, from the last on -/
def frB (F : fS) (p b m i : Int) : Prop := (0 ≤ b ∧ b < F 6 0) ∧ frt F p = frt F b ∧ ((b = p ∧ m = 0 ∧ ∀ o, i < o → o < F 6 0 → frt F p = frt F o → faw F p o ≤ 0) ∨ (i < b ∧ m = faw F p b ∧ 0 < m ∧ ∀ o, i < o → o < F 6 0 → frt F p = frt F o → faw F p o ≤ m ∧ (faw F p o = m → b ≤ o)))
theorem frB.z {F : fS} {p i : Int} (hp : 0 ≤ p ∧ p < F 6 0) (hi : i = F 6 0 - 1) : frB F p p 0 i := ⟨hp, rfl, .inl ⟨rfl, rfl, fun o a b => by omega⟩⟩
theorem frB.rg {F : fS} {p b m i : Int} (h : frB F p b m i) : 0 ≤ m ∧ m ≤ 48 := by
  have := faw_rg F p b
  rcases h.2.2 with ⟨_, h, _⟩ | ⟨_, h, h2, _⟩ <;> omega
theorem frB.y {F : fS} {p b m i d : Int} (h : frB F p b m i) (hi : 0 ≤ i ∧ i < F 6 0) (hd : d = if frt F p = frt F i then faw F p i else -13) (h0 : 0 < d) (h1 : m ≤ d) : frB F p i (max m d) (i - 1) := by
  have e : frt F p = frt F i := Decidable.not_not.mp fun z => by rw [if_neg z] at hd; omega
  rw [if_pos e] at hd
  rw [show max m d = d by omega]
  refine ⟨hi, e, .inr ⟨by omega, hd, h0, fun o a b c => ?_⟩⟩
  by_cases eo : o = i
  · subst eo; omega
  · rcases h.2.2 with ⟨_, _, q⟩ | ⟨_, _, _, q⟩
    · have := q o (by omega) b c; omega
    · have := q o (by omega) b c; omega
theorem frB.n {F : fS} {p b m i d : Int} (h : frB F p b m i) (hi : 0 ≤ i ∧ i < F 6 0) (hd : d = if frt F p = frt F i then faw F p i else -13) (h0 : d ≤ 0 ∨ d < m) : frB F p b (max m d) (i - 1) := by
  have hr := h.rg
  rw [show max m d = m by omega]
  obtain ⟨h1, h2, h3⟩ := h
  refine ⟨h1, h2, ?_⟩
  rcases h3 with ⟨q1, q2, q3⟩ | ⟨q1, q2, q3, q4⟩
  · refine .inl ⟨q1, q2, fun o a b c => ?_⟩
    by_cases eo : o = i
    · subst eo; rw [if_pos c] at hd; omega
    · exact q3 o (by omega) b c
  · refine .inr ⟨by omega, q2, q3, fun o a b c => ?_⟩
    by_cases eo : o = i
    · subst eo; rw [if_pos c] at hd; omega
    · exact q4 o (by omega) b c
theorem frB.is {F : fS} {p b m i : Int} (h : frB F p b m i) (hi : i < 0) : isFar F p b := by
  obtain ⟨h1, h2, h3⟩ := h
  refine ⟨h1.1, h1.2, h2, ?_⟩
  rcases h3 with ⟨q1, q2, q3⟩ | ⟨q1, q2, q3, q4⟩
  · exact .inl ⟨q1, fun o a b c => q3 o (by omega) b c⟩
  · rw [q2] at q3 q4
    exact .inr ⟨q3, fun o a b c => q4 o (by omega) b c⟩
theorem l_degreeI {B : Int} {K : fS} {P : Int → fS} {n : Int} {h : jH} (hC : lC B K P n h) {p o : Int} (hp : 0 ≤ p ∧ p < K 6 0) (ho : 0 ≤ o ∧ o < K 6 0) : jM mL_degree 8 3 18 [300] [.ref 0, iv p, iv o] h (jRet (iv (if frt K p = frt K o then faw K p o else -13)) h) jno := by
  by_cases e : frt K p = frt K o
  · exact (l_degreeY hC hp ho e).is (if_pos e).symm
  · exact (l_degreeN hC hp ho e).is (if_neg e).symm
