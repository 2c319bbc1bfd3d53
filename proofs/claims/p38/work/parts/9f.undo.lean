/-! WHAT UNDOING RESTS ON -/
abbrev nwU : List Nat := 300 :: List.range' 500 80
theorem nwU_r {r : Nat} (h : 540 ≤ r ∧ r ≤ 570) : ∀ k ∈ [r, r + 1], k ∈ nwU := fun k hk => by
  have e : 500 ≤ k ∧ k < 500 + 80 := by
    simp only [List.mem_cons, List.not_mem_nil, or_false] at hk
    omega
  exact List.mem_cons_of_mem _ (List.mem_range'_1.mpr e)
theorem jfr_v {r : Nat} {L : List (Nat × Value)} {st : List Value} (hr : 540 ≤ r) (h1 : L.all (fun q => match q.2 with | .ref j => Nat.blt j 540 | _ => true) = true) (h2 : st.all (fun v => match v with | .ref j => Nat.blt j 540 | _ => true) = true) : jfr [r, r + 1] L st := fun k hk => by
  have q2 : 540 ≤ k := by
    simp only [List.mem_cons, List.not_mem_nil, or_false] at hk
    omega
  refine ⟨fun q hq e => ?_, fun v hv e => ?_⟩
  · have w := List.all_eq_true.mp h1 q hq
    rw [e] at w
    have w : k < 540 := Nat.lt_of_succ_le (Nat.le_of_ble_eq_true w)
    omega
  · have w := List.all_eq_true.mp h2 v hv
    rw [e] at w
    have w : k < 540 := Nat.lt_of_succ_le (Nat.le_of_ble_eq_true w)
    omega
theorem t_drop2 {hb hh : jH} {a b r : Nat} {l : List Int} (hcl : jCl hb) (hnb : ∀ j, a ≤ j → j < b → hb j = none) (hr0 : hb r = none) (hr1 : hb (r + 1) = none) (hr : ¬ (a ≤ r ∧ r < b) ∧ ¬ (a ≤ r + 1 ∧ r + 1 < b)) (hT : ∀ j, ¬ (a ≤ j ∧ j < b) → j ≠ r → j ≠ r + 1 → hh j = hb j) (hS : jSt r l hh) : ∃ hd : jH, (∀ j, hd j = hh j ∨ hd j = none) ∧ jCl hd ∧ jSt r l hd ∧ ∀ j, j ≠ r → j ≠ r + 1 → hd j = hb j := by
  have hd1 : ∀ j, j ≠ r → j ≠ r + 1 → (if a ≤ j ∧ j < b then none else hh j) = hb j := fun j j0 j1 => by
    by_cases e : a ≤ j ∧ j < b
    · rw [if_pos e, hnb j e.1 e.2]
    · rw [if_neg e, hT j e j0 j1]
  have hSt : jSt r l (fun j => if a ≤ j ∧ j < b then none else hh j) := hS.eq (if_neg hr.1) (if_neg hr.2)
  refine ⟨fun j => if a ≤ j ∧ j < b then none else hh j, fun j => ?_, fun j c hj k hk => ?_, hSt, hd1⟩
  · by_cases e : a ≤ j ∧ j < b
    · exact .inr (if_pos e)
    · exact .inl (if_neg e)
  · obtain ⟨f, s1, s2, _⟩ := hSt
    by_cases e1 : j = r
    · subst e1
      rw [s1] at hj
      cases hj
      have hk : Value.ref k ∈ [Value.ref (j + 1), iv 0, iv 0, iv 0] := hk
      simp only [List.mem_cons, List.not_mem_nil, or_false] at hk
      rcases hk with q | q | q | q <;> cases q
      exact fun z => by rw [s2] at z; cases z
    · by_cases e2 : j = r + 1
      · rw [e2, s2] at hj
        cases hj
        exact hk.elim
      · have hb1 := hd1 j e1 e2
        have hj : hb j = some c := hb1.symm.trans hj
        have := hcl j c hj k hk
        have kr : k ≠ r := fun e => this (by rw [e]; exact hr0)
        have kr1 : k ≠ r + 1 := fun e => this (by rw [e]; exact hr1)
        exact fun z => this ((hd1 k kr kr1).symm.trans z)
/-- the text under way -/
def tG (h0 : jH) (f : Nat) (hh : jH) : Prop := (∀ j, ¬ (510 ≤ j ∧ j < 530) → hh j = h0 j) ∧ ∀ j, f ≤ j → j < 530 → hh j = none
theorem tG.app {h0 hh h' : jH} {f k : Nat} (hT : tG h0 f hh) (hk : 510 ≤ k ∧ k + 3 ≤ f ∧ f ≤ 530) (hx : jEx k 3 hh h') : tG h0 f h' := ⟨fun j hj => (hx j (by omega)).trans (hT.1 j hj), fun j j0 j1 => (hx j (by omega)).trans (hT.2 j j0 j1)⟩
theorem tG.new {h0 hh h' : jH} {f k : Nat} {c : jC} (hT : tG h0 k hh) (hk : 510 ≤ k ∧ f = k + 3 ∧ f ≤ 530) (hx : jEx k 3 (jup hh k c) h') : tG h0 f h' := ⟨fun j hj => (hx j (by omega)).trans ((jup_n (by omega) rfl).trans (hT.1 j hj)), fun j j0 j1 => (hx j (by omega)).trans ((jup_n (by omega) rfl).trans (hT.2 j (by omega) j1))⟩
theorem tG.str {h0 hh h' : jH} {f r : Nat} (hT : tG h0 r hh) (hk : 510 ≤ r ∧ f = r + 2 ∧ f ≤ 530) (hx : ∀ j, j ≠ r → j ≠ r + 1 → h' j = hh j) : tG h0 f h' := ⟨fun j hj => (hx j (by omega) (by omega)).trans (hT.1 j hj), fun j j0 j1 => (hx j (by omega) (by omega)).trans (hT.2 j (by omega) j1)⟩
theorem dl_1000 {v : Int} (h : v < 1000) : dl v ≤ 3 := by
  unfold dl
  repeat' split
  all_goals omega
theorem dgs_l3 {v : Int} (h : 0 ≤ v ∧ v < 1000) : (dgs 7 v).length ≤ 3 := by
  have := (dgs_e 7 v h.1 (by omega) (by have := dl_r v; omega)).1
  have := dl_1000 h.2
  omega
theorem apl {l l2 : List Int} {a b c : Nat} (h1 : l.length ≤ a) (h2 : l2.length ≤ b) (h3 : a + b ≤ c) : (l ++ l2).length ≤ c := by rw [List.length_append]; omega
/-- the past, with its numbers -/
def pst (P : Int → fS) (n m : Int) (S : Int → Int) : Prop := ∀ i, 0 ≤ i → i < m → kV (P (n - m + i)) ∧ S i = sumF (P (n - m + i))
theorem pst.f {P : Int → fS} {n m v : Int} {S : Int → Int} (h : pst P n m S) : pst P n m (jfu S m v) := fun i a b => by
  rw [jfu_n (by omega)]
  exact h i a b
theorem pst.s {P : Int → fS} {K : fS} {n m : Int} {S : Int → Int} (h : pst P n m S) (hV : kV K) (hn : 0 ≤ n ∧ n ≤ 8) (hm : 0 ≤ m ∧ m ≤ n ∧ m ≤ 7) : pst (xP n P K) (xN n) (m + 1) (jfu S m (sumF K)) ∧ m + 1 ≤ xN n := by
  refine ⟨fun i a b => ?_, by unfold xN; split <;> omega⟩
  have e : xP n P K (xN n - (m + 1) + i) = if i = m then K else P (n - m + i) := by
    unfold xP xN
    by_cases e : n = 8
    · rw [if_pos e, if_pos e]
      show (if 8 - (m + 1) + i = 7 then K else P (8 - (m + 1) + i + 1)) = _
      by_cases e2 : i = m
      · rw [if_pos e2, if_pos (by omega)]
      · rw [if_neg e2, if_neg (by omega)]
        congr 1
        omega
    · rw [if_neg e, if_neg e]
      show (if n + 1 - (m + 1) + i = n then K else P (n + 1 - (m + 1) + i)) = _
      by_cases e2 : i = m
      · rw [if_pos e2, if_pos (by omega)]
      · rw [if_neg e2, if_neg (by omega)]
        congr 1
        omega
  rw [e]
  by_cases e2 : i = m
  · rw [if_pos e2, e2, jfu_s]
    exact ⟨hV, rfl⟩
  · rw [if_neg e2, jfu_n e2]
    exact h i a (by omega)
theorem pst.t {P : Int → fS} {n m : Int} {S : Int → Int} (h : pst P n m S) (hm : 0 < m) : kV (P (n - 1)) ∧ S (m - 1) = sumF (P (n - 1)) := by
  have := h (m - 1) (by omega) (by omega)
  rw [show n - m + (m - 1) = n - 1 by omega] at this
  exact this
theorem pst.d {P : Int → fS} {n m : Int} {S : Int → Int} (h : pst P n m S) : pst P (n - 1) (m - 1) S := fun i a b => by
  have := h i a (by omega)
  rw [show n - m + i = n - 1 - (m - 1) + i by omega] at this
  exact this
theorem t_ch {r : Nat} {l : List Int} {h : jH} (w : jSt r l h) {i : Int} (hi : 0 ≤ i ∧ i < (l.length : Int)) : 0 ≤ (l[i.toNat]?).getD 0 ∧ (l[i.toNat]?).getD 0 < 65536 := by
  obtain ⟨f, _, _, a, b⟩ := w
  have e := a i.toNat (by omega)
  have e2 : (l[i.toNat]?).getD 0 = l.getD i.toNat 0 := rfl
  rw [e2, ← e]
  have := b (i.toNat : Int)
  omega
