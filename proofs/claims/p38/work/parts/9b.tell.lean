/-! WHAT THE CHECK OF TELLING RESTS ON -/
abbrev nwT : List Nat := 300 :: 35 :: List.range' 420 70
theorem nwT_r {r : Nat} (h : 440 ≤ r ∧ r ≤ 488) : ∀ k ∈ [r, r + 1], k ∈ nwT := fun k hk => by
  have e : 420 ≤ k ∧ k < 420 + 70 := by
    simp only [List.mem_cons, List.not_mem_nil, or_false] at hk
    omega
  exact List.mem_cons_of_mem _ (List.mem_cons_of_mem _ (List.mem_range'_1.mpr e))
theorem jfr_t {nw : List Nat} {L : List (Nat × Value)} {st : List Value} {r : Nat} (hr : 440 ≤ r) (h0 : nw.all (fun k => k != 0 && Nat.blt k 400) = true) (hL : ∀ q ∈ L, q.2 = .ref 0 ∨ q.2 = .ref r ∨ ∃ x, q.2 = iv x) (hS : ∀ v ∈ st, ∃ x, v = iv x) : jfr nw L st := fun k hk => by
  have q := List.all_eq_true.mp h0 k hk
  simp only [Bool.and_eq_true, bne_iff_ne] at q
  have q2 : k < 400 := Nat.lt_of_succ_le (Nat.le_of_ble_eq_true q.2)
  refine ⟨fun u hu e => ?_, fun v hv e => ?_⟩
  · rcases hL u hu with z | z | ⟨x, z⟩
    · rw [z] at e; cases e; exact q.1 rfl
    · rw [z] at e; cases e; omega
    · rw [z] at e; cases e
  · obtain ⟨x, z⟩ := hS v hv
    rw [z] at e; cases e
theorem jfL_c {r : Nat} {q : Nat × Value} {L : List (Nat × Value)} (h : q.2 = .ref 0 ∨ q.2 = .ref r ∨ ∃ x, q.2 = iv x) (hL : ∀ q ∈ L, q.2 = .ref 0 ∨ q.2 = .ref r ∨ ∃ x, q.2 = iv x) : ∀ u ∈ q :: L, u.2 = .ref 0 ∨ u.2 = .ref r ∨ ∃ x, u.2 = iv x := List.forall_mem_cons.mpr ⟨h, hL⟩
theorem jfS_c {q : Value} {L : List Value} (h : ∃ x, q = iv x) (hL : ∀ q ∈ L, ∃ x, q = iv x) : ∀ u ∈ q :: L, ∃ x, u = iv x := List.forall_mem_cons.mpr ⟨h, hL⟩
theorem jfr_u {r : Nat} {x : Int} (hr : 440 ≤ r) : jfr [r, r + 1] [(0, .ref 0), (1, iv x)] [] := fun k hk => by
  have q2 : 440 ≤ k := by
    simp only [List.mem_cons, List.not_mem_nil, or_false] at hk
    omega
  refine ⟨fun u hu e => ?_, fun v hv e => by cases hv⟩
  simp only [List.mem_cons, List.not_mem_nil, or_false] at hu
  rcases hu with rfl | rfl
  · cases e; omega
  · cases e
theorem jBl.o {k : Nat} {l : List Int} {h : jH} (w : jBl k l h) : ∃ fs, h k = some (jO 6 fs) := by
  obtain ⟨p, n, G, a1, a2, _⟩ := w
  exact ⟨_, a2.1⟩
/-- the main text under way: l is told, places f and up are free -/
def tM (h0 : jH) (f : Nat) (l : List Int) (hh : jH) : Prop := (∀ j, ¬ (420 ≤ j ∧ j < 440) → hh j = h0 j) ∧ jBl 420 l hh ∧ ∀ j, f ≤ j → j < 440 → hh j = none
theorem tM.w {B : Int} {K : fS} {P : Int → fS} {n : Int} {h0 hh : jH} {f : Nat} {l : List Int} (hT : tM h0 f l hh) (hC : lC B K P n h0) : lC B K P n hh := hC.eq (fun j hj => hT.1 j (by omega)) ((hT.1 300 (by omega)).trans hC.2.2.2)
theorem tM.app {h0 hh h' : jH} {f f' : Nat} {l l' : List Int} (hT : tM h0 f l hh) (hf : f ≤ f') (h4 : 423 ≤ f) (hB : jBl 420 l' h') (hx : jEx 420 3 hh h') : tM h0 f' l' h' := ⟨fun j hj => (hx j (by omega)).trans (hT.1 j hj), hB, fun j j0 j1 => (hx j (by omega)).trans (hT.2.2 j (by omega) j1)⟩
theorem tM.opt {h0 hh h5 h6 : jH} {b f' : Nat} {l l' : List Int} (hT : tM h0 b l hh) (h4 : 423 ≤ b) (hb : b + 5 ≤ 440) (hf : f' = b + 5) (he : ∀ j, ¬ (b ≤ j ∧ j < b + 5) → h5 j = hh j) (hB : jBl 420 l' h6) (hx : jEx 420 3 h5 h6) : tM h0 f' l' h6 :=
  ⟨fun j hj => (hx j (by omega)).trans ((he j (by omega)).trans (hT.1 j hj)), hB, fun j j0 j1 => (hx j (by omega)).trans ((he j (by omega)).trans (hT.2.2 j (by omega) j1))⟩
/-- only the text stays -/
theorem t_drop {hb hh : jH} {r : Nat} {l : List Int} (hcl : jCl hb) (hnb : ∀ j, 120 ≤ j → (j < 440 ∨ r ≤ j) → hb j = none) (hr : 440 ≤ r) (hT : ∀ j, ¬ (420 ≤ j ∧ j < 440) → j ≠ r → j ≠ r + 1 → hh j = hb j) (hS : jSt r l hh) : ∃ hd : jH, (∀ j, hd j = hh j ∨ hd j = none) ∧ jCl hd ∧ jSt r l hd ∧ ∀ j, j ≠ r → j ≠ r + 1 → hd j = hb j := by
  have hd1 : ∀ j, j ≠ r → j ≠ r + 1 → (if 420 ≤ j ∧ j < 440 then none else hh j) = hb j := fun j j0 j1 => by
    by_cases e : 420 ≤ j ∧ j < 440
    · rw [if_pos e, hnb j (by omega) (by omega)]
    · rw [if_neg e, hT j e j0 j1]
  have hSt : jSt r l (fun j => if 420 ≤ j ∧ j < 440 then none else hh j) := hS.eq (if_neg (by omega)) (if_neg (by omega))
  refine ⟨fun j => if 420 ≤ j ∧ j < 440 then none else hh j, fun j => ?_, fun j c hj k hk => ?_, hSt, hd1⟩
  · by_cases e : 420 ≤ j ∧ j < 440
    · exact .inr (if_pos e)
    · exact .inl (if_neg e)
  · obtain ⟨f, s1, s2, _⟩ := hSt
    by_cases e1 : j = r
    · subst e1
      rw [s1] at hj
      cases hj
      have hk : Value.ref k ∈ [Value.ref (j + 1), iv 0, iv 0, iv 0] := hk
      simp only [List.mem_cons, List.not_mem_nil, or_false] at hk
      rcases hk with q | q | q | q <;> cases q
      exact fun z => by rw [s2] at z; cases z
    · by_cases e2 : j = r + 1
      · rw [e2, s2] at hj
        cases hj
        exact hk.elim
      · have hb1 := hd1 j e1 e2
        have hj : hb j = some c := hb1.symm.trans hj
        have := hcl j c hj k hk
        have kr : k ≠ r := fun e => this (by rw [e]; exact hnb r (by omega) (by omega))
        have kr1 : k ≠ r + 1 := fun e => this (by rw [e]; exact hnb (r + 1) (by omega) (by omega))
        exact fun z => this ((hd1 k kr kr1).symm.trans z)
/-- the world, and what its line is -/
def lT (B : Int) (K : fS) (P : Int → fS) (n : Int) (l : List Int) (h : jH) : Prop := (kI B K ∧ kV K) ∧ (∃ Ks X I, xC K Ks P X I (l.length : Int) (fun j => (l[j.toNat]?).getD 0) h ∧ X 5 0 = n ∧ I 5 0 = 0 ∧ ∀ j, 0 ≤ I 0 j ∧ I 0 j < 65536) ∧ (∀ i, 0 ≤ i → i < n → kI B (P i)) ∧ h 300 = none
theorem lT.C {B : Int} {K : fS} {P : Int → fS} {n : Int} {l : List Int} {h : jH} (w : lT B K P n l h) : lC B K P n h := by
  obtain ⟨w1, ⟨Ks, X, I, w2⟩, w4⟩ := w
  exact ⟨w1, ⟨Ks, X, I, _, _, w2⟩, w4⟩
theorem lT.eq {B : Int} {K : fS} {P : Int → fS} {n : Int} {l : List Int} {h h' : jH} (w : lT B K P n l h) (he : ∀ j, j < 120 → h' j = h j) (hN : h' 300 = none) : lT B K P n l h' := by
  obtain ⟨w1, ⟨Ks, X, I, w2, w3⟩, w4, w5⟩ := w
  exact ⟨w1, ⟨Ks, X, I, w2.eq fun j hj => he j (by omega), w3⟩, w4, hN⟩
theorem xC.ln {K Ks X I : fS} {P : Int → fS} {c c' : Int} {t t' : Int → Int} {h h' : jH} (w : xC K Ks P X I c t h) (hx : jEx 33 3 h h') (hB : jSB 33 c' t' h') : xC K Ks P X I c' t' h' := by
  obtain ⟨w1, ⟨F, w2⟩, w3, w4, w5⟩ := w
  exact ⟨w1.eq fun j j0 => hx j (by omega), ⟨F, w2.eq okF fun j _ j1 => hx j (by have j1 : j < 14 + 7 := j1; omega)⟩, ⟨w3.1.eq fun j j0 j1 => hx j (by omega), w3.2.1.eq okI fun j j0 j1 => hx j (by have j1 : j < 28 + 5 := j1; omega), hB⟩, w4.eq (fun j _ j1 => hx j (by omega)) w5.2, w5⟩
section T9
variable {B : Int} {K : fS} {P : Int → fS} {n : Int} {h : jH}
theorem l_line (hC : lC B K P n h) {p : Int} (hp : 0 ≤ p ∧ p < K 6 0) : jM mL_line 10 11 346 [300, 35] [.ref 0, iv p] h (fun r h' => r = some (iv ((kLine K p).length : Int)) ∧ lT B K P n (kLine K p) h' ∧ jEx 33 3 h h') jno := by
  have hn := hC.n
  obtain ⟨hI, ⟨Ks, X, I, c, t, w2, w3, w5⟩, w4, hN⟩ := hC
  obtain ⟨fs, h0⟩ := w2.o
  refine (w_line (x_line w2 hI.1 (by omega)) h0 (fun r h' z => ⟨_, z.1⟩) (fun E h' z => ?_)).mo fun r h' w => ?_
  · obtain ⟨z1, rfl, z3⟩ := z; exact ⟨hN, z1⟩
  · rcases w with ⟨w1, _, w6, w7⟩ | ⟨k, F, w1, w2, w3, w4, w5⟩
    · exact ⟨w1, ⟨hI, ⟨Ks, X, I, w2.ln w7 w6, w3, w5⟩, w4, (w7 300 (by omega)).trans hN⟩, w7⟩
    · exact absurd hp w5
theorem l_lineO (hC : lC B K P n h) {p : Int} (hp : p = K 6 0) : jM mL_line 10 11 346 [300, 35] [.ref 0, iv p] h (jRet (iv (-11)) h) jno := by
  have hn := hC.n
  obtain ⟨hI, ⟨Ks, X, I, c, t, w2, w3, w5⟩, w4, hN⟩ := hC
  obtain ⟨fs, h0⟩ := w2.o
  refine (w_line (x_line w2 hI.1 (by omega)) h0 (fun r h' z => ⟨_, z.1⟩) (fun E h' z => ?_)).mo fun r h' w => ?_
  · obtain ⟨z1, rfl, z3⟩ := z; exact ⟨hN, z1⟩
  · rcases w with ⟨w1, w9, w6, w7⟩ | ⟨k, F, w1, w2, w3, w4, w5⟩
    · omega
    · simp only [List.mem_singleton, Prod.mk.injEq] at w2
      exact ⟨by rw [w1, w2.1], w4⟩
theorem l_char {l : List Int} (hC : lT B K P n l h) {i : Int} (hi : r32 i) : jM mL_character 7 1 6 [300] [.ref 0, iv i] h (jRet (iv (if 0 ≤ i ∧ i < (l.length : Int) then (l[i.toNat]?).getD 0 else -11)) h) jno := by
  obtain ⟨hI, ⟨Ks, X, I, w2, w3, w5⟩, w4, hN⟩ := hC
  obtain ⟨fs, h0⟩ := w2.o
  refine (w_character (x_character w2 hI.1 hi hN) h0 (fun r h' z => ⟨_, z.1⟩) (fun E h' z => ?_)).mo fun r h' w => ?_
  · obtain ⟨z, rfl⟩ := z
    refine ⟨hN, ?_⟩
    simp only [List.mem_singleton, Prod.mk.injEq] at z
    exact z.2
  · have q := rd1 w
    refine ⟨q.1.trans (congrArg some (congrArg iv ?_)), q.2⟩
    unfold y_character
    by_cases e : 0 ≤ i ∧ i < (l.length : Int)
    · rw [if_pos e, if_pos e]; rfl
    · rw [if_neg e, if_neg e]; rfl
theorem l_charY {l : List Int} (hC : lT B K P n l h) (hl : l.length ≤ 1000) {i : Int} (hi : 0 ≤ i ∧ i < (l.length : Int)) : jM mL_character 7 1 6 [300] [.ref 0, iv i] h (jRet (iv ((l[i.toNat]?).getD 0)) h) jno := (l_char hC (i := i) (by omega)).is (if_pos hi)
theorem l_charO {l : List Int} (hC : lT B K P n l h) (hl : l.length ≤ 1000) {i : Int} (hi : i = (l.length : Int)) : jM mL_character 7 1 6 [300] [.ref 0, iv i] h (jRet (iv (-11)) h) jno := (l_char hC (i := i) (by omega)).is (if_neg (by omega))
theorem t_charAt {Ln : Nat} {xs : Nat → Int32} {r : Nat} {l : List Int} {i : Int} (w : jSt r l h) (hi : 0 ≤ i ∧ i < (l.length : Int)) (hl : l.length ≤ 1000) (hN : h 300 = none) (hr : 440 ≤ r) : jMF mJ0_charAt_5068e Ln xs 3 0 0 [300] [.ref r, iv i] h (jRet (iv ((l[i.toNat]?).getD 0)) h) jno := by
  have q := ct_charAt (Ln := Ln) (xs := xs) w (show i.toNat < l.length by omega) hl hN (by omega)
  rw [Int.toNat_of_nonneg hi.1] at q
  exact q
end T9
theorem kLine_len {B : Int} {K : fS} (hO : jOk B K) {p : Int} (hp : 0 ≤ p ∧ p < K 6 0) : (kLine K p).length ≤ 19 := by
  have hn := hO.n
  have h0 := hO.p p
  have h1 := hO.s p
  have d1 := dgs_len2 (v := p) (by omega)
  have d4 := dgs_len8 (v := K 2 p)
  have a0 : (if K 0 p = -1 then ([] : List Int) else [60] ++ dgs 7 (K 0 p)).length ≤ 3 := by
    by_cases e : K 0 p = -1
    · rw [if_pos e]; decide
    · rw [if_neg e]; have := dgs_len2 (v := K 0 p) (by omega); simp only [List.length_append, List.length_singleton]; omega
  have a1 : (if K 1 p = -1 then ([] : List Int) else [43] ++ dgs 7 (K 1 p)).length ≤ 3 := by
    by_cases e : K 1 p = -1
    · rw [if_pos e]; decide
    · rw [if_neg e]; have := dgs_len2 (v := K 1 p) (by omega); simp only [List.length_append, List.length_singleton]; omega
  have a2 : (if K 2 p = 0 then ([] : List Int) else [61] ++ dgs 7 (K 2 p)).length ≤ 9 := by
    by_cases e : K 2 p = 0
    · rw [if_pos e]; decide
    · rw [if_neg e]; simp only [List.length_append, List.length_singleton]; omega
  have a3 : (if K 3 p = 0 then [120] else ([] : List Int)).length ≤ 1 := by split <;> decide
  unfold kLine
  simp only [List.length_append, List.length_singleton]
  omega
