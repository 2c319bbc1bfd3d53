/-! ORDERS IN THE LAW'S WORLD -/
theorem kDie_6 {K : fS} {p : Int} : kDie K p 6 = K 6 := by
  have h1 : ∀ e, kPass K p e 6 = K 6 := fun e => kPass_c.2.2.1
  unfold kDie
  split
  · exact h1 _
  · exact h1 _
theorem kTry_6 {K : fS} (kd a b : Int) : K 6 0 ≤ (kTry K kd a b).2.2.2 6 0 := by
  unfold kTry
  split
  · unfold kFound; split
    · exact Int.le_refl _
    · show K 6 0 ≤ K 6 0 + 1; omega
  split
  · unfold kBorn; repeat' split
    all_goals first | exact Int.le_refl _ | (show K 6 0 ≤ K 6 0 + 1; omega)
  split
  · unfold kGraft; repeat' split
    all_goals exact Int.le_refl _
  split
  · unfold kCut; repeat' split
    all_goals exact Int.le_refl _
  split
  · unfold kMarry; repeat' split
    all_goals exact Int.le_refl _
  split
  · unfold kPartR; repeat' split
    all_goals exact Int.le_refl _
  split
  · unfold kQuarrel; repeat' split
    all_goals exact Int.le_refl _
  split
  · unfold kGiveR; repeat' split
    all_goals exact Int.le_refl _
  · unfold kDieR; repeat' split
    all_goals first | exact Int.le_refl _ | (show K 6 0 ≤ kDie K a 6 0; rw [kDie_6]; exact Int.le_refl _)
theorem kTry_3 {B : Int} {K : fS} (h : kI B K) {kd a b : Int} (hk : kd ≠ 7) : (kTry K kd a b).1 ≠ -3 := by
  have hO := h.1
  have hn := hO.n
  have hq := hO.q
  unfold kTry
  split
  · unfold kFound
    split
    · show (-4 : Int) ≠ -3; decide
    · show K 6 0 ≠ -3; omega
  split
  · unfold kBorn
    repeat' split
    all_goals first | (show (-4 : Int) ≠ -3; decide) | (show (-2 : Int) ≠ -3; first | decide | (exfalso; omega)) | (show K 6 0 ≠ -3; omega)
  split
  · unfold kGraft
    have := kOaks_p (kpar K a b)
    repeat' split
    all_goals first | (show (-4 : Int) ≠ -3; decide) | (show (-2 : Int) ≠ -3; first | decide | (exfalso; omega)) | (show kOaks (kpar K a b) ≠ -3; omega)
  split
  · unfold kCut
    have := kOaks_p (kpar K a (-1))
    repeat' split
    all_goals first | (show (-4 : Int) ≠ -3; decide) | (show (-2 : Int) ≠ -3; first | decide | (exfalso; omega)) | (show kOaks (kpar K a (-1)) ≠ -3; omega)
  split
  · unfold kMarry
    split
    · rename_i hh
      split
      · show (-4 : Int) ≠ -3; decide
      · have hm := jOk_spo2 (p := a) (o := b) (v := b) (w := a) hO hh.1 hh.2 (by omega) (by omega)
        have := kfl_len hm
        have e7 : kMar K a b 7 0 = K 7 0 := rfl
        have this : ((kfl (kMar K a b)).length : Int) ≤ K 7 0 := this
        show K 7 0 - ((kfl (kMar K a b)).length : Int) ≠ -3
        omega
    · show (-2 : Int) ≠ -3; first | decide | (exfalso; omega)
  split
  · unfold kPartR
    have := hO.s a
    repeat' split
    all_goals first | (show (-4 : Int) ≠ -3; decide) | (show (-2 : Int) ≠ -3; first | decide | (exfalso; omega)) | (show K 1 a ≠ -3; omega)
  split
  · unfold kQuarrel
    repeat' split
    all_goals first | (show (-4 : Int) ≠ -3; decide) | (show (-2 : Int) ≠ -3; first | decide | (exfalso; omega)) | (show K 7 0 + 1 ≠ -3; omega)
  · unfold kDieR
    split
    · rename_i hp
      have := fhe_rg hO h.2.1 hp
      split
      · show (-4 : Int) ≠ -3; decide
      · show fhe K a ≠ -3; omega
    · show (-2 : Int) ≠ -3; first | decide | (exfalso; omega)
theorem kTry_2 {B : Int} {K : fS} (h : kI B K) {kd a b : Int} (ha : kd = 0 ∨ (0 ≤ a ∧ a < K 6 0)) (hb : kd = 2 ∨ kd = 4 ∨ kd = 6 → 0 ≤ b ∧ b < K 6 0) : (kTry K kd a b).1 ≠ -2 := by
  have hO := h.1
  have hn := hO.n
  have hq := hO.q
  unfold kTry
  split
  · unfold kFound
    split
    · show (-4 : Int) ≠ -2; decide
    · show K 6 0 ≠ -2; omega
  split
  · unfold kBorn
    repeat' split
    all_goals first | (show (-4 : Int) ≠ -2; decide) | (show (-2 : Int) ≠ -2; first | decide | (exfalso; omega)) | (show K 6 0 ≠ -2; omega)
  split
  · unfold kGraft
    have := kOaks_p (kpar K a b)
    repeat' split
    all_goals first | (show (-4 : Int) ≠ -2; decide) | (show (-2 : Int) ≠ -2; first | decide | (exfalso; omega)) | (show kOaks (kpar K a b) ≠ -2; omega)
  split
  · unfold kCut
    have := kOaks_p (kpar K a (-1))
    repeat' split
    all_goals first | (show (-4 : Int) ≠ -2; decide) | (show (-2 : Int) ≠ -2; first | decide | (exfalso; omega)) | (show kOaks (kpar K a (-1)) ≠ -2; omega)
  split
  · unfold kMarry
    split
    · rename_i hh
      split
      · show (-4 : Int) ≠ -2; decide
      · have hm := jOk_spo2 (p := a) (o := b) (v := b) (w := a) hO hh.1 hh.2 (by omega) (by omega)
        have := kfl_len hm
        have e7 : kMar K a b 7 0 = K 7 0 := rfl
        have this : ((kfl (kMar K a b)).length : Int) ≤ K 7 0 := this
        show K 7 0 - ((kfl (kMar K a b)).length : Int) ≠ -2
        omega
    · show (-2 : Int) ≠ -2; first | decide | (exfalso; omega)
  split
  · unfold kPartR
    have := hO.s a
    repeat' split
    all_goals first | (show (-4 : Int) ≠ -2; decide) | (show (-2 : Int) ≠ -2; first | decide | (exfalso; omega)) | (show K 1 a ≠ -2; omega)
  split
  · unfold kQuarrel
    repeat' split
    all_goals first | (show (-4 : Int) ≠ -2; decide) | (show (-2 : Int) ≠ -2; first | decide | (exfalso; omega)) | (show K 7 0 + 1 ≠ -2; omega)
  split
  · unfold kGiveR
    have hc := hO.c a
    repeat' split
    all_goals first | (show (-4 : Int) ≠ -2; decide) | (show (-2 : Int) ≠ -2; first | decide | (exfalso; omega)) | (show (-3 : Int) ≠ -2; first | decide | (exfalso; omega)) | (show K 2 a + b ≠ -2; omega)
  · unfold kDieR
    split
    · rename_i hp
      have := fhe_rg hO h.2.1 hp
      split
      · show (-4 : Int) ≠ -2; decide
      · show fhe K a ≠ -2; omega
    · show (-2 : Int) ≠ -2; first | decide | (exfalso; omega)
theorem kV_runs : ∀ (l : List (Int × Int × Int)) (B : Int) (K : fS), kI B K → kV K → B + 1000 * (l.length : Int) ≤ 20000000 → kV (kRuns K l).2.2.2
  | [], B, K, h, hV, hB => hV
  | z :: l, B, K, h, hV, hB => by
    have e : ((z :: l).length : Int) = (l.length : Int) + 1 := by simp
    rw [e] at hB
    have hl := Int.natCast_nonneg l.length
    have h1 := kI_try h (by omega) z.1 z.2.1 z.2.2
    have h2 := kV_try h hV z.1 z.2.1 z.2.2
    by_cases c : (kTry K z.1 z.2.1 z.2.2).1 < -1
    · rw [kRuns_n c]
      exact h2
    · rw [kRuns_y c]
      exact kV_runs l (B + 1000) _ h1 h2 (by omega)
theorem pAll_len : ∀ (k : Nat) (t : Int → Int) (n a : Int) (acc : List (Int × Int × Int)), (pAll t n k a acc).1.length ≤ acc.length + k
  | 0, t, n, a, acc => Nat.le_refl _
  | k + 1, t, n, a, acc => by
    show (if (pOrd t n a).1 = -1 then (acc, (pOrd t n a).2.2.2)
      else if (pOrd t n a).2.2.2 < n ∧ t (pOrd t n a).2.2.2 = 59 then pAll t n k ((pOrd t n a).2.2.2 + 1) (acc ++ [((pOrd t n a).1, (pOrd t n a).2.1, (pOrd t n a).2.2.1)])
      else (acc ++ [((pOrd t n a).1, (pOrd t n a).2.1, (pOrd t n a).2.2.1)], if (pOrd t n a).2.2.2 < n then (pOrd t n a).2.2.2 else -1)).1.length ≤ _
    split
    · show acc.length ≤ _; omega
    · split
      · have := pAll_len k t n ((pOrd t n a).2.2.2 + 1) (acc ++ [((pOrd t n a).1, (pOrd t n a).2.1, (pOrd t n a).2.2.1)])
        rw [List.length_append] at this
        simp only [List.length_singleton] at this
        omega
      · show (acc ++ [((pOrd t n a).1, (pOrd t n a).2.1, (pOrd t n a).2.2.1)]).length ≤ _
        rw [List.length_append]
        simp only [List.length_singleton]
        omega
/-- the world with m letters of input -/
def lI (B : Int) (K : fS) (P : Int → fS) (n m : Int) (h : jH) : Prop := (kI B K ∧ kV K) ∧ (∃ Ks X I c t, xC K Ks P X I c t h ∧ X 5 0 = n ∧ I 5 0 = m ∧ ∀ j, 0 ≤ I 0 j ∧ I 0 j < 65536) ∧ (∀ i, 0 ≤ i → i < n → kI B (P i)) ∧ h 300 = none
theorem lC.I {B : Int} {K : fS} {P : Int → fS} {n : Int} {h : jH} (w : lC B K P n h) : lI B K P n 0 h := w
theorem lI.C {B : Int} {K : fS} {P : Int → fS} {n : Int} {h : jH} (w : lI B K P n 0 h) : lC B K P n h := w
theorem lI.o {B : Int} {K : fS} {P : Int → fS} {n m : Int} {h : jH} (w : lI B K P n m h) : ∃ fs, h 0 = some (jO 4 fs) := by
  obtain ⟨_, ⟨Ks, X, I, c, t, w2, _⟩, _⟩ := w
  exact w2.o
theorem lC.nn {B : Int} {K : fS} {P : Int → fS} {n : Int} {h : jH} (w : lC B K P n h) : 0 ≤ n ∧ n ≤ 8 := by
  obtain ⟨_, ⟨Ks, X, I, c, t, w2, w3, _⟩, _⟩ := w
  rw [← w3]
  exact w2.2.2.2.2
theorem lC.b {B B' : Int} {K : fS} {P : Int → fS} {n : Int} {h : jH} (w : lC B K P n h) (hB : B ≤ B' ∧ B' ≤ 20000000) : lC B' K P n h := ⟨⟨w.1.1.up hB, w.1.2⟩, w.2.1, fun i a b => (w.2.2.1 i a b).up hB, w.2.2.2⟩
/-- how an order ends -/
def mOd (B' : Int) (K : fS) (P : Int → fS) (n : Int) (q : kR) (es : List (Int × String)) (h : jH) : jPn := fun r h' => (∀ j, 120 ≤ j → h' j = h j) ∧ ((r = some (iv q.1) ∧ (-1 ≤ q.1 ∧ q.1 ≤ 21000000) ∧ lC B' q.2.2.2 (xP n P K) (xN n) h') ∨ ∃ k E, r = some (iv k) ∧ (k, E) ∈ es ∧ ((q.1 = -2 ∧ E = "java/lang/IndexOutOfBoundsException") ∨ (q.1 = -3 ∧ E = "java/lang/IllegalArgumentException") ∨ (q.1 = -4 ∧ E = "java/lang/UnsupportedOperationException")) ∧ lC B' K P n h')
theorem xP_kI {B B' n : Int} {P : Int → fS} {K : fS} (hP : ∀ i, 0 ≤ i → i < n → kI B (P i)) (hK : kI B K) (hn : 0 ≤ n ∧ n ≤ 8) (hB : B ≤ B' ∧ B' ≤ 20000000) : ∀ i, 0 ≤ i → i < xN n → kI B' (xP n P K i) := fun i a b => by
  unfold xN at b
  unfold xP
  by_cases e : n = 8
  · rw [if_pos e] at b ⊢
    show kI B' (if i = 7 then K else P (i + 1))
    by_cases e2 : i = 7
    · rw [if_pos e2]; exact hK.up hB
    · rw [if_neg e2]; exact (hP (i + 1) (by omega) (by omega)).up hB
  · rw [if_neg e] at b ⊢
    show kI B' (if i = n then K else P i)
    by_cases e2 : i = n
    · rw [if_pos e2]; exact hK.up hB
    · rw [if_neg e2]; exact (hP i a (by omega)).up hB
theorem mOd_of {B : Int} {K Ks X I : fS} {P : Int → fS} {n c : Int} {t : Int → Int} {h : jH} {kd a b : Int} {es : List (Int × String)} (hI : kI B K) (hV : kV K) (w2 : xC K Ks P X I c t h) (hX : X 5 0 = n) (w5 : I 5 0 = 0 ∧ ∀ j, 0 ≤ I 0 j ∧ I 0 j < 65536) (hP : ∀ i, 0 ≤ i → i < n → kI B (P i)) (hB : B + 1000 ≤ 20000000) (hN : h 300 = none) {r : Option Value} {h' : jH} (w : wQ (xCn K Ks P X I c t (kTry K kd a b) h) (xCx K Ks P X I c t (kTry K kd a b) h) es r h') : mOd (B + 1000) K P n (kTry K kd a b) es h r h' := by
  have hI' := kI_try hI hB kd a b
  have hV' := kV_try hI hV kd a b
  have hc := kTry_c hI kd a b
  have hn := w2.2.2.2.2
  rcases w with ⟨w1, w6, w7, w8⟩ | ⟨k, E, w1, w6, w7, w8, w9⟩
  · refine ⟨fun j hj => w8 j (by omega), .inl ⟨w1, by omega, ⟨hI', hV'⟩, ⟨Ks, _, I, c, t, by rw [← hX]; exact w7, ?_, w5⟩, ?_, (w8 300 (by omega)).trans hN⟩⟩
    · rw [← hX]; rfl
    · exact xP_kI hP hI (by omega) (by omega)
  · refine ⟨fun j hj => w9 j (by omega), .inr ⟨k, E, w1, w6, w7, ⟨hI.up (by omega), hV⟩, ⟨Ks, _, I, c, t, w8, ?_, w5⟩, fun i a b => (hP i a b).up (by omega), (w9 300 (by omega)).trans hN⟩⟩
    rw [← hX]
    unfold xX
    split <;> rfl
section O9
variable {B : Int} {K : fS} {P : Int → fS} {n : Int} {h : jH}
theorem l_found (hC : lC B K P n h) (hB : B + 1000 ≤ 20000000) : jM mL_found 10 1 6 [300] [.ref 0] h (mOd (B + 1000) K P n (kTry K 0 (-1) (-1)) [(-2, "java/lang/UnsupportedOperationException")] h) jno := by
  obtain ⟨⟨hI, hV⟩, ⟨Ks, X, I, c, t, w2, w3, w5⟩, w4, hN⟩ := hC
  obtain ⟨fs, h0⟩ := w2.o
  refine (w_found (x_found w2 hI hB) h0 (fun r h' z => ⟨_, z.1⟩) (fun E h' z => ?_)).mo fun r h' w => mOd_of hI hV w2 w3 w5 w4 hB hN w
  obtain ⟨z1, z2, z3⟩ := z
  refine ⟨(z3 300 (by omega)).trans hN, ?_⟩
  have k3 := kTry_3 hI (kd := 0) (a := -1) (b := -1) (by decide)
  have k2 := kTry_2 hI (kd := 0) (a := -1) (b := -1) (.inl rfl) (fun q => by omega)
  rcases z1 with ⟨q, _⟩ | ⟨q, _⟩ | ⟨_, q⟩
  · exact absurd q k2
  · exact absurd q k3
  · exact q
theorem l_born (hC : lC B K P n h) {p : Int} (hp : r32 p) (hB : B + 1000 ≤ 20000000) : jM mL_born 10 1 6 [300] [.ref 0, iv p] h (mOd (B + 1000) K P n (kTry K 1 p (-1)) [(-1, "java/lang/IndexOutOfBoundsException"), (-2, "java/lang/UnsupportedOperationException")] h) jno := by
  obtain ⟨⟨hI, hV⟩, ⟨Ks, X, I, c, t, w2, w3, w5⟩, w4, hN⟩ := hC
  obtain ⟨fs, h0⟩ := w2.o
  refine (w_born (x_born w2 hI hp hB) h0 (fun r h' z => ⟨_, z.1⟩) (fun E h' z => ?_)).mo fun r h' w => mOd_of hI hV w2 w3 w5 w4 hB hN w
  obtain ⟨z1, z2, z3⟩ := z
  refine ⟨(z3 300 (by omega)).trans hN, ?_⟩
  have k3 := kTry_3 hI (kd := 1) (a := p) (b := (-1)) (by decide)
  rcases z1 with ⟨_, q⟩ | ⟨q, _⟩ | ⟨_, q⟩
  · exact .inl q
  · exact absurd q k3
  · exact .inr q
theorem l_graft (hC : lC B K P n h) {p o : Int} (hp : r32 p) (ho : r32 o) (hB : B + 1000 ≤ 20000000) : jM mL_graft 10 1 6 [300] [.ref 0, iv p, iv o] h (mOd (B + 1000) K P n (kTry K 2 p o) [(-1, "java/lang/IndexOutOfBoundsException"), (-2, "java/lang/UnsupportedOperationException")] h) jno := by
  obtain ⟨⟨hI, hV⟩, ⟨Ks, X, I, c, t, w2, w3, w5⟩, w4, hN⟩ := hC
  obtain ⟨fs, h0⟩ := w2.o
  refine (w_graft (x_graft w2 hI hp ho hB) h0 (fun r h' z => ⟨_, z.1⟩) (fun E h' z => ?_)).mo fun r h' w => mOd_of hI hV w2 w3 w5 w4 hB hN w
  obtain ⟨z1, z2, z3⟩ := z
  refine ⟨(z3 300 (by omega)).trans hN, ?_⟩
  have k3 := kTry_3 hI (kd := 2) (a := p) (b := o) (by decide)
  rcases z1 with ⟨_, q⟩ | ⟨q, _⟩ | ⟨_, q⟩
  · exact .inl q
  · exact absurd q k3
  · exact .inr q
theorem l_cut (hC : lC B K P n h) {p : Int} (hp : r32 p) (hB : B + 1000 ≤ 20000000) : jM mL_cut 10 1 6 [300] [.ref 0, iv p] h (mOd (B + 1000) K P n (kTry K 3 p (-1)) [(-1, "java/lang/IndexOutOfBoundsException"), (-2, "java/lang/UnsupportedOperationException")] h) jno := by
  obtain ⟨⟨hI, hV⟩, ⟨Ks, X, I, c, t, w2, w3, w5⟩, w4, hN⟩ := hC
  obtain ⟨fs, h0⟩ := w2.o
  refine (w_cut (x_cut w2 hI hp hB) h0 (fun r h' z => ⟨_, z.1⟩) (fun E h' z => ?_)).mo fun r h' w => mOd_of hI hV w2 w3 w5 w4 hB hN w
  obtain ⟨z1, z2, z3⟩ := z
  refine ⟨(z3 300 (by omega)).trans hN, ?_⟩
  have k3 := kTry_3 hI (kd := 3) (a := p) (b := (-1)) (by decide)
  rcases z1 with ⟨_, q⟩ | ⟨q, _⟩ | ⟨_, q⟩
  · exact .inl q
  · exact absurd q k3
  · exact .inr q
theorem l_marry (hC : lC B K P n h) {p o : Int} (hp : r32 p) (ho : r32 o) (hB : B + 1000 ≤ 20000000) : jM mL_marry 10 1 6 [300] [.ref 0, iv p, iv o] h (mOd (B + 1000) K P n (kTry K 4 p o) [(-1, "java/lang/IndexOutOfBoundsException"), (-2, "java/lang/UnsupportedOperationException")] h) jno := by
  obtain ⟨⟨hI, hV⟩, ⟨Ks, X, I, c, t, w2, w3, w5⟩, w4, hN⟩ := hC
  obtain ⟨fs, h0⟩ := w2.o
  refine (w_marry (x_marry w2 hI hp ho hB) h0 (fun r h' z => ⟨_, z.1⟩) (fun E h' z => ?_)).mo fun r h' w => mOd_of hI hV w2 w3 w5 w4 hB hN w
  obtain ⟨z1, z2, z3⟩ := z
  refine ⟨(z3 300 (by omega)).trans hN, ?_⟩
  have k3 := kTry_3 hI (kd := 4) (a := p) (b := o) (by decide)
  rcases z1 with ⟨_, q⟩ | ⟨q, _⟩ | ⟨_, q⟩
  · exact .inl q
  · exact absurd q k3
  · exact .inr q
theorem l_part (hC : lC B K P n h) {p : Int} (hp : r32 p) (hB : B + 1000 ≤ 20000000) : jM mL_part 10 1 6 [300] [.ref 0, iv p] h (mOd (B + 1000) K P n (kTry K 5 p (-1)) [(-1, "java/lang/IndexOutOfBoundsException"), (-2, "java/lang/UnsupportedOperationException")] h) jno := by
  obtain ⟨⟨hI, hV⟩, ⟨Ks, X, I, c, t, w2, w3, w5⟩, w4, hN⟩ := hC
  obtain ⟨fs, h0⟩ := w2.o
  refine (w_part (x_part w2 hI hp hB) h0 (fun r h' z => ⟨_, z.1⟩) (fun E h' z => ?_)).mo fun r h' w => mOd_of hI hV w2 w3 w5 w4 hB hN w
  obtain ⟨z1, z2, z3⟩ := z
  refine ⟨(z3 300 (by omega)).trans hN, ?_⟩
  have k3 := kTry_3 hI (kd := 5) (a := p) (b := (-1)) (by decide)
  rcases z1 with ⟨_, q⟩ | ⟨q, _⟩ | ⟨_, q⟩
  · exact .inl q
  · exact absurd q k3
  · exact .inr q
theorem l_quarrel (hC : lC B K P n h) {p o : Int} (hp : r32 p) (ho : r32 o) (hB : B + 1000 ≤ 20000000) : jM mL_quarrel 10 1 6 [300] [.ref 0, iv p, iv o] h (mOd (B + 1000) K P n (kTry K 6 p o) [(-1, "java/lang/IndexOutOfBoundsException"), (-2, "java/lang/UnsupportedOperationException")] h) jno := by
  obtain ⟨⟨hI, hV⟩, ⟨Ks, X, I, c, t, w2, w3, w5⟩, w4, hN⟩ := hC
  obtain ⟨fs, h0⟩ := w2.o
  refine (w_quarrel (x_quarrel w2 hI hp ho hB) h0 (fun r h' z => ⟨_, z.1⟩) (fun E h' z => ?_)).mo fun r h' w => mOd_of hI hV w2 w3 w5 w4 hB hN w
  obtain ⟨z1, z2, z3⟩ := z
  refine ⟨(z3 300 (by omega)).trans hN, ?_⟩
  have k3 := kTry_3 hI (kd := 6) (a := p) (b := o) (by decide)
  rcases z1 with ⟨_, q⟩ | ⟨q, _⟩ | ⟨_, q⟩
  · exact .inl q
  · exact absurd q k3
  · exact .inr q
theorem l_give (hC : lC B K P n h) {p o : Int} (hp : r32 p) (ho : r32 o) (hB : B + 1000 ≤ 20000000) : jM mL_give 10 1 6 [300] [.ref 0, iv p, iv o] h (mOd (B + 1000) K P n (kTry K 7 p o) [(-1, "java/lang/IndexOutOfBoundsException"), (-2, "java/lang/IllegalArgumentException"), (-3, "java/lang/UnsupportedOperationException")] h) jno := by
  obtain ⟨⟨hI, hV⟩, ⟨Ks, X, I, c, t, w2, w3, w5⟩, w4, hN⟩ := hC
  obtain ⟨fs, h0⟩ := w2.o
  refine (w_give (x_give w2 hI hp ho hB) h0 (fun r h' z => ⟨_, z.1⟩) (fun E h' z => ?_)).mo fun r h' w => mOd_of hI hV w2 w3 w5 w4 hB hN w
  obtain ⟨z1, z2, z3⟩ := z
  refine ⟨(z3 300 (by omega)).trans hN, ?_⟩
  rcases z1 with ⟨_, q⟩ | ⟨_, q⟩ | ⟨_, q⟩
  · exact .inl q
  · exact .inr (.inl q)
  · exact .inr (.inr q)
theorem l_die (hC : lC B K P n h) {p : Int} (hp : r32 p) (hB : B + 1000 ≤ 20000000) : jM mL_die 10 1 6 [300] [.ref 0, iv p] h (mOd (B + 1000) K P n (kTry K 8 p (-1)) [(-2, "java/lang/IndexOutOfBoundsException"), (-3, "java/lang/UnsupportedOperationException")] h) jno := by
  obtain ⟨⟨hI, hV⟩, ⟨Ks, X, I, c, t, w2, w3, w5⟩, w4, hN⟩ := hC
  obtain ⟨fs, h0⟩ := w2.o
  refine (w_die (x_die w2 hI hp hB) h0 (fun r h' z => ⟨_, z.1⟩) (fun E h' z => ?_)).mo fun r h' w => mOd_of hI hV w2 w3 w5 w4 hB hN w
  obtain ⟨z1, z2, z3⟩ := z
  refine ⟨(z3 300 (by omega)).trans hN, ?_⟩
  have k3 := kTry_3 hI (kd := 8) (a := p) (b := (-1)) (by decide)
  rcases z1 with ⟨_, q⟩ | ⟨q, _⟩ | ⟨_, q⟩
  · exact .inl q
  · exact absurd q k3
  · exact .inr q
theorem l_undo (hC : lC B K P n h) (h0n : 0 < n) (hVp : kV (P (n - 1))) : jM mL_undo 8 1 6 [300] [.ref 0] h (fun r h' => r = some (iv (n - 1)) ∧ lC B (P (n - 1)) P (n - 1) h' ∧ ∀ j, 120 ≤ j → h' j = h j) jno := by
  obtain ⟨⟨hI, hV⟩, ⟨Ks, X, I, c, t, w2, w3, w5⟩, w4, hN⟩ := hC
  obtain ⟨fs, h0⟩ := w2.o
  refine (w_undo (x_undo w2 (fun i a b => w4 i a (by omega))) h0 (fun r h' z => ⟨_, z.1⟩) (fun E h' z => ?_)).mo fun r h' w => ?_
  · obtain ⟨z1, z2, rfl⟩ := z; exact ⟨hN, z1⟩
  · rcases w with ⟨w1, w6, w7, w8⟩ | ⟨k, E, w1, w6, w7, w8, w9⟩
    · subst w3
      exact ⟨w1, ⟨⟨w4 _ (by omega) (by omega), hVp⟩, ⟨Ks, _, I, c, t, w7, rfl, w5⟩, fun i a b => w4 i a (by omega), (w8 300 (by omega)).trans hN⟩, fun j hj => w8 j (by omega)⟩
    · omega
theorem l_append {m ch : Int} (hC : lI B K P n m h) (hm : 0 ≤ m ∧ m < 60) (hch : 0 ≤ ch ∧ ch < 65536) : jM mL_append 7 1 6 [300] [.ref 0, iv ch] h (fun r h' => r = some (iv (m + 1)) ∧ lI B K P n (m + 1) h' ∧ ∀ j, 120 ≤ j → h' j = h j) jno := by
  obtain ⟨⟨hI, hV⟩, ⟨Ks, X, I, c, t, w2, w3, w5, w6⟩, w4, hN⟩ := hC
  obtain ⟨fs, h0⟩ := w2.o
  refine (w_append (x_append w2 hI hch (by omega)) h0 (fun r h' z => ⟨_, z.1⟩) (fun E h' z => ?_)).mo fun r h' w => ?_
  · obtain ⟨z1, z2, rfl⟩ := z; exact ⟨hN, z1⟩
  · rcases w with ⟨w1, w7, w8, w9⟩ | ⟨k, E, w1, w7, w8, w9, w10⟩
    · subst w5
      refine ⟨w1, ⟨⟨hI, hV⟩, ⟨Ks, X, _, c, t, w8, w3, rfl, fun j => ?_⟩, w4, (w9 300 (by omega)).trans hN⟩, fun j hj => w9 j (by omega)⟩
      show 0 ≤ jfu (I 0) (I 5 0) ch j ∧ jfu (I 0) (I 5 0) ch j < 65536
      unfold jfu
      split
      · exact hch
      · exact w6 j
    · omega
theorem l_runs {m : Int} (hC : lI B K P n m h) (hm : 0 ≤ m ∧ m ≤ 60) (hB : B + 61000 ≤ 20000000) : jM mL_runs 11 1 6 [300] [.ref 0] h (fun r h' => (∀ j, 120 ≤ j → h' j = h j) ∧ ((∃ v K', r = some (iv v) ∧ (0 ≤ v ∧ v ≤ 100) ∧ lC (B + 61000) K' (xP n P K) (xN n) h') ∨ ∃ v, r = some (iv v) ∧ (v = -1 ∨ v = -2) ∧ lC (B + 61000) K P n h')) jno := by
  obtain ⟨⟨hI, hV⟩, ⟨Ks, X, I, c, t, w2, w3, w5, w6⟩, w4, hN⟩ := hC
  obtain ⟨fs, h0⟩ := w2.o
  have hn := w2.2.2.2.2
  have hl := pAll_len 61 (I 0) (I 5 0) 0 []
  have hl : (pAll (I 0) (I 5 0) 61 0 []).1.length ≤ 61 := by simpa using hl
  have hk := kI_runs (pAll (I 0) (I 5 0) 61 0 []).1 B K hI (by omega)
  have hv := kV_runs (pAll (I 0) (I 5 0) 61 0 []).1 B K hI hV (by omega)
  refine (w_runs (x_run w2 hI (by omega) (by omega) w6) h0 (fun r h' z => ⟨_, z.2.1⟩) (fun E h' z => ?_)).mo fun r h' w => ?_
  · obtain ⟨I', z1, z2, z3, z4⟩ := z
    refine ⟨(z3 300 (by omega)).trans hN, ?_⟩
    rcases z4 with ⟨_, q, _⟩ | ⟨_, ⟨_, q⟩ | ⟨_, q⟩, _⟩
    · exact .inl q
    · exact .inr q
    · exact .inl q
  · rcases w with ⟨y1, y2, y3, I', y4, y5, y6, y7⟩ | ⟨k, E, y1, y2, I', y4, y5, y7, y8⟩
    · refine ⟨fun j hj => y7 j (by omega), .inl ⟨_, _, y2, by omega, ⟨hk.up (by omega), hv⟩, ⟨Ks, _, I', c, t, by rw [← w3]; exact y6, ?_, y5, by rw [y4]; exact w6⟩, ?_, (y7 300 (by omega)).trans hN⟩⟩
      · rw [← w3]; rfl
      · exact xP_kI w4 hI (by omega) (by omega)
    · refine ⟨fun j hj => y7 j (by omega), .inr ⟨k, y1, ?_, ⟨hI.up (by omega), hV⟩, ?_, fun i a b => (w4 i a b).up (by omega), (y7 300 (by omega)).trans hN⟩⟩
      · simp only [List.mem_cons, List.not_mem_nil, or_false, Prod.mk.injEq] at y2
        omega
      · rcases y8 with ⟨_, _, q⟩ | ⟨_, _, q⟩
        · exact ⟨Ks, _, I', c, t, q, w3, y5, by rw [y4]; exact w6⟩
        · refine ⟨Ks, _, I', c, t, q, ?_, y5, by rw [y4]; exact w6⟩
          rw [← w3]
          unfold xX
          split <;> rfl
end O9
