/-! THE LAW'S WORLD, and what readers answer in it -/
def lC (B : Int) (K : fS) (P : Int → fS) (n : Int) (h : jH) : Prop := (kI B K ∧ kV K) ∧ (∃ Ks X I c t, xC K Ks P X I c t h ∧ X 5 0 = n ∧ I 5 0 = 0 ∧ ∀ j, 0 ≤ I 0 j ∧ I 0 j < 65536) ∧ (∀ i, 0 ≤ i → i < n → kI B (P i)) ∧ h 300 = none
theorem xC.o {K Ks X I : fS} {P : Int → fS} {c : Int} {t : Int → Int} {h : jH} (w : xC K Ks P X I c t h) : ∃ fs, h 0 = some (jO 4 fs) := ⟨_, w.1.x.1⟩
theorem lC.eq {B : Int} {K : fS} {P : Int → fS} {n : Int} {h h' : jH} (w : lC B K P n h) (he : ∀ j, j < 120 → h' j = h j) (hN : h' 300 = none) : lC B K P n h' := by
  obtain ⟨w1, ⟨Ks, X, I, c, t, w2, w3⟩, w4, w5⟩ := w
  exact ⟨w1, ⟨Ks, X, I, c, t, w2.eq fun j hj => he j (by omega), w3⟩, w4, hN⟩
/-- an array at a place above -/
theorem lC.up {B : Int} {K : fS} {P : Int → fS} {n : Int} {h : jH} {k : Nat} {x : jC} (w : lC B K P n h) (hk : 300 < k) : lC B K P n (jup h k x) := w.eq (fun j hj => jup_n (by omega) rfl) ((jup_n (by omega) rfl).trans w.2.2.2)
theorem lC.O {B : Int} {K : fS} {P : Int → fS} {n : Int} {h : jH} (w : lC B K P n h) : jOk B K := w.1.1.1
theorem lC.A {B : Int} {K : fS} {P : Int → fS} {n : Int} {h : jH} (w : lC B K P n h) : fAc K := w.1.1.2.1
theorem lC.n {B : Int} {K : fS} {P : Int → fS} {n : Int} {h : jH} (w : lC B K P n h) : 0 ≤ K 6 0 ∧ K 6 0 ≤ 24 := w.O.n
theorem lC.o {B : Int} {K : fS} {P : Int → fS} {n : Int} {h : jH} (w : lC B K P n h) : ∃ fs, h 0 = some (jO 4 fs) := by
  obtain ⟨_, ⟨Ks, X, I, c, t, w2, _⟩, _⟩ := w
  exact w2.o
def zz (q : Int × Int) (a b : Int) : Int := if q.1 = 0 then q.2 else if q.1 = 1 then a else b
theorem rd1 {q : Int × Int} {h h' : jH} {E : String} {a : Int} {r : Option Value} (w : wQ (jOn q h) (jOx [(1, E)] q h) [(a, E)] r h') : jRet (iv (zz q a a)) h r h' := by
  rcases w with ⟨w1, w2, w3⟩ | ⟨k, F, w1, w2, w3, w4⟩
  · exact ⟨by rw [w1]; unfold zz; rw [if_pos w2], w3⟩
  · simp only [List.mem_singleton, Prod.mk.injEq] at w2 w3
    refine ⟨?_, w4⟩
    rw [w1, w2.1]
    unfold zz
    rw [if_neg (by rw [w3.1]; decide), if_pos w3.1]
theorem rd2 {q : Int × Int} {h h' : jH} {E F : String} {a b : Int} {r : Option Value} (hne : E ≠ F) (w : wQ (jOn q h) (jOx [(1, E), (2, F)] q h) [(a, E), (b, F)] r h') : jRet (iv (zz q a b)) h r h' := by
  rcases w with ⟨w1, w2, w3⟩ | ⟨k, G, w1, w2, w3, w4⟩
  · exact ⟨by rw [w1]; unfold zz; rw [if_pos w2], w3⟩
  · simp only [List.mem_cons, List.not_mem_nil, or_false, Prod.mk.injEq] at w2 w3
    refine ⟨?_, w4⟩
    rw [w1]
    unfold zz
    rcases w2 with ⟨u1, u2⟩ | ⟨u1, u2⟩ <;> rcases w3 with ⟨v1, v2⟩ | ⟨v1, v2⟩
    · rw [u1, if_neg (by rw [v1]; decide), if_pos v1]
    · exact absurd (u2.symm.trans v2) hne
    · exact absurd (v2.symm.trans u2) hne
    · rw [u1, if_neg (by rw [v1]; decide), if_neg (by rw [v1]; decide)]
section L86
variable {B : Int} {K : fS} {P : Int → fS} {n : Int} {h : jH}
abbrev r32 (x : Int) : Prop := -2147483648 ≤ x ∧ x ≤ 2147483647
theorem l_of (hC : lC B K P n h) {p w : Int} (hp : r32 p) (hw : r32 w) : jM mL_of 8 2 12 [300] [.ref 0, iv p, iv w] h (jRet (iv (zz (y_personOf K p w) (-11) (-12))) h) jno := by
  obtain ⟨⟨hI, hV⟩, ⟨Ks, X, I, c, t, w2, w3, w5⟩, w4, hN⟩ := hC
  obtain ⟨fs, h0⟩ := w2.o
  refine (w_of (x_personOf w2 hI hp hw) h0 (fun r h' z => ⟨_, z.1⟩) (fun E h' z => ?_)).mo fun r h' w => rd2 (by decide +kernel) w
  obtain ⟨z, rfl⟩ := z
  refine ⟨hN, ?_⟩
  simp only [List.mem_cons, List.not_mem_nil, or_false, Prod.mk.injEq] at z
  rcases z with z | z
  · exact .inl z.2
  · exact .inr z.2
theorem l_elder (hC : lC B K P n h) {p e d : Int} (hp : r32 p) (he : r32 e) (hd : d = 0 ∨ d = 1) : jM mL_elder 8 2 12 [300] [.ref 0, iv p, iv e, iv d] h (jRet (iv (zz (y_elder K p e) (-11) (-13))) h) jno := by
  obtain ⟨⟨hI, hV⟩, ⟨Ks, X, I, c, t, w2, w3, w5⟩, w4, hN⟩ := hC
  obtain ⟨fs, h0⟩ := w2.o
  refine (w_elder (x_elder w2 hI hp he hd) h0 (fun r h' z => ⟨_, z.1⟩) (fun E h' z => ?_)).mo fun r h' w => rd2 (by decide +kernel) w
  obtain ⟨z, rfl⟩ := z
  refine ⟨hN, ?_⟩
  simp only [List.mem_cons, List.not_mem_nil, or_false, Prod.mk.injEq] at z
  rcases z with z | z
  · exact .inl z.2
  · exact .inr z.2
theorem l_common (hC : lC B K P n h) {p o d : Int} (hp : r32 p) (ho : r32 o) (hd : d = 0 ∨ d = 1) : jM mL_common 8 3 18 [300] [.ref 0, iv p, iv o, iv d] h (jRet (iv (zz (y_common K p o) (-11) (-13))) h) jno := by
  obtain ⟨⟨hI, hV⟩, ⟨Ks, X, I, c, t, w2, w3, w5⟩, w4, hN⟩ := hC
  obtain ⟨fs, h0⟩ := w2.o
  refine (w_common (x_common w2 hI hp ho hd) h0 (fun r h' z => ⟨_, z.1⟩) (fun E h' z => ?_)).mo fun r h' w => rd2 (by decide +kernel) w
  obtain ⟨z, rfl⟩ := z
  refine ⟨hN, ?_⟩
  simp only [List.mem_cons, List.not_mem_nil, or_false, Prod.mk.injEq] at z
  rcases z with z | z
  · exact .inl z.2
  · exact .inr z.2
theorem l_degree (hC : lC B K P n h) {p o : Int} (hp : r32 p) (ho : r32 o) : jM mL_degree 8 3 18 [300] [.ref 0, iv p, iv o] h (jRet (iv (zz (y_degree K p o) (-11) (-13))) h) jno := by
  obtain ⟨⟨hI, hV⟩, ⟨Ks, X, I, c, t, w2, w3, w5⟩, w4, hN⟩ := hC
  obtain ⟨fs, h0⟩ := w2.o
  refine (w_degree (x_degree w2 hI hp ho) h0 (fun r h' z => ⟨_, z.1⟩) (fun E h' z => ?_)).mo fun r h' w => rd2 (by decide +kernel) w
  obtain ⟨z, rfl⟩ := z
  refine ⟨hN, ?_⟩
  simp only [List.mem_cons, List.not_mem_nil, or_false, Prod.mk.injEq] at z
  rcases z with z | z
  · exact .inl z.2
  · exact .inr z.2
theorem l_leaps (hC : lC B K P n h) {p e : Int} (hp : r32 p) (he : r32 e) : jM mL_leaps 8 2 12 [300] [.ref 0, iv p, iv e] h (jRet (iv (zz (y_leaps K p e) (-11) (-13))) h) jno := by
  obtain ⟨⟨hI, hV⟩, ⟨Ks, X, I, c, t, w2, w3, w5⟩, w4, hN⟩ := hC
  obtain ⟨fs, h0⟩ := w2.o
  refine (w_leaps (x_leaps w2 hI hp he) h0 (fun r h' z => ⟨_, z.1⟩) (fun E h' z => ?_)).mo fun r h' w => rd2 (by decide +kernel) w
  obtain ⟨z, rfl⟩ := z
  refine ⟨hN, ?_⟩
  simp only [List.mem_cons, List.not_mem_nil, or_false, Prod.mk.injEq] at z
  rcases z with z | z
  · exact .inl z.2
  · exact .inr z.2
theorem l_descendant (hC : lC B K P n h) {p q : Int} (hp : r32 p) (hq : r32 q) : jM mL_descendant 8 2 12 [300] [.ref 0, iv p, iv q] h (jRet (iv (zz (y_descendant K p q) (-11) (-13))) h) jno := by
  obtain ⟨⟨hI, hV⟩, ⟨Ks, X, I, c, t, w2, w3, w5⟩, w4, hN⟩ := hC
  obtain ⟨fs, h0⟩ := w2.o
  refine (w_descendant (x_descendant w2 hI hp hq) h0 (fun r h' z => ⟨_, z.1⟩) (fun E h' z => ?_)).mo fun r h' w => rd2 (by decide +kernel) w
  obtain ⟨z, rfl⟩ := z
  refine ⟨hN, ?_⟩
  simp only [List.mem_cons, List.not_mem_nil, or_false, Prod.mk.injEq] at z
  rcases z with z | z
  · exact .inl z.2
  · exact .inr z.2
theorem l_quarrelAt (hC : lC B K P n h) {p d : Int} (hp : r32 p) (hd : d = 0 ∨ d = 1) : jM mL_quarrelAt 7 1 6 [300] [.ref 0, iv p, iv d] h (jRet (iv (zz (y_quarrelAt K p d) (-13) (-13))) h) jno := by
  obtain ⟨⟨hI, hV⟩, ⟨Ks, X, I, c, t, w2, w3, w5⟩, w4, hN⟩ := hC
  obtain ⟨fs, h0⟩ := w2.o
  refine (w_quarrelAt (x_quarrelAt w2 hI hp hd) h0 (fun r h' z => ⟨_, z.1⟩) (fun E h' z => ?_)).mo fun r h' w => rd1 w
  obtain ⟨z, rfl⟩ := z
  refine ⟨hN, ?_⟩
  simp only [List.mem_cons, List.not_mem_nil, or_false, Prod.mk.injEq] at z
  exact z.2
theorem l_heir (hC : lC B K P n h) {p : Int} (hp : r32 p) : jM mL_heir 8 2 12 [300] [.ref 0, iv p] h (jRet (iv (zz (y_heir K p) (-11) (-14))) h) jno := by
  obtain ⟨⟨hI, hV⟩, ⟨Ks, X, I, c, t, w2, w3, w5⟩, w4, hN⟩ := hC
  obtain ⟨fs, h0⟩ := w2.o
  refine (w_heir (x_heir w2 hI hp) h0 (fun r h' z => ⟨_, z.1⟩) (fun E h' z => ?_)).mo fun r h' w => rd2 (by decide +kernel) w
  obtain ⟨z, rfl⟩ := z
  refine ⟨hN, ?_⟩
  simp only [List.mem_cons, List.not_mem_nil, or_false, Prod.mk.injEq] at z
  rcases z with z | z
  · exact .inl z.2
  · exact .inr z.2
theorem zz_0 {q : Int × Int} {x a b : Int} (h : q = (0, x)) : zz q a b = x := by rw [h]; exact if_pos rfl
theorem zz_1 {q : Int × Int} {x a b : Int} (h : q = (1, x)) : zz q a b = a := by rw [h]; exact (if_neg (show ¬ (1 : Int) = 0 by decide)).trans (if_pos rfl)
theorem zz_2 {q : Int × Int} {x a b : Int} (h : q = (2, x)) : zz q a b = b := by rw [h]; exact (if_neg (show ¬ (2 : Int) = 0 by decide)).trans (if_neg (show ¬ (2 : Int) = 1 by decide))
/-- the same answer, said otherwise -/
theorem jM.is {M : jMe} {d mc ms : Nat} {nw : List Nat} {a0 : List Value} {x y : Int} (hM : jM M d mc ms nw a0 h (jRet (iv x) h) jno) (e : x = y) : jM M d mc ms nw a0 h (jRet (iv y) h) jno := e ▸ hM
theorem l_of0 (hC : lC B K P n h) {p : Int} (hp : 0 ≤ p ∧ p < K 6 0) : jM mL_of 8 2 12 [300] [.ref 0, iv p, iv 0] h (jRet (iv (K 0 p)) h) jno := by
  have hn := hC.n
  refine (l_of hC (p := p) (w := 0) (by omega) (by decide)).is (zz_0 ?_)
  exact (if_pos hp).trans ((if_pos (by decide)).trans (congrArg (Prod.mk 0) ((if_neg (by decide)).trans ((if_neg (by decide)).trans (by unfold y_per; simp)))))
theorem l_of1 (hC : lC B K P n h) {p : Int} (hp : 0 ≤ p ∧ p < K 6 0) : jM mL_of 8 2 12 [300] [.ref 0, iv p, iv 1] h (jRet (iv (fdep K p)) h) jno := by
  have hn := hC.n
  refine (l_of hC (p := p) (w := 1) (by omega) (by decide)).is (zz_0 ?_)
  exact (if_pos hp).trans ((if_pos (by decide)).trans (congrArg (Prod.mk 0) ((if_neg (by decide)).trans ((if_neg (by decide)).trans (by unfold y_per; simp)))))
theorem l_of2 (hC : lC B K P n h) {p : Int} (hp : 0 ≤ p ∧ p < K 6 0) : jM mL_of 8 2 12 [300] [.ref 0, iv p, iv 2] h (jRet (iv (csum (fun c => bi (K 0 c = p)) (K 6 0).toNat)) h) jno := by
  have hn := hC.n
  refine (l_of hC (p := p) (w := 2) (by omega) (by decide)).is (zz_0 ?_)
  exact (if_pos hp).trans ((if_pos (by decide)).trans (congrArg (Prod.mk 0) ((if_neg (by decide)).trans ((if_neg (by decide)).trans (by unfold y_per; simp)))))
theorem l_of3 (hC : lC B K P n h) {p : Int} (hp : 0 ≤ p ∧ p < K 6 0) : jM mL_of 8 2 12 [300] [.ref 0, iv p, iv 3] h (jRet (iv (((des K 24 p).length : Int))) h) jno := by
  have hn := hC.n
  refine (l_of hC (p := p) (w := 3) (by omega) (by decide)).is (zz_0 ?_)
  exact (if_pos hp).trans ((if_pos (by decide)).trans (congrArg (Prod.mk 0) ((if_neg (by decide)).trans ((if_neg (by decide)).trans (by unfold y_per; simp)))))
theorem l_of4 (hC : lC B K P n h) {p : Int} (hp : 0 ≤ p ∧ p < K 6 0) : jM mL_of 8 2 12 [300] [.ref 0, iv p, iv 4] h (jRet (iv (K 1 p)) h) jno := by
  have hn := hC.n
  refine (l_of hC (p := p) (w := 4) (by omega) (by decide)).is (zz_0 ?_)
  exact (if_pos hp).trans ((if_pos (by decide)).trans (congrArg (Prod.mk 0) ((if_neg (by decide)).trans ((if_neg (by decide)).trans (by unfold y_per; simp)))))
theorem l_of5 (hC : lC B K P n h) {p : Int} (hp : 0 ≤ p ∧ p < K 6 0) : jM mL_of 8 2 12 [300] [.ref 0, iv p, iv 5] h (jRet (iv (K 2 p)) h) jno := by
  have hn := hC.n
  refine (l_of hC (p := p) (w := 5) (by omega) (by decide)).is (zz_0 ?_)
  exact (if_pos hp).trans ((if_pos (by decide)).trans (congrArg (Prod.mk 0) ((if_neg (by decide)).trans ((if_neg (by decide)).trans (by unfold y_per; simp)))))
theorem l_of6 (hC : lC B K P n h) {p : Int} (hp : 0 ≤ p ∧ p < K 6 0) : jM mL_of 8 2 12 [300] [.ref 0, iv p, iv 6] h (jRet (iv (K 3 p)) h) jno := by
  have hn := hC.n
  refine (l_of hC (p := p) (w := 6) (by omega) (by decide)).is (zz_0 ?_)
  exact (if_pos hp).trans ((if_pos (by decide)).trans (congrArg (Prod.mk 0) ((if_neg (by decide)).trans ((if_neg (by decide)).trans (by unfold y_per; simp)))))
theorem l_of7 (hC : lC B K P n h) {p : Int} (hp : 0 ≤ p ∧ p < K 6 0) : jM mL_of 8 2 12 [300] [.ref 0, iv p, iv 7] h (jRet (iv (frt K p)) h) jno := by
  have hn := hC.n
  refine (l_of hC (p := p) (w := 7) (by omega) (by decide)).is (zz_0 ?_)
  exact (if_pos hp).trans ((if_pos (by decide)).trans (congrArg (Prod.mk 0) ((if_neg (by decide)).trans ((if_neg (by decide)).trans (by unfold y_per; simp)))))
theorem l_of8 (hC : lC B K P n h) {p : Int} (hp : 0 ≤ p ∧ p < K 6 0) : jM mL_of 8 2 12 [300] [.ref 0, iv p, iv 8] h (jRet (iv (fho K p)) h) jno := by
  have hn := hC.n
  refine (l_of hC (p := p) (w := 8) (by omega) (by decide)).is (zz_0 ?_)
  exact (if_pos hp).trans ((if_pos (by decide)).trans (congrArg (Prod.mk 0) (if_pos rfl)))
theorem l_of9 (hC : lC B K P n h) {p : Int} (hp : 0 ≤ p ∧ p < K 6 0) : jM mL_of 8 2 12 [300] [.ref 0, iv p, iv 9] h (jRet (iv (csum (fun z => bi (K 4 z = p ∨ K 5 z = p)) (K 7 0).toNat)) h) jno := by
  have hn := hC.n
  refine (l_of hC (p := p) (w := 9) (by omega) (by decide)).is (zz_0 ?_)
  exact (if_pos hp).trans ((if_pos (by decide)).trans (congrArg (Prod.mk 0) ((if_neg (by decide)).trans (if_pos rfl))))
theorem l_of10 (hC : lC B K P n h) {p : Int} (hp : 0 ≤ p ∧ p < K 6 0) : jM mL_of 8 2 12 [300] [.ref 0, iv p, iv 10] h (jRet (iv (-12)) h) jno := by
  have hn := hC.n
  exact (l_of hC (p := p) (w := 10) (by omega) (by decide)).is (zz_2 (x := 0) ((if_pos hp).trans (if_neg (by decide))))
theorem l_ofN (hC : lC B K P n h) {p w : Int} (hp : p = K 6 0) (hw : r32 w) : jM mL_of 8 2 12 [300] [.ref 0, iv p, iv w] h (jRet (iv (-11)) h) jno := by
  have hn := hC.n
  exact (l_of hC (p := p) (w := w) (by omega) hw).is (zz_1 (x := 0) (if_neg (by omega)))
theorem l_elderY (hC : lC B K P n h) {p e d : Int} (hp : 0 ≤ p ∧ p < K 6 0) (he : 0 ≤ e ∧ e ≤ fdep K p) (hd : d = 0 ∨ d = 1) : jM mL_elder 8 2 12 [300] [.ref 0, iv p, iv e, iv d] h (jRet (iv (upk (K 0) e.toNat p)) h) jno := by
  have hn := hC.n
  have hf := fdep_rg K p
  exact (l_elder hC (p := p) (e := e) (d := d) (by omega) (by omega) hd).is (zz_0 ((if_pos hp).trans ((if_pos he).trans (by rw [fup_e he]))))
theorem l_elderN (hC : lC B K P n h) {p e d : Int} (hp : 0 ≤ p ∧ p < K 6 0) (he : r32 e) (hn9 : ¬ (0 ≤ e ∧ e ≤ fdep K p)) (hd : d = 0 ∨ d = 1) : jM mL_elder 8 2 12 [300] [.ref 0, iv p, iv e, iv d] h (jRet (iv (-13)) h) jno := by
  have hn := hC.n
  exact (l_elder hC (p := p) (e := e) (d := d) (by omega) he hd).is (zz_2 (x := 0) ((if_pos hp).trans (if_neg hn9)))
theorem l_elderO (hC : lC B K P n h) {p e d : Int} (hp : p = K 6 0) (he : r32 e) (hd : d = 0 ∨ d = 1) : jM mL_elder 8 2 12 [300] [.ref 0, iv p, iv e, iv d] h (jRet (iv (-11)) h) jno := by
  have hn := hC.n
  exact (l_elder hC (p := p) (e := e) (d := d) (by omega) he hd).is (zz_1 (x := 0) (if_neg (by omega)))
theorem l_commonY (hC : lC B K P n h) {p o d : Int} (hp : 0 ≤ p ∧ p < K 6 0) (ho : 0 ≤ o ∧ o < K 6 0) (he : frt K p = frt K o) (hd : d = 0 ∨ d = 1) : jM mL_common 8 3 18 [300] [.ref 0, iv p, iv o, iv d] h (jRet (iv (flc K p o)) h) jno := by
  have hn := hC.n
  exact (l_common hC (p := p) (o := o) (d := d) (by omega) (by omega) hd).is (zz_0 ((if_pos ⟨hp, ho⟩).trans (if_pos he)))
theorem l_commonN (hC : lC B K P n h) {p o d : Int} (hp : 0 ≤ p ∧ p < K 6 0) (ho : 0 ≤ o ∧ o < K 6 0) (he : ¬ frt K p = frt K o) (hd : d = 0 ∨ d = 1) : jM mL_common 8 3 18 [300] [.ref 0, iv p, iv o, iv d] h (jRet (iv (-13)) h) jno := by
  have hn := hC.n
  exact (l_common hC (p := p) (o := o) (d := d) (by omega) (by omega) hd).is (zz_2 (x := 0) ((if_pos ⟨hp, ho⟩).trans (if_neg he)))
theorem l_commonO (hC : lC B K P n h) {p o d : Int} (hp : r32 p) (ho : r32 o) (he : p = K 6 0 ∨ o = K 6 0) (hd : d = 0 ∨ d = 1) : jM mL_common 8 3 18 [300] [.ref 0, iv p, iv o, iv d] h (jRet (iv (-11)) h) jno :=
  (l_common hC (p := p) (o := o) (d := d) hp ho hd).is (zz_1 (x := 0) (if_neg (by omega)))
theorem l_degreeY (hC : lC B K P n h) {p o : Int} (hp : 0 ≤ p ∧ p < K 6 0) (ho : 0 ≤ o ∧ o < K 6 0) (he : frt K p = frt K o) : jM mL_degree 8 3 18 [300] [.ref 0, iv p, iv o] h (jRet (iv (faw K p o)) h) jno := by
  have hn := hC.n
  exact (l_degree hC (p := p) (o := o) (by omega) (by omega)).is (zz_0 ((if_pos ⟨hp, ho⟩).trans (if_pos he)))
theorem l_degreeN (hC : lC B K P n h) {p o : Int} (hp : 0 ≤ p ∧ p < K 6 0) (ho : 0 ≤ o ∧ o < K 6 0) (he : ¬ frt K p = frt K o) : jM mL_degree 8 3 18 [300] [.ref 0, iv p, iv o] h (jRet (iv (-13)) h) jno := by
  have hn := hC.n
  exact (l_degree hC (p := p) (o := o) (by omega) (by omega)).is (zz_2 (x := 0) ((if_pos ⟨hp, ho⟩).trans (if_neg he)))
theorem l_degreeO (hC : lC B K P n h) {p o : Int} (hp : r32 p) (ho : r32 o) (he : p = K 6 0 ∨ o = K 6 0) : jM mL_degree 8 3 18 [300] [.ref 0, iv p, iv o] h (jRet (iv (-11)) h) jno :=
  (l_degree hC (p := p) (o := o) hp ho).is (zz_1 (x := 0) (if_neg (by omega)))
theorem l_leapsY (hC : lC B K P n h) {p e : Int} (hp : 0 ≤ p ∧ p < K 6 0) (he : 0 ≤ e ∧ e ≤ fdep K p) : jM mL_leaps 8 2 12 [300] [.ref 0, iv p, iv e] h (jRet (iv (mlp 5 e)) h) jno := by
  have hn := hC.n
  have hf := fdep_rg K p
  exact (l_leaps hC (p := p) (e := e) (by omega) (by omega)).is (zz_0 ((if_pos hp).trans (if_pos he)))
theorem l_leapsN (hC : lC B K P n h) {p e : Int} (hp : 0 ≤ p ∧ p < K 6 0) (he : r32 e) (hn9 : ¬ (0 ≤ e ∧ e ≤ fdep K p)) : jM mL_leaps 8 2 12 [300] [.ref 0, iv p, iv e] h (jRet (iv (-13)) h) jno := by
  have hn := hC.n
  exact (l_leaps hC (p := p) (e := e) (by omega) he).is (zz_2 (x := 0) ((if_pos hp).trans (if_neg hn9)))
theorem l_descendantY (hC : lC B K P n h) {p : Int} {q : Int} (hp : 0 ≤ p ∧ p < K 6 0) (hq : 0 ≤ q ∧ q < ((des K 24 p).length : Int)) : jM mL_descendant 8 2 12 [300] [.ref 0, iv p, iv q] h (jRet (iv (((des K 24 p)[q.toNat]?).getD 0)) h) jno := by
  have hn := hC.n
  have hl := des_len hC.O hC.A 24 (p := p) (by omega)
  exact (l_descendant hC (p := p) (q := q) (by omega) (by omega)).is (zz_0 ((if_pos hp).trans (if_pos hq)))
theorem l_descendantN (hC : lC B K P n h) {p : Int} {q : Int} (hp : 0 ≤ p ∧ p < K 6 0) (hr : r32 q) (hq : ¬ (0 ≤ q ∧ q < ((des K 24 p).length : Int))) : jM mL_descendant 8 2 12 [300] [.ref 0, iv p, iv q] h (jRet (iv (-13)) h) jno := by
  have hn := hC.n
  exact (l_descendant hC (p := p) (q := q) (by omega) hr).is (zz_2 (x := 0) ((if_pos hp).trans (if_neg hq)))
theorem l_quarrelAt0 (hC : lC B K P n h) {p : Int} (hp : 0 ≤ p ∧ p < K 7 0) : jM mL_quarrelAt 7 1 6 [300] [.ref 0, iv p, iv 0] h (jRet (iv (K 4 p)) h) jno := by
  have hq := hC.O.q
  exact (l_quarrelAt hC (p := p) (d := 0) (by omega) (.inl rfl)).is (zz_0 ((if_pos hp).trans (congrArg (Prod.mk 0) (if_pos rfl))))
theorem l_quarrelAt1 (hC : lC B K P n h) {p : Int} (hp : 0 ≤ p ∧ p < K 7 0) : jM mL_quarrelAt 7 1 6 [300] [.ref 0, iv p, iv 1] h (jRet (iv (K 5 p)) h) jno := by
  have hq := hC.O.q
  exact (l_quarrelAt hC (p := p) (d := 1) (by omega) (.inr rfl)).is (zz_0 ((if_pos hp).trans (congrArg (Prod.mk 0) (if_neg (by decide)))))
theorem l_quarrelAtN (hC : lC B K P n h) {p : Int} (hp : p = K 7 0) : jM mL_quarrelAt 7 1 6 [300] [.ref 0, iv p, iv 0] h (jRet (iv (-13)) h) jno := by
  have hq := hC.O.q
  exact (l_quarrelAt hC (p := p) (d := 0) (by omega) (.inl rfl)).is (zz_1 (x := 0) (if_neg (by omega)))
theorem l_heirY (hC : lC B K P n h) {p : Int} (hp : 0 ≤ p ∧ p < K 6 0) (hl : K 3 p ≠ 0) : jM mL_heir 8 2 12 [300] [.ref 0, iv p] h (jRet (iv (fhe K p)) h) jno := by
  have hn := hC.n
  exact (l_heir hC (p := p) (by omega)).is (zz_0 ((if_pos hp).trans (if_neg hl)))
theorem l_heirN (hC : lC B K P n h) {p : Int} (hp : 0 ≤ p ∧ p < K 6 0) (hl : K 3 p = 0) : jM mL_heir 8 2 12 [300] [.ref 0, iv p] h (jRet (iv (-14)) h) jno := by
  have hn := hC.n
  exact (l_heir hC (p := p) (by omega)).is (zz_2 (x := 0) ((if_pos hp).trans (if_pos hl)))
theorem l_heirO (hC : lC B K P n h) {p : Int} (hp : p = K 6 0) : jM mL_heir 8 2 12 [300] [.ref 0, iv p] h (jRet (iv (-11)) h) jno := by
  have hn := hC.n
  exact (l_heir hC (p := p) (by omega)).is (zz_1 (x := 0) (if_neg (by omega)))
theorem l_farthest (hC : lC B K P n h) {p : Int} (hp : 0 ≤ p ∧ p < K 6 0) : jM mL_farthest 8 1 6 [300] [.ref 0, iv p] h (fun r h' => h = h' ∧ ∃ x, r = some (iv x) ∧ isFar K p x) jno := by
  have hn := hC.n
  obtain ⟨⟨hI, hV⟩, ⟨Ks, X, I, c, t, w2, w3, w5⟩, w4, hN⟩ := hC
  obtain ⟨fs, h0⟩ := w2.o
  refine (w_farthest (x_farthest w2 hI (by omega)) h0 (fun r h' z => ?_) (fun E h' z => ?_)).mo fun r h' w => ?_
  · obtain ⟨_, x, z, _⟩ := z; exact ⟨x, z⟩
  · obtain ⟨z1, rfl, z3⟩ := z; exact ⟨hN, z1⟩
  · rcases w with ⟨w1, x, w2, w3, w4⟩ | ⟨k, F, w1, w2, w3, w4, w5⟩
    · exact ⟨w1, x, w2, w4⟩
    · exact absurd hp w5
theorem l_farthestO (hC : lC B K P n h) {p : Int} (hp : p = K 6 0) : jM mL_farthest 8 1 6 [300] [.ref 0, iv p] h (jRet (iv (-11)) h) jno := by
  have hn := hC.n
  obtain ⟨⟨hI, hV⟩, ⟨Ks, X, I, c, t, w2, w3, w5⟩, w4, hN⟩ := hC
  obtain ⟨fs, h0⟩ := w2.o
  refine (w_farthest (x_farthest w2 hI (by omega)) h0 (fun r h' z => ?_) (fun E h' z => ?_)).mo fun r h' w => ?_
  · obtain ⟨_, x, z, _⟩ := z; exact ⟨x, z⟩
  · obtain ⟨z1, rfl, z3⟩ := z; exact ⟨hN, z1⟩
  · rcases w with ⟨w1, x, w2, w3, w4⟩ | ⟨k, F, w1, w2, w3, w4, w5⟩
    · omega
    · simp only [List.mem_singleton, Prod.mk.injEq] at w2
      exact ⟨by rw [w1, w2.1], w4⟩
theorem l_ranked (hC : lC B K P n h) {q : Int} (hq : 0 ≤ q ∧ q < K 6 0) : jM mL_ranked 7 1 6 [300] [.ref 0, iv q] h (fun r h' => h = h' ∧ ∃ x, r = some (iv x) ∧ (0 ≤ x ∧ x < K 6 0) ∧ krk K x = q) jno := by
  have hn := hC.n
  obtain ⟨⟨hI, hV⟩, ⟨Ks, X, I, c, t, w2, w3, w5⟩, w4, hN⟩ := hC
  obtain ⟨fs, h0⟩ := w2.o
  refine (w_ranked (x_ranked w2 hI (by omega)) h0 (fun r h' z => ?_) (fun E h' z => ?_)).mo fun r h' w => ?_
  · obtain ⟨_, x, z, _⟩ := z; exact ⟨x, z⟩
  · obtain ⟨z1, rfl, z3⟩ := z; exact ⟨hN, z1⟩
  · rcases w with w1 | ⟨k, F, w1, w2, w3, w4, w5⟩
    · exact w1
    · exact absurd hq w5
theorem l_rankedO (hC : lC B K P n h) {q : Int} (hq : q = K 6 0) : jM mL_ranked 7 1 6 [300] [.ref 0, iv q] h (jRet (iv (-13)) h) jno := by
  have hn := hC.n
  obtain ⟨⟨hI, hV⟩, ⟨Ks, X, I, c, t, w2, w3, w5⟩, w4, hN⟩ := hC
  obtain ⟨fs, h0⟩ := w2.o
  refine (w_ranked (x_ranked w2 hI (by omega)) h0 (fun r h' z => ?_) (fun E h' z => ?_)).mo fun r h' w => ?_
  · obtain ⟨_, x, z, _⟩ := z; exact ⟨x, z⟩
  · obtain ⟨z1, rfl, z3⟩ := z; exact ⟨hN, z1⟩
  · rcases w with ⟨w1, x, w2, w3, w4⟩ | ⟨k, F, w1, w2, w3, w4, w5⟩
    · have := krk_rg hI.1 w3
      omega
    · simp only [List.mem_singleton, Prod.mk.injEq] at w2
      exact ⟨by rw [w1, w2.1], w4⟩
/-- an account: what it answers -/
def acc (K : fS) (w : Int) : Int := if w = 0 then K 6 0 else if w = 1 then csum (fun c => bi (K 3 c ≠ 0)) (K 6 0).toNat else if w = 2 then kOaks K else if w = 3 then csum (fun c => bi (K 1 c > c)) (K 6 0).toNat else if w = 4 then K 7 0 else if w = 5 then K 8 0 else if w = 6 then cmax (fun c => fdep K c) (K 6 0).toNat else if w = 7 then csum (fun c => K 2 c) (K 6 0).toNat else if w = 8 then K 9 0 else K 10 0
theorem l_account (hC : lC B K P n h) {w : Int} (hw : 0 ≤ w ∧ w ≤ 9) : jM mX4_account 6 1 6 [] [.ref 0, iv w] h (jRet (iv (acc K w)) h) jno := by
  obtain ⟨⟨hI, hV⟩, ⟨Ks, X, I, c, t, w2, w3, w5⟩, w4, hN⟩ := hC
  have hM := x_account w2 hI (w := w) (by omega)
  have e : y_account K X I w = (0, acc K w) := by
    refine (if_pos (by omega)).trans (congrArg (Prod.mk 0) ?_)
    unfold acc
    by_cases h9 : w = 9
    · subst h9; rfl
    · split
      · rfl
      split
      · rfl
      split
      · rfl
      split
      · rfl
      split
      · rfl
      split
      · rfl
      split
      · rfl
      split
      · rfl
      split
      · rfl
      omega
  rw [e] at hM
  intro l hl D cy ad bs p e ha hc hk s m args below hf happ hP hK
  obtain ⟨n, o, h1, h2, h3, h4⟩ := hM l hl D cy ad bs p e ha hc hk s m args below hf happ hP hK
  refine ⟨n, o, h1, h2, h3, ?_⟩
  rcases h4 with ⟨⟨r, h', ad', z1, z2, z3⟩, z4⟩ | ⟨q, z0, E, ce, Lq, ⟨h', ad', hp, z1⟩, z2⟩
  · exact .inl ⟨⟨r, h', ad', z1, ⟨z2.1, z2.2.2⟩, z3⟩, z4⟩
  · exfalso
    have := hp.1
    simp at this
end L86
