/-! THE OTHER CALLS -/
theorem wP.r {f : Int → Int} {Pn : jPn} {Px : jPx} {es : List (Int × String)} {r : Option Value} {h1 : jH} (w : wP f Pn Px es r h1) : ∃ k, r = some (iv k) := by
  rcases w with ⟨_, _, e, _⟩ | ⟨k, _, e, _⟩
  · exact ⟨_, e⟩
  · exact ⟨_, e⟩
theorem wP.k {h : jH} {f : Int → Int} {Pn : jPn} {Px : jPx} {es : List (Int × String)} {r : Option Value} {h1 : jH} (w : wP f Pn Px es r h1) (hk : ∀ r h', Pn r h' → ∀ j, 120 ≤ j → h' j = h j) (hkx : ∀ E h', Px E h' → ∀ j, 120 ≤ j → h' j = h j) : lK h h1 := by
  rcases w with ⟨v, h', rfl, hp, rfl⟩ | ⟨k, E, rfl, hm, hp⟩
  · exact fun j j0 j1 => (jup_n j1 rfl).trans (hk _ _ hp j j0)
  · exact fun j j0 j1 => hkx _ _ hp j j0

set_option maxHeartbeats 2000000 in
theorem o_farthest {B : Int} {K Ks : fS} {P : Int → fS} {X I : fS} {c : Int} {t : Int → Int} {G : fS} {h : jH} {f : Int → Int} (hI : lI B K Ks P X I c t G h) (hB : B + 31000 ≤ 20000000) (hb : 0 ≤ B) (h220 : h 220 = some (jA 4 1 f)) {p : Int} (hp : -2147483648 ≤ p ∧ p ≤ 2147483647) : jM mL_farthest 8 1 6 [300] [.ref 0, iv p, .ref 220] h (fun r h1 => lK h h1 ∧ (∃ k, r = some (iv k)) ∧ ∀ x G', m_farQ G p x G' → oP (B + 31000) h (x, G') r h1) jno := by
  obtain ⟨hK, hKI⟩ := hI.k
  obtain ⟨fs, h0⟩ := hI.1.o
  have h300 := hI.2.2.2.2
  have hup : B ≤ B + 31000 ∧ B + 31000 ≤ 20000000 := ⟨by omega, hB⟩
  have k1 : ∀ r h', (fun r h' => h = h' ∧ ∃ x, r = some (iv x) ∧ (0 ≤ p ∧ p < K 6 0) ∧ isFar K p x : jPn) r h' → ∀ j, 120 ≤ j → h' j = h j := fun r h' z => by obtain ⟨rfl, _⟩ := z; exact fun _ _ => rfl
  have k2 : ∀ E h', (fun E h' => E = "java/lang/IndexOutOfBoundsException" ∧ h = h' ∧ ¬ (0 ≤ p ∧ p < K 6 0) : jPx) E h' → ∀ j, 120 ≤ j → h' j = h j := fun r h' z => by obtain ⟨_, rfl, _⟩ := z; exact fun _ _ => rfl
  refine (w_farthest (f := f) (x_farthest hI.1 hKI hp) h0 (fun r h' z => ?_) (fun E h' z => ?_)).mo fun r h' w => ⟨w.k k1 k2, w.r, fun x G' hm => ?_⟩
  · obtain ⟨rfl, x, rfl, _⟩ := z; exact ⟨⟨_, rfl⟩, h220⟩
  · obtain ⟨rfl, rfl, _⟩ := z; exact ⟨h300, rfl⟩
  · have hR := hI.2.2.1
    subst hK
    refine oP_of hI.2.2.2.1 h300 w k1 k2 h220 (fun v h' z => ?_) (fun k E h' hm2 z => ?_)
    · obtain ⟨rfl, x', z1, z2, z3⟩ := z
      rcases hm with ⟨a, _⟩ | ⟨a, rfl, b⟩
      · exact absurd z2 a
      · exact ⟨_, _, _, _, _, _, _, hI.1, (hR.rd2 (fun i hi => gs_n (by omega)) rfl rfl).up hup, rfl, (iv_i z1).trans (congrArg nz (isFar_u z3 b))⟩
    · obtain ⟨_, rfl, z2⟩ := z
      rcases hm with ⟨a, _, rfl⟩ | ⟨a, _⟩
      · simp only [List.mem_singleton, Prod.mk.injEq] at hm2
        rw [hm2.1]
        exact ⟨_, _, _, _, _, _, _, hI.1, (hR.rd2 (fun i hi => gs_n (by omega)) rfl rfl).up hup, rfl, by decide, by decide⟩
      · exact absurd a z2
set_option maxHeartbeats 2000000 in
theorem o_ranked {B : Int} {K Ks : fS} {P : Int → fS} {X I : fS} {c : Int} {t : Int → Int} {G : fS} {h : jH} {f : Int → Int} (hI : lI B K Ks P X I c t G h) (hB : B + 31000 ≤ 20000000) (hb : 0 ≤ B) (h220 : h 220 = some (jA 4 1 f)) {q : Int} (hq : -2147483648 ≤ q ∧ q ≤ 2147483647) : jM mL_ranked 7 1 6 [300] [.ref 0, iv q, .ref 220] h (oP (B + 31000) h (m_ranked G q)) jno := by
  obtain ⟨hK, hKI⟩ := hI.k
  obtain ⟨fs, h0⟩ := hI.1.o
  have h300 := hI.2.2.2.2
  have hup : B ≤ B + 31000 ∧ B + 31000 ≤ 20000000 := ⟨by omega, hB⟩
  have k1 : ∀ r h', (fun r h' => h = h' ∧ ∃ x, r = some (iv x) ∧ (0 ≤ x ∧ x < K 6 0) ∧ krk K x = q : jPn) r h' → ∀ j, 120 ≤ j → h' j = h j := fun r h' z => by obtain ⟨rfl, _⟩ := z; exact fun _ _ => rfl
  have k2 : ∀ E h', (fun E h' => E = "java/util/NoSuchElementException" ∧ h = h' ∧ ¬ (0 ≤ q ∧ q < K 6 0) : jPx) E h' → ∀ j, 120 ≤ j → h' j = h j := fun r h' z => by obtain ⟨_, rfl, _⟩ := z; exact fun _ _ => rfl
  refine (w_ranked (f := f) (x_ranked hI.1 hKI hq) h0 (fun r h' z => ?_) (fun E h' z => ?_)).mo fun r h' w => ?_
  · obtain ⟨rfl, x, rfl, _⟩ := z; exact ⟨⟨_, rfl⟩, h220⟩
  · obtain ⟨rfl, rfl, _⟩ := z; exact ⟨h300, rfl⟩
  · have hR := hI.2.2.1
    subst hK
    obtain ⟨y1, y2⟩ := mY_ranked (G := G) (q := q) hKI.1
    refine oP_of hI.2.2.2.1 h300 w k1 k2 h220 (fun v h' z => ?_) (fun k E h' hm2 z => ?_)
    · obtain ⟨rfl, x', z1, z2, z3⟩ := z
      have y := y2 x' z2 z3
      exact ⟨_, _, _, _, _, _, _, hI.1, (y.R hR).up hup, y.1, (iv_i z1).trans (congrArg nz (y.2.1 rfl).symm)⟩
    · obtain ⟨_, rfl, z2⟩ := z
      have y := y1 z2
      simp only [List.mem_singleton, Prod.mk.injEq] at hm2
      rw [hm2.1]
      exact ⟨_, _, _, _, _, _, _, hI.1, (y.R hR).up hup, y.1, by decide, by decide⟩
theorem m_line_e {B : Int} {G : fS} {p : Int} (hO : jOk B (mK (G 0))) (hp : 0 ≤ p ∧ p < G 0 0) : m_line G p = ((0 : Int) + ((kLine (mK (G 0)) p).length : Int), m_lin (gn (gn G 6 0) 14 0) (kLine (mK (G 0)) p)) := by
  have z0 := hO.p p
  have z1 := hO.s p
  have z2 := hO.c p
  have e1 : mK (G 0) 1 p = G 0 (29 + p) := mK_1 hp
  have e2 : mK (G 0) 2 p = G 0 (53 + p) := mK_2 hp
  unfold m_line kLine
  rw [if_neg (bi_ne hp), e1, e2]
  rw [e1] at z1
  rw [e2] at z2
  by_cases a : mK (G 0) 0 p = -1 <;> by_cases b : G 0 (29 + p) = -1 <;> by_cases c : G 0 (53 + p) = 0 <;> by_cases d : mK (G 0) 3 p = 0
  all_goals ((repeat (first | rw [if_pos (by omega)] | rw [if_neg (by omega)])); simp only [List.append_assoc, List.nil_append, List.append_nil])
theorem jwl_rg {a b : Int} : ∀ (l : List Int) (i : Int) (R : Int → Int), (∀ j, a ≤ R j ∧ R j < b) → (∀ x ∈ l, a ≤ x ∧ x < b) → ∀ j, a ≤ jwl R i l j ∧ jwl R i l j < b
  | [], _, _, h, _ => h
  | x :: t, i, R, h, hl => jwl_rg t (i + 1) (jfu R i x) (fun j => by
      by_cases e : j = i
      · rw [e, jfu_s]; exact hl x List.mem_cons_self
      · rw [jfu_n e]; exact h j) (fun y hy => hl y (List.mem_cons_of_mem _ hy))
theorem jSL_rg {l : List Int} {h : jH} (w : jSL l h) : l.length ≤ 34 ∧ ∀ x ∈ l, 0 ≤ x ∧ x < 65536 := by
  obtain ⟨p, n, G, s1, _, _, _, s5, s6, s7⟩ := w
  have hn : n ≤ 34 := by rcases s1 with ⟨_, rfl, _⟩ | ⟨_, rfl⟩ <;> decide
  refine ⟨by omega, fun x hx => ?_⟩
  obtain ⟨i, hi⟩ := List.getElem?_of_mem hx
  have hlt : i < l.length := (List.getElem?_eq_some_iff.mp hi).1
  have e := s5 (i : Int) (by omega) (by omega)
  have e2 : (fun j : Int => (l[j.toNat]?).getD 0) (i : Int) = x := by
    show (l[(i : Int).toNat]?).getD 0 = x
    rw [Int.toNat_natCast, hi]
    rfl
  have := s6 (i : Int)
  rw [e, e2] at this
  omega
set_option maxHeartbeats 2000000 in
theorem o_line {B : Int} {K Ks : fS} {P : Int → fS} {X I : fS} {c : Int} {t : Int → Int} {G : fS} {h : jH} {f : Int → Int} (hI : lI B K Ks P X I c t G h) (hB : B + 31000 ≤ 20000000) (hb : 0 ≤ B) (h220 : h 220 = some (jA 4 1 f)) {p : Int} (hp : -2147483648 ≤ p ∧ p ≤ 2147483647) : jM mL_line 10 11 346 [300, 35] [.ref 0, iv p, .ref 220] h (oP (B + 31000) h (m_line G p)) jno := by
  obtain ⟨hK, hKI⟩ := hI.k
  obtain ⟨fs, h0⟩ := hI.1.o
  have h300 := hI.2.2.2.2
  have hup : B ≤ B + 31000 ∧ B + 31000 ≤ 20000000 := ⟨by omega, hB⟩
  have k1 : ∀ r h', (fun r h' => r = some (iv ((kLine K p).length : Int)) ∧ (0 ≤ p ∧ p < K 6 0) ∧ jSL (kLine K p) h' ∧ jEx 33 3 h h' : jPn) r h' → ∀ j, 120 ≤ j → h' j = h j := fun r h' z j j0 => z.2.2.2 j (by omega)
  have k2 : ∀ E h', (fun E h' => E = "java/lang/IndexOutOfBoundsException" ∧ h = h' ∧ ¬ (0 ≤ p ∧ p < K 6 0) : jPx) E h' → ∀ j, 120 ≤ j → h' j = h j := fun r h' z => by obtain ⟨_, rfl, _⟩ := z; exact fun _ _ => rfl
  refine (w_line (f := f) (x_line hI.1 hKI hp) h0 (fun r h' z => ?_) (fun E h' z => ?_)).mo fun r h' w => ?_
  · have e := (k1 r h' z 220 (by decide)).trans h220
    obtain ⟨rfl, _⟩ := z; exact ⟨⟨_, rfl⟩, e⟩
  · obtain ⟨rfl, rfl, _⟩ := z; exact ⟨h300, rfl⟩
  · have hR := hI.2.2.1
    have hC := hI.1
    subst hK
    refine oP_of hI.2.2.2.1 h300 w k1 k2 h220 (fun v h' z => ?_) (fun k E h' hm2 z => ?_)
    · obtain ⟨z1, z2, z3, z4⟩ := z
      have hrg := jSL_rg z3
      rw [m_line_e hKI.1 z2]
      obtain ⟨c1, ⟨Fb, c2⟩, ⟨c3, c4, _⟩, c5, c6⟩ := hC
      refine ⟨_, _, _, _, _, _, _, ⟨c1.eq fun j j0 => z4 j (by omega), ⟨Fb, c2.eq okF fun j j0 j1 => z4 j (by have j1 : j < 14 + 7 := j1; omega)⟩, ⟨c3.eq fun j j0 j1 => z4 j (by omega), c4.eq okI fun j j0 j1 => z4 j (by have j1 : j < 28 + 5 := j1; omega), z3⟩, c5.eq (fun j j0 j1 => z4 j (by omega)) c6.2, c6⟩, ?_, rfl, (iv_i z1).trans (congrArg nz (Int.zero_add _).symm)⟩
      have hRu := hR.up hup
      obtain ⟨a1, a2, a3, a4, ⟨_, _, _, a8⟩, a9⟩ := hRu
      refine ⟨a1, a2, a3, a4, ⟨(Int.zero_add _).symm, ⟨by omega, by omega⟩, fun j j0 j1 => ?_, ?_⟩, a9⟩
      · show ((kLine (mK (G 0)) p)[j.toNat]?).getD 0 = jwl (G 13) 0 (kLine (mK (G 0)) p) j
        rw [List.getElem?_eq_getElem (by omega)]
        have q := jwl_at (kLine (mK (G 0)) p) 0 (G 13) j.toNat _ (List.getElem?_eq_getElem (by omega))
        rw [show (0 : Int) + (j.toNat : Int) = j by omega] at q
        exact q.symm
      · exact jwl_rg _ _ _ a8 hrg.2
    · obtain ⟨_, rfl, z2⟩ := z
      simp only [List.mem_singleton, Prod.mk.injEq] at hm2
      rw [hm2.1]
      have e : m_line G p = (0, gn G 6 1) := by unfold m_line; rw [if_pos (bi_f (show ¬ (0 ≤ p ∧ p < G 0 0) from z2))]
      rw [e]
      exact ⟨_, _, _, _, _, _, _, hC, (hR.rd2 (fun i hi => gs_n (by omega)) rfl rfl).up hup, rfl, by decide, by decide⟩
set_option maxHeartbeats 2000000 in
theorem o_append {B : Int} {K Ks : fS} {P : Int → fS} {X I : fS} {c : Int} {t : Int → Int} {G : fS} {h : jH} {f : Int → Int} (hI : lI B K Ks P X I c t G h) (hB : B + 31000 ≤ 20000000) (hb : 0 ≤ B) (h220 : h 220 = some (jA 4 1 f)) {ch : Int} (hch : 0 ≤ ch ∧ ch < 65536) : jM mL_append 7 1 6 [300] [.ref 0, iv ch, .ref 220] h (oP (B + 31000) h (m_append G ch)) jno := by
  obtain ⟨hK, hKI⟩ := hI.k
  obtain ⟨fs, h0⟩ := hI.1.o
  have h300 := hI.2.2.2.2
  have hup : B ≤ B + 31000 ∧ B + 31000 ≤ 20000000 := ⟨by omega, hB⟩
  have hR := hI.2.2.1
  obtain ⟨a1, a2, a3, a4, a5, a6, a7, a8, a9⟩ := hR.up hup
  have h5 : 0 ≤ I 5 0 ∧ I 5 0 ≤ 60 := by rw [a7]; exact a8.2.1
  have k1 : ∀ r h', (fun r h' => r = some (iv (I 5 0 + 1)) ∧ I 5 0 < 60 ∧ xC K Ks P X (gn (gs I 0 (jfu (I 0) (I 5 0) ch)) 5 (I 5 0 + 1)) c t h' ∧ jEx 28 5 h h' : jPn) r h' → ∀ j, 120 ≤ j → h' j = h j := fun r h' z j j0 => z.2.2.2 j (by omega)
  have k2 : ∀ E h', (fun E h' => E = "java/lang/IllegalStateException" ∧ 60 ≤ I 5 0 ∧ h = h' : jPx) E h' → ∀ j, 120 ≤ j → h' j = h j := fun r h' z => by obtain ⟨_, _, rfl⟩ := z; exact fun _ _ => rfl
  refine (w_append (f := f) (x_append hI.1 hKI hch h5) h0 (fun r h' z => ?_) (fun E h' z => ?_)).mo fun r h' w => ?_
  · have e := (k1 r h' z 220 (by decide)).trans h220
    obtain ⟨rfl, _⟩ := z; exact ⟨⟨_, rfl⟩, e⟩
  · obtain ⟨rfl, _, rfl⟩ := z; exact ⟨h300, rfl⟩
  · refine oP_of hI.2.2.2.1 h300 w k1 k2 h220 (fun v h' z => ?_) (fun k E h' hm2 z => ?_)
    · obtain ⟨z1, z2, z3, z4⟩ := z
      have e : m_append G ch = (G 16 0 + 1, gn (gs (gn G 6 0) 15 (jfu (G 15) (G 16 0) ch)) 16 (G 16 0 + 1)) := by unfold m_append; rw [if_neg (by omega)]
      rw [e]
      refine ⟨_, _, _, _, _, _, _, z3, ⟨a1, a2, a3, a4, a5, ?_, ?_, ?_, a9⟩, rfl, (iv_i z1).trans (congrArg nz (by show I 5 0 + 1 = G 16 0 + 1; omega))⟩
      · show jfu (I 0) (I 5 0) ch = jfu (G 15) (G 16 0) ch
        rw [a6, a7]
      · show I 5 0 + 1 = G 16 0 + 1
        omega
      · refine ⟨a8.1, ⟨by show 0 ≤ G 16 0 + 1; omega, by show G 16 0 + 1 ≤ 60; omega⟩, a8.2.2.1, fun j => ?_⟩
        show 0 ≤ jfu (G 15) (G 16 0) ch j ∧ jfu (G 15) (G 16 0) ch j < 65536
        by_cases e9 : j = G 16 0
        · rw [e9, jfu_s]; exact hch
        · rw [jfu_n e9]; exact a8.2.2.2 j
    · obtain ⟨_, z1, rfl⟩ := z
      simp only [List.mem_singleton, Prod.mk.injEq] at hm2
      rw [hm2.1]
      have e : m_append G ch = (0, gn G 6 1) := by unfold m_append; rw [if_pos (by omega)]
      rw [e]
      exact ⟨_, _, _, _, _, _, _, hI.1, (hR.rd2 (fun i hi => gs_n (by omega)) rfl rfl).up hup, rfl, by decide, by decide⟩
set_option maxHeartbeats 2000000 in
theorem o_undo {B : Int} {K Ks : fS} {P : Int → fS} {X I : fS} {c : Int} {t : Int → Int} {G : fS} {h : jH} {f : Int → Int} (hI : lI B K Ks P X I c t G h) (hB : B + 31000 ≤ 20000000) (hb : 0 ≤ B) (h220 : h 220 = some (jA 4 1 f))  : jM mL_undo 8 1 6 [300] [.ref 0, .ref 220] h (oP (B + 31000) h (m_undo G)) jno := by
  obtain ⟨hK, hKI⟩ := hI.k
  obtain ⟨fs, h0⟩ := hI.1.o
  have h300 := hI.2.2.2.2
  have hup : B ≤ B + 31000 ∧ B + 31000 ≤ 20000000 := ⟨by omega, hB⟩
  have hR := hI.2.2.1
  obtain ⟨a1, a2, ⟨b1, b2, b3⟩, a4⟩ := hR.up hup
  have hPi : ∀ i, 0 ≤ i → i < X 5 0 → kI B (P i) := fun i i0 i1 => (hR.2.2.1.2.2 i i0 (by omega)).2
  have k1 : ∀ r h', (fun r h' => r = some (iv (X 5 0 - 1)) ∧ 0 < X 5 0 ∧ xC (P (X 5 0 - 1)) Ks P (gn X 5 (X 5 0 - 1)) I c t h' ∧ jEx 0 14 h h' : jPn) r h' → ∀ j, 120 ≤ j → h' j = h j := fun r h' z j j0 => z.2.2.2 j (by omega)
  have k2 : ∀ E h', (fun E h' => E = "java/lang/IllegalStateException" ∧ X 5 0 = 0 ∧ h = h' : jPx) E h' → ∀ j, 120 ≤ j → h' j = h j := fun r h' z => by obtain ⟨_, _, rfl⟩ := z; exact fun _ _ => rfl
  refine (w_undo (f := f) (x_undo hI.1 hPi) h0 (fun r h' z => ?_) (fun E h' z => ?_)).mo fun r h' w => ?_
  · have e := (k1 r h' z 220 (by decide)).trans h220
    obtain ⟨rfl, _⟩ := z; exact ⟨⟨_, rfl⟩, e⟩
  · obtain ⟨rfl, _, rfl⟩ := z; exact ⟨h300, rfl⟩
  · refine oP_of hI.2.2.2.1 h300 w k1 k2 h220 (fun v h' z => ?_) (fun k E h' hm2 z => ?_)
    · obtain ⟨z1, z2, z3, z4⟩ := z
      have e : m_undo G = (G 5 0 - 1, gs (gn (gn G 6 0) 5 (G 5 0 - 1)) 0 (jcpy (G 4) (G 0) (141 * (G 5 0 - 1)) 0 141)) := by unfold m_undo; rw [if_neg (by omega)]
      rw [e]
      have hq := b3 (X 5 0 - 1) (by omega) (by omega)
      refine ⟨_, _, _, _, _, _, _, z3, ⟨⟨?_, hq.2⟩, a2, ⟨by show X 5 0 - 1 = G 5 0 - 1; omega, ⟨by show 0 ≤ G 5 0 - 1; omega, by show G 5 0 - 1 ≤ 8; omega⟩, fun i i0 i1 => b3 i i0 (by have i1 : i < G 5 0 - 1 := i1; omega)⟩, a4⟩, rfl, (iv_i z1).trans (congrArg nz (by show X 5 0 - 1 = G 5 0 - 1; omega))⟩
      show mK (jcpy (G 4) (G 0) (141 * (G 5 0 - 1)) 0 141) = P (X 5 0 - 1)
      obtain ⟨q1, q2⟩ := hq
      rw [← q1] at q2 ⊢
      refine mK_cg q2.1 fun j j0 j1 => ?_
      unfold jcpy mRow
      rw [if_pos (by omega)]
      exact congrArg (G 4) (by rw [b1]; omega)
    · obtain ⟨_, z1, rfl⟩ := z
      simp only [List.mem_singleton, Prod.mk.injEq] at hm2
      rw [hm2.1]
      have e : m_undo G = (0, gn G 6 1) := by unfold m_undo; rw [if_pos (by omega)]
      rw [e]
      exact ⟨_, _, _, _, _, _, _, hI.1, (hR.rd2 (fun i hi => gs_n (by omega)) rfl rfl).up hup, rfl, by decide, by decide⟩
set_option maxHeartbeats 2000000 in
theorem o_restore {B : Int} {K Ks : fS} {P : Int → fS} {X I : fS} {c : Int} {t : Int → Int} {G : fS} {h : jH} {f : Int → Int} (hI : lI B K Ks P X I c t G h) (hB : B + 31000 ≤ 20000000) (hb : 0 ≤ B) (h220 : h 220 = some (jA 4 1 f))  : jM mL_restore 8 1 6 [300] [.ref 0, .ref 220] h (oP (B + 31000) h (m_restore G)) jno := by
  obtain ⟨hK, hKI⟩ := hI.k
  obtain ⟨fs, h0⟩ := hI.1.o
  have h300 := hI.2.2.2.2
  have hup : B ≤ B + 31000 ∧ B + 31000 ≤ 20000000 := ⟨by omega, hB⟩
  have hR := hI.2.2.1
  obtain ⟨a1, ⟨d1, d2, d3⟩, ⟨b1, b2, b3⟩, a4⟩ := hR.up hup
  have h3 : X 3 0 = 0 ∨ X 3 0 = 1 := by rcases d2 with q | q <;> omega
  have k1 : ∀ r h', (fun r h' => r = some (iv (Ks 6 0)) ∧ X 3 0 = 1 ∧ xC Ks Ks P (gn X 5 0) I c t h' ∧ jEx 0 14 h h' : jPn) r h' → ∀ j, 120 ≤ j → h' j = h j := fun r h' z j j0 => z.2.2.2 j (by omega)
  have k2 : ∀ E h', (fun E h' => E = "java/lang/IllegalStateException" ∧ X 3 0 = 0 ∧ h = h' : jPx) E h' → ∀ j, 120 ≤ j → h' j = h j := fun r h' z => by obtain ⟨_, _, rfl⟩ := z; exact fun _ _ => rfl
  refine (w_restore (f := f) (x_restore hI.1 hR.2.1.2.2 h3) h0 (fun r h' z => ?_) (fun E h' z => ?_)).mo fun r h' w => ?_
  · have e := (k1 r h' z 220 (by decide)).trans h220
    obtain ⟨rfl, _⟩ := z; exact ⟨⟨_, rfl⟩, e⟩
  · obtain ⟨rfl, _, rfl⟩ := z; exact ⟨h300, rfl⟩
  · refine oP_of hI.2.2.2.1 h300 w k1 k2 h220 (fun v h' z => ?_) (fun k E h' hm2 z => ?_)
    · obtain ⟨z1, z2, z3, z4⟩ := z
      have e : m_restore G = ((jcpy (G 2) (G 0) 0 0 141) 0, gn (gs (gn G 6 0) 0 (jcpy (G 2) (G 0) 0 0 141)) 5 0) := by unfold m_restore; rw [if_neg (by omega)]
      rw [e]
      have hm : mK (G 2) = Ks := by
        rcases d2 with q | ⟨_, q⟩
        · exfalso; omega
        · exact q
      have hj : ∀ j, 0 ≤ j → j < 141 → jcpy (G 2) (G 0) 0 0 141 j = G 2 j := fun j j0 j1 => by
        unfold jcpy
        rw [if_pos (by omega)]
        exact congrArg (G 2) (by omega)
      have hm2 : mK (jcpy (G 2) (G 0) 0 0 141) = Ks := by
        rw [← hm] at d3 ⊢
        exact mK_cg d3.1 hj
      refine ⟨_, _, _, _, _, _, _, z3, ⟨⟨hm2, d3⟩, ⟨d1, d2, d3⟩, ⟨rfl, by show (0 : Int) ≤ 0 ∧ (0 : Int) ≤ 8; decide, fun i i0 i1 => absurd i1 (by show ¬ i < 0; omega)⟩, a4⟩, rfl, (iv_i z1).trans (congrArg nz ?_)⟩
      show Ks 6 0 = jcpy (G 2) (G 0) 0 0 141 0
      rw [hj 0 (by decide) (by decide), ← hm]
      rfl
    · obtain ⟨_, z1, rfl⟩ := z
      simp only [List.mem_singleton, Prod.mk.injEq] at hm2
      rw [hm2.1]
      have e : m_restore G = (0, gn G 6 1) := by unfold m_restore; rw [if_pos (by omega)]
      rw [e]
      exact ⟨_, _, _, _, _, _, _, hI.1, (hR.rd2 (fun i hi => gs_n (by omega)) rfl rfl).up hup, rfl, by decide, by decide⟩
/-- a call without a wrapper -/
def oQ (B : Int) (h : jH) (x : Int × fS) : jPn := fun r h1 => (∀ j, 120 ≤ j → h1 j = h j) ∧ ∃ v, r = some (iv v) ∧ nz v = nz x.1 ∧ ∀ h2, jOb sM 200 x.2 h2 → jEx 200 10 h1 h2 → lW B h2
theorem oQ_of {B : Int} {h : jH} {f : Int → Int} {x : Int × fS} {v : Int} {h1 : jH} {K Ks : fS} {P : Int → fS} {X I : fS} {c : Int} {t : Int → Int} (h221 : ∃ f, h 221 = some (jA 5 1 f)) (h300 : h 300 = none) (h220 : h 220 = some (jA 4 1 f)) (hk : ∀ j, 120 ≤ j → h1 j = h j) (hC : xC K Ks P X I c t h1) (hR : mR B K Ks P X I c t x.2) (hv : v = x.1) : oQ B h x (some (iv v)) h1 := by
  obtain ⟨f5, h221⟩ := h221
  refine ⟨hk, v, rfl, congrArg nz hv, fun h2 hG hE => ?_⟩
  have g : ∀ j, j < 200 ∨ 210 ≤ j → h2 j = h1 j := fun j hj => hE j (by omega)
  exact ⟨K, Ks, P, X, I, c, t, x.2, ⟨hC.eq fun j j0 => g j (by omega), hG, hR, ⟨f5, (g 221 (by decide)).trans ((hk 221 (by decide)).trans h221)⟩, (g 300 (by decide)).trans ((hk 300 (by decide)).trans h300)⟩, _, (g 220 (by decide)).trans ((hk 220 (by decide)).trans h220)⟩
set_option maxHeartbeats 2000000 in
theorem o_houses {B : Int} {K Ks : fS} {P : Int → fS} {X I : fS} {c : Int} {t : Int → Int} {G : fS} {h : jH} {f : Int → Int} (hI : lI B K Ks P X I c t G h) (hB : B + 31000 ≤ 20000000) (hb : 0 ≤ B) (h220 : h 220 = some (jA 4 1 f)) : jM mX4_houses 3 0 0 [] [.ref 0] h (oQ (B + 31000) h ((csum (fun p => bi (fho (mK (G 0)) p = p)) ((G 0) 0).toNat, m_tells (gn G 6 0)))) jno := by
  obtain ⟨hK, hKI⟩ := hI.k
  have h300 := hI.2.2.2.2
  have hup : B ≤ B + 31000 ∧ B + 31000 ≤ 20000000 := ⟨by omega, hB⟩
  have hR := hI.2.2.1
  subst hK
  refine (x_houses hI.1 hKI).mo fun r h1 z => ?_
  obtain ⟨rfl, rfl⟩ := z
  exact oQ_of hI.2.2.2.1 h300 h220 (fun _ _ => rfl) hI.1 ((hR.rd2 (fun i hi => (gs_n (by omega)).trans (gs_n (by omega))) rfl rfl).up hup) rfl
set_option maxHeartbeats 2000000 in
theorem o_housesAgain {B : Int} {K Ks : fS} {P : Int → fS} {X I : fS} {c : Int} {t : Int → Int} {G : fS} {h : jH} {f : Int → Int} (hI : lI B K Ks P X I c t G h) (hB : B + 31000 ≤ 20000000) (hb : 0 ≤ B) (h220 : h 220 = some (jA 4 1 f)) : jM mX4_housesAgain 4 0 0 [] [.ref 0] h (oQ (B + 31000) h ((csum (fun p => bi (fho (mK (G 0)) p = p)) ((G 0) 0).toNat, m_tells (gn G 6 0)))) jno := by
  obtain ⟨hK, hKI⟩ := hI.k
  have h300 := hI.2.2.2.2
  have hup : B ≤ B + 31000 ∧ B + 31000 ≤ 20000000 := ⟨by omega, hB⟩
  have hR := hI.2.2.1
  subst hK
  refine (x_housesAgain hI.1 hKI).mo fun r h1 z => ?_
  obtain ⟨rfl, z2, z3⟩ := z
  exact oQ_of hI.2.2.2.1 h300 h220 (fun j j0 => z3 j (by omega)) z2 ((hR.rd2 (fun i hi => (gs_n (by omega)).trans (gs_n (by omega))) rfl rfl).up hup) rfl
set_option maxHeartbeats 2000000 in
theorem o_errorPosition {B : Int} {K Ks : fS} {P : Int → fS} {X I : fS} {c : Int} {t : Int → Int} {G : fS} {h : jH} {f : Int → Int} (hI : lI B K Ks P X I c t G h) (hB : B + 31000 ≤ 20000000) (hb : 0 ≤ B) (h220 : h 220 = some (jA 4 1 f)) : jM mX4_errorPosition 0 0 0 [] [.ref 0] h (oQ (B + 31000) h (m_errorPosition G)) jno := by
  obtain ⟨hK, hKI⟩ := hI.k
  have h300 := hI.2.2.2.2
  have hup : B ≤ B + 31000 ∧ B + 31000 ≤ 20000000 := ⟨by omega, hB⟩
  have hR := hI.2.2.1
  subst hK
  refine (x_errorPosition hI.1 hKI).mo fun r h1 z => ?_
  obtain ⟨rfl, rfl⟩ := z
  exact oQ_of hI.2.2.2.1 h300 h220 (fun _ _ => rfl) hI.1 ((hR.rd2 (fun i hi => gs_n (by omega)) rfl rfl).up hup) hR.2.2.2.1.1
set_option maxHeartbeats 2000000 in
theorem o_isWell {B : Int} {K Ks : fS} {P : Int → fS} {X I : fS} {c : Int} {t : Int → Int} {G : fS} {h : jH} {f : Int → Int} (hI : lI B K Ks P X I c t G h) (hB : B + 31000 ≤ 20000000) (hb : 0 ≤ B) (h220 : h 220 = some (jA 4 1 f)) : jM mX4_isWell 6 0 0 [] [.ref 0] h (oQ (B + 31000) h (m_isWell G)) jno := by
  obtain ⟨hK, hKI⟩ := hI.k
  have h300 := hI.2.2.2.2
  have hup : B ≤ B + 31000 ∧ B + 31000 ≤ 20000000 := ⟨by omega, hB⟩
  have hR := hI.2.2.1
  subst hK
  refine (x_isWell hI.1 hKI).mo fun r h1 z => ?_
  obtain ⟨rfl, z2, z3⟩ := z
  exact oQ_of hI.2.2.2.1 h300 h220 (fun j j0 => z3 j (by omega)) z2 ((hR.rd2 (fun i hi => (gs_n (by omega)).trans (gs_n (by omega))) rfl rfl).up hup) rfl
set_option maxHeartbeats 2000000 in
theorem o_save {B : Int} {K Ks : fS} {P : Int → fS} {X I : fS} {c : Int} {t : Int → Int} {G : fS} {h : jH} {f : Int → Int} (hI : lI B K Ks P X I c t G h) (hB : B + 31000 ≤ 20000000) (hb : 0 ≤ B) (h220 : h 220 = some (jA 4 1 f)) : jM mX4_save 2 0 0 [] [.ref 0] h (oQ (B + 31000) h (m_save G)) jno := by
  obtain ⟨hK, hKI⟩ := hI.k
  have h300 := hI.2.2.2.2
  have hup : B ≤ B + 31000 ∧ B + 31000 ≤ 20000000 := ⟨by omega, hB⟩
  have hR := hI.2.2.1
  subst hK
  refine (x_save hI.1 hKI).mo fun r h1 z => ?_
  obtain ⟨rfl, z2, z3⟩ := z
  obtain ⟨a1, ⟨d1, d2, d3⟩, ⟨b1, b2, b3⟩, a4⟩ := hR.up hup
  refine oQ_of hI.2.2.2.1 h300 h220 (fun j j0 => z3 j (by omega)) z2 ⟨⟨rfl, a1.2⟩, ⟨rfl, .inr ⟨rfl, ?_⟩, a1.2⟩, ⟨b1, b2, b3⟩, a4⟩ rfl
  show mK (jcpy (G 0) (G 2) 0 0 141) = mK (G 0)
  refine mK_cg a1.2.1 fun j j0 j1 => ?_
  unfold jcpy
  rw [if_pos (by omega)]
  exact congrArg (G 0) (by omega)
