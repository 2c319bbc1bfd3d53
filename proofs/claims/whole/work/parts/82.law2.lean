/-! ONE CALL: THE CLASS AND THE REFERENCE -/
/-- the law's world -/
def lI (B : Int) (K Ks : fS) (P : Int → fS) (X I : fS) (c : Int) (t : Int → Int) (G : fS) (h : jH) : Prop := xC K Ks P X I c t h ∧ jOb sM 200 G h ∧ mR B K Ks P X I c t G ∧ (∃ f, h 221 = some (jA 5 1 f)) ∧ h 300 = none
def lW (B : Int) (h : jH) : Prop := ∃ K Ks P X I c t G, lI B K Ks P X I c t G h ∧ ∃ f, h 220 = some (jA 4 1 f)
def lK (h h' : jH) : Prop := ∀ j : Nat, 120 ≤ j → j ≠ 220 → h' j = h j
/-- what is known when both have answered: r the wrapper's number, x the reference's answer and state -/
def lS (B : Int) (r : Option Value) (x : Int × fS) (h2 : jH) : Prop := ∃ k f, r = some (iv k) ∧ (0 ≤ k ∧ k ≤ 3) ∧ x.2 6 0 = k ∧ h2 220 = some (jA 4 1 f) ∧ (k = 0 → f 0 = nz x.1) ∧ lW B h2
/-- a call's outcome, whatever the reference does next -/
def oP (B : Int) (h : jH) (x : Int × fS) : jPn := fun r h1 => lK h h1 ∧ (∃ k, r = some (iv k)) ∧ ∀ h2, jOb sM 200 x.2 h2 → jEx 200 10 h1 h2 → lS B r x h2
theorem jM.mo {M : jMe} {d mc ms : Nat} {nw : List Nat} {a0 : List Value} {h : jH} {Pn Pn' : jPn} (hM : jM M d mc ms nw a0 h Pn jno) (hi : ∀ r h', Pn r h' → Pn' r h') : jM M d mc ms nw a0 h Pn' jno := by
  intro l hl D cy ad bs p e ha hc hk s m args below hf happ hP hK
  obtain ⟨n, o, h1, h2, h3, h4⟩ := hM l hl D cy ad bs p e ha hc hk s m args below hf happ hP hK
  refine ⟨n, o, h1, h2, h3, ?_⟩
  rcases h4 with ⟨⟨r, h', ad', z1, z2, z3⟩, z4⟩ | ⟨q, -, E, ce, Lq, ⟨h', ad', hp, -⟩, -⟩
  · exact .inl ⟨⟨r, h', ad', z1, hi r h' z2, z3⟩, z4⟩
  · exact hp.elim
theorem iv_i {x y : Int} (h : some (iv x) = some (iv y)) : nz x = nz y := by
  have e : Int32.ofInt x = Int32.ofInt y := Value.int.inj (Option.some.inj h)
  unfold nz
  rw [e]
theorem xC.o {K Ks X I : fS} {P : Int → fS} {c : Int} {t : Int → Int} {h : jH} (w : xC K Ks P X I c t h) : ∃ fs, h 0 = some (jO 4 fs) := ⟨_, w.1.x.1⟩
/-- out of a wrapper's end -/
theorem oP_of {B : Int} {h : jH} {f : Int → Int} {Pn : jPn} {Px : jPx} {es : List (Int × String)} {x : Int × fS} {r : Option Value} {h1 : jH} (h221 : ∃ f, h 221 = some (jA 5 1 f)) (h300 : h 300 = none) (w : wP f Pn Px es r h1) (hk : ∀ r h', Pn r h' → ∀ j, 120 ≤ j → h' j = h j) (hkx : ∀ E h', Px E h' → ∀ j, 120 ≤ j → h' j = h j) (h220 : h 220 = some (jA 4 1 f))
    (hs : ∀ v h', Pn (some (iv v)) h' → ∃ K Ks P X I c t, xC K Ks P X I c t h' ∧ mR B K Ks P X I c t x.2 ∧ x.2 6 0 = 0 ∧ nz v = nz x.1)
    (hf : ∀ k E h', (k, E) ∈ es → Px E h' → ∃ K Ks P X I c t, xC K Ks P X I c t h' ∧ mR B K Ks P X I c t x.2 ∧ x.2 6 0 = k ∧ 1 ≤ k ∧ k ≤ 3) : oP B h x r h1 := by
  obtain ⟨f5, h221⟩ := h221
  rcases w with ⟨v, h', rfl, hp, rfl⟩ | ⟨k, E, rfl, hm, hp⟩
  · have k1 := hk _ _ hp
    refine ⟨fun j j0 j1 => (jup_n j1 rfl).trans (k1 j j0), ⟨_, rfl⟩, fun h2 hG hE => ?_⟩
    obtain ⟨K, Ks, P, X, I, c, t, s1, s2, s3, s4⟩ := hs v h' hp
    have g : ∀ j, j < 200 ∨ (210 ≤ j ∧ j ≠ 220) → h2 j = h' j := fun j hj => (hE j (by omega)).trans (jup_n (by omega) rfl)
    refine ⟨0, jfu f 0 (nz v), rfl, by decide, s3, (hE 220 (by decide)).trans jup_s, fun _ => jfu_s.trans s4, K, Ks, P, X, I, c, t, x.2, ⟨s1.eq fun j j0 => g j (by omega), hG, s2, ⟨f5, (g 221 (by decide)).trans ((k1 221 (by decide)).trans h221)⟩, (g 300 (by decide)).trans ((k1 300 (by decide)).trans h300)⟩, _, (hE 220 (by decide)).trans jup_s⟩
  · have k1 := hkx _ _ hp
    refine ⟨fun j j0 j1 => k1 j j0, ⟨_, rfl⟩, fun h2 hG hE => ?_⟩
    obtain ⟨K, Ks, P, X, I, c, t, s1, s2, s3, s4⟩ := hf k E h1 hm hp
    have g : ∀ j, j < 200 ∨ 210 ≤ j → h2 j = h1 j := fun j hj => hE j (by omega)
    refine ⟨k, f, rfl, by omega, s3, (g 220 (by decide)).trans ((k1 220 (by decide)).trans h220), fun z => by omega, K, Ks, P, X, I, c, t, x.2, ⟨s1.eq fun j j0 => g j (by omega), hG, s2, ⟨f5, (g 221 (by decide)).trans ((k1 221 (by decide)).trans h221)⟩, (g 300 (by decide)).trans ((k1 300 (by decide)).trans h300)⟩, _, (g 220 (by decide)).trans ((k1 220 (by decide)).trans h220)⟩
/-- a call that only reads -/
theorem oP_rd {B : Int} {K Ks : fS} {P : Int → fS} {X I : fS} {c : Int} {t : Int → Int} {G : fS} {h : jH} {f : Int → Int} {q : Int × Int} {es : List (Int × String)} {x : Int × fS} {r : Option Value} {h1 : jH} (hI : lI B K Ks P X I c t G h) (hB : B + 31000 ≤ 20000000) (h220 : h 220 = some (jA 4 1 f)) (hb : 0 ≤ B)
    (hes : ∀ k k' E, (k, E) ∈ es → (k', E) ∈ es → k = k' ∧ 1 ≤ k ∧ k ≤ 3) (hY : mY q G x) (w : wP f (jOn q h) (jOx es q h) es r h1) : oP (B + 31000) h x r h1 := by
  obtain ⟨i1, i2, i3, i4, i5⟩ := hI
  have hu := (hY.R i3).up (B' := B + 31000) ⟨by omega, hB⟩
  refine oP_of i4 i5 w (fun r h' z => by obtain ⟨_, _, rfl⟩ := z; exact fun _ _ => rfl) (fun E h' z => by obtain ⟨_, rfl⟩ := z; exact fun _ _ => rfl) h220 (fun v h' z => ?_) (fun k E h' hm z => ?_)
  · obtain ⟨z1, z2, rfl⟩ := z
    exact ⟨K, Ks, P, X, I, c, t, i1, hu, hY.1.trans z2, (iv_i z1).trans (congrArg nz (hY.2.1 z2).symm)⟩
  · obtain ⟨z1, rfl⟩ := z
    obtain ⟨e, e1⟩ := hes k q.1 E hm z1
    exact ⟨K, Ks, P, X, I, c, t, i1, hu, hY.1.trans e.symm, e1⟩
theorem es_1 {a : Int} {A : String} (ha : 1 ≤ a ∧ a ≤ 3) : ∀ (k k' : Int) (E : String), (k, E) ∈ [(a, A)] → (k', E) ∈ [(a, A)] → k = k' ∧ 1 ≤ k ∧ k ≤ 3 := fun k k' E h h' => by
  simp only [List.mem_singleton, Prod.mk.injEq] at h h'
  rw [h.1, h'.1]
  exact ⟨rfl, ha⟩
theorem es_2 {a b : Int} {A D : String} (ha : 1 ≤ a ∧ a ≤ 3) (hb : 1 ≤ b ∧ b ≤ 3) (hn : A ≠ D) : ∀ (k k' : Int) (E : String), (k, E) ∈ [(a, A), (b, D)] → (k', E) ∈ [(a, A), (b, D)] → k = k' ∧ 1 ≤ k ∧ k ≤ 3 := fun k k' E h h' => by
  simp only [List.mem_cons, List.not_mem_nil, or_false, Prod.mk.injEq] at h h'
  rcases h with ⟨h1, h2⟩ | ⟨h1, h2⟩ <;> rcases h' with ⟨h3, h4⟩ | ⟨h3, h4⟩
  · rw [h1, h3]; exact ⟨rfl, ha⟩
  · exact absurd (h2.symm.trans h4) hn
  · exact absurd (h4.symm.trans h2) hn
  · rw [h1, h3]; exact ⟨rfl, hb⟩
theorem em_1 {k a : Int} {E A : String} (h : (k, E) ∈ [(a, A)]) : E = A := by
  simp only [List.mem_singleton, Prod.mk.injEq] at h
  exact h.2
theorem em_2 {k a b : Int} {E A D : String} (h : (k, E) ∈ [(a, A), (b, D)]) : E = A ∨ E = D := by
  simp only [List.mem_cons, List.not_mem_nil, or_false, Prod.mk.injEq] at h
  rcases h with h | h
  · exact .inl h.2
  · exact .inr h.2
/-- what the contracts of the class and of the reference ask -/
theorem lI.k {B : Int} {K Ks : fS} {P : Int → fS} {X I : fS} {c : Int} {t : Int → Int} {G : fS} {h : jH} (w : lI B K Ks P X I c t G h) : K = mK (G 0) ∧ kI B K := ⟨w.2.2.1.1.1.symm, w.2.2.1.1.2⟩
theorem o_personOf {B : Int} {K Ks : fS} {P : Int → fS} {X I : fS} {c : Int} {t : Int → Int} {G : fS} {h : jH} {f : Int → Int} (hI : lI B K Ks P X I c t G h) (hB : B + 31000 ≤ 20000000) (hb : 0 ≤ B) (h220 : h 220 = some (jA 4 1 f)) {p w : Int} (hp : -2147483648 ≤ p ∧ p ≤ 2147483647) (hw : -2147483648 ≤ w ∧ w ≤ 2147483647) : jM mL_personOf 8 2 12 [300] [.ref 0, iv p, iv w, .ref 220] h (oP (B + 31000) h (m_personOf G p w)) jno := by
  obtain ⟨hK, hKI⟩ := hI.k
  obtain ⟨fs, h0⟩ := hI.1.o
  refine (w_personOf (f := f) (x_personOf hI.1 hKI hp hw) h0 (fun r h' z => ?_) (fun E h' z => ?_)).mo fun r h' w => ?_
  · obtain ⟨rfl, _, rfl⟩ := z; exact ⟨⟨_, rfl⟩, h220⟩
  · have m := em_2 z.1
    obtain ⟨_, rfl⟩ := z; exact ⟨hI.2.2.2.2, m⟩
  · refine oP_rd hI hB h220 hb (es_2 (by decide) (by decide) (by decide +kernel)) ?_ w
    subst hK
    exact mY_personOf
theorem o_elder {B : Int} {K Ks : fS} {P : Int → fS} {X I : fS} {c : Int} {t : Int → Int} {G : fS} {h : jH} {f : Int → Int} (hI : lI B K Ks P X I c t G h) (hB : B + 31000 ≤ 20000000) (hb : 0 ≤ B) (h220 : h 220 = some (jA 4 1 f)) {p e d : Int} (hp : -2147483648 ≤ p ∧ p ≤ 2147483647) (he : -2147483648 ≤ e ∧ e ≤ 2147483647) (hd : d = 0 ∨ d = 1) : jM mL_elder 8 2 12 [300] [.ref 0, iv p, iv e, iv d, .ref 220] h (oP (B + 31000) h (m_elder G p e d)) jno := by
  obtain ⟨hK, hKI⟩ := hI.k
  obtain ⟨fs, h0⟩ := hI.1.o
  refine (w_elder (f := f) (x_elder hI.1 hKI hp he hd) h0 (fun r h' z => ?_) (fun E h' z => ?_)).mo fun r h' w => ?_
  · obtain ⟨rfl, _, rfl⟩ := z; exact ⟨⟨_, rfl⟩, h220⟩
  · have m := em_2 z.1
    obtain ⟨_, rfl⟩ := z; exact ⟨hI.2.2.2.2, m⟩
  · refine oP_rd hI hB h220 hb (es_2 (by decide) (by decide) (by decide +kernel)) ?_ w
    subst hK
    exact (mY_elder hI.k.2.1)
theorem o_common {B : Int} {K Ks : fS} {P : Int → fS} {X I : fS} {c : Int} {t : Int → Int} {G : fS} {h : jH} {f : Int → Int} (hI : lI B K Ks P X I c t G h) (hB : B + 31000 ≤ 20000000) (hb : 0 ≤ B) (h220 : h 220 = some (jA 4 1 f)) {p o d : Int} (hp : -2147483648 ≤ p ∧ p ≤ 2147483647) (ho : -2147483648 ≤ o ∧ o ≤ 2147483647) (hd : d = 0 ∨ d = 1) : jM mL_common 8 3 18 [300] [.ref 0, iv p, iv o, iv d, .ref 220] h (oP (B + 31000) h (m_common G p o d)) jno := by
  obtain ⟨hK, hKI⟩ := hI.k
  obtain ⟨fs, h0⟩ := hI.1.o
  refine (w_common (f := f) (x_common hI.1 hKI hp ho hd) h0 (fun r h' z => ?_) (fun E h' z => ?_)).mo fun r h' w => ?_
  · obtain ⟨rfl, _, rfl⟩ := z; exact ⟨⟨_, rfl⟩, h220⟩
  · have m := em_2 z.1
    obtain ⟨_, rfl⟩ := z; exact ⟨hI.2.2.2.2, m⟩
  · refine oP_rd hI hB h220 hb (es_2 (by decide) (by decide) (by decide +kernel)) ?_ w
    subst hK
    exact mY_common
theorem o_degree {B : Int} {K Ks : fS} {P : Int → fS} {X I : fS} {c : Int} {t : Int → Int} {G : fS} {h : jH} {f : Int → Int} (hI : lI B K Ks P X I c t G h) (hB : B + 31000 ≤ 20000000) (hb : 0 ≤ B) (h220 : h 220 = some (jA 4 1 f)) {p o : Int} (hp : -2147483648 ≤ p ∧ p ≤ 2147483647) (ho : -2147483648 ≤ o ∧ o ≤ 2147483647) : jM mL_degree 8 3 18 [300] [.ref 0, iv p, iv o, .ref 220] h (oP (B + 31000) h (m_degree G p o)) jno := by
  obtain ⟨hK, hKI⟩ := hI.k
  obtain ⟨fs, h0⟩ := hI.1.o
  refine (w_degree (f := f) (x_degree hI.1 hKI hp ho) h0 (fun r h' z => ?_) (fun E h' z => ?_)).mo fun r h' w => ?_
  · obtain ⟨rfl, _, rfl⟩ := z; exact ⟨⟨_, rfl⟩, h220⟩
  · have m := em_2 z.1
    obtain ⟨_, rfl⟩ := z; exact ⟨hI.2.2.2.2, m⟩
  · refine oP_rd hI hB h220 hb (es_2 (by decide) (by decide) (by decide +kernel)) ?_ w
    subst hK
    exact mY_degree
theorem o_leaps {B : Int} {K Ks : fS} {P : Int → fS} {X I : fS} {c : Int} {t : Int → Int} {G : fS} {h : jH} {f : Int → Int} (hI : lI B K Ks P X I c t G h) (hB : B + 31000 ≤ 20000000) (hb : 0 ≤ B) (h220 : h 220 = some (jA 4 1 f)) {p e : Int} (hp : -2147483648 ≤ p ∧ p ≤ 2147483647) (he : -2147483648 ≤ e ∧ e ≤ 2147483647) : jM mL_leaps 8 2 12 [300] [.ref 0, iv p, iv e, .ref 220] h (oP (B + 31000) h (m_leaps G p e)) jno := by
  obtain ⟨hK, hKI⟩ := hI.k
  obtain ⟨fs, h0⟩ := hI.1.o
  refine (w_leaps (f := f) (x_leaps hI.1 hKI hp he) h0 (fun r h' z => ?_) (fun E h' z => ?_)).mo fun r h' w => ?_
  · obtain ⟨rfl, _, rfl⟩ := z; exact ⟨⟨_, rfl⟩, h220⟩
  · have m := em_2 z.1
    obtain ⟨_, rfl⟩ := z; exact ⟨hI.2.2.2.2, m⟩
  · refine oP_rd hI hB h220 hb (es_2 (by decide) (by decide) (by decide +kernel)) ?_ w
    subst hK
    exact (mY_leaps hI.k.2.1)
theorem o_descendant {B : Int} {K Ks : fS} {P : Int → fS} {X I : fS} {c : Int} {t : Int → Int} {G : fS} {h : jH} {f : Int → Int} (hI : lI B K Ks P X I c t G h) (hB : B + 31000 ≤ 20000000) (hb : 0 ≤ B) (h220 : h 220 = some (jA 4 1 f)) {p q : Int} (hp : -2147483648 ≤ p ∧ p ≤ 2147483647) (hq : -2147483648 ≤ q ∧ q ≤ 2147483647) : jM mL_descendant 8 2 12 [300] [.ref 0, iv p, iv q, .ref 220] h (oP (B + 31000) h (m_descendant G p q)) jno := by
  obtain ⟨hK, hKI⟩ := hI.k
  obtain ⟨fs, h0⟩ := hI.1.o
  refine (w_descendant (f := f) (x_descendant hI.1 hKI hp hq) h0 (fun r h' z => ?_) (fun E h' z => ?_)).mo fun r h' w => ?_
  · obtain ⟨rfl, _, rfl⟩ := z; exact ⟨⟨_, rfl⟩, h220⟩
  · have m := em_2 z.1
    obtain ⟨_, rfl⟩ := z; exact ⟨hI.2.2.2.2, m⟩
  · refine oP_rd hI hB h220 hb (es_2 (by decide) (by decide) (by decide +kernel)) ?_ w
    subst hK
    exact mY_descendant
theorem o_quarrelAt {B : Int} {K Ks : fS} {P : Int → fS} {X I : fS} {c : Int} {t : Int → Int} {G : fS} {h : jH} {f : Int → Int} (hI : lI B K Ks P X I c t G h) (hB : B + 31000 ≤ 20000000) (hb : 0 ≤ B) (h220 : h 220 = some (jA 4 1 f)) {p d : Int} (hp : -2147483648 ≤ p ∧ p ≤ 2147483647) (hd : d = 0 ∨ d = 1) : jM mL_quarrelAt 7 1 6 [300] [.ref 0, iv p, iv d, .ref 220] h (oP (B + 31000) h (m_quarrelAt G p d)) jno := by
  obtain ⟨hK, hKI⟩ := hI.k
  obtain ⟨fs, h0⟩ := hI.1.o
  refine (w_quarrelAt (f := f) (x_quarrelAt hI.1 hKI hp hd) h0 (fun r h' z => ?_) (fun E h' z => ?_)).mo fun r h' w => ?_
  · obtain ⟨rfl, _, rfl⟩ := z; exact ⟨⟨_, rfl⟩, h220⟩
  · have m := em_1 z.1
    obtain ⟨_, rfl⟩ := z; exact ⟨hI.2.2.2.2, m⟩
  · refine oP_rd hI hB h220 hb (es_1 (by decide)) ?_ w
    subst hK
    exact mY_quarrelAt
theorem o_wouldEnd {B : Int} {K Ks : fS} {P : Int → fS} {X I : fS} {c : Int} {t : Int → Int} {G : fS} {h : jH} {f : Int → Int} (hI : lI B K Ks P X I c t G h) (hB : B + 31000 ≤ 20000000) (hb : 0 ≤ B) (h220 : h 220 = some (jA 4 1 f)) {p o : Int} (hp : -2147483648 ≤ p ∧ p ≤ 2147483647) (ho : -2147483648 ≤ o ∧ o ≤ 2147483647) : jM mL_wouldEnd 8 3 18 [300] [.ref 0, iv p, iv o, .ref 220] h (oP (B + 31000) h (m_wouldEnd G p o)) jno := by
  obtain ⟨hK, hKI⟩ := hI.k
  obtain ⟨fs, h0⟩ := hI.1.o
  refine (w_wouldEnd (f := f) (x_wouldEnd hI.1 hKI hp ho) h0 (fun r h' z => ?_) (fun E h' z => ?_)).mo fun r h' w => ?_
  · obtain ⟨rfl, _, rfl⟩ := z; exact ⟨⟨_, rfl⟩, h220⟩
  · have m := em_2 z.1
    obtain ⟨_, rfl⟩ := z; exact ⟨hI.2.2.2.2, m⟩
  · refine oP_rd hI hB h220 hb (es_2 (by decide) (by decide) (by decide +kernel)) ?_ w
    subst hK
    exact (mY_wouldEnd hI.k.2)
theorem o_heir {B : Int} {K Ks : fS} {P : Int → fS} {X I : fS} {c : Int} {t : Int → Int} {G : fS} {h : jH} {f : Int → Int} (hI : lI B K Ks P X I c t G h) (hB : B + 31000 ≤ 20000000) (hb : 0 ≤ B) (h220 : h 220 = some (jA 4 1 f)) {p : Int} (hp : -2147483648 ≤ p ∧ p ≤ 2147483647) : jM mL_heir 8 2 12 [300] [.ref 0, iv p, .ref 220] h (oP (B + 31000) h (m_heir G p)) jno := by
  obtain ⟨hK, hKI⟩ := hI.k
  obtain ⟨fs, h0⟩ := hI.1.o
  refine (w_heir (f := f) (x_heir hI.1 hKI hp) h0 (fun r h' z => ?_) (fun E h' z => ?_)).mo fun r h' w => ?_
  · obtain ⟨rfl, _, rfl⟩ := z; exact ⟨⟨_, rfl⟩, h220⟩
  · have m := em_2 z.1
    obtain ⟨_, rfl⟩ := z; exact ⟨hI.2.2.2.2, m⟩
  · refine oP_rd hI hB h220 hb (es_2 (by decide) (by decide) (by decide +kernel)) ?_ w
    subst hK
    exact mY_heir
theorem o_character {B : Int} {K Ks : fS} {P : Int → fS} {X I : fS} {c : Int} {t : Int → Int} {G : fS} {h : jH} {f : Int → Int} (hI : lI B K Ks P X I c t G h) (hB : B + 31000 ≤ 20000000) (hb : 0 ≤ B) (h220 : h 220 = some (jA 4 1 f)) {i : Int} (hi : -2147483648 ≤ i ∧ i ≤ 2147483647) : jM mL_character 7 1 6 [300] [.ref 0, iv i, .ref 220] h (oP (B + 31000) h (m_character G i)) jno := by
  obtain ⟨hK, hKI⟩ := hI.k
  obtain ⟨fs, h0⟩ := hI.1.o
  have h300 := hI.2.2.2.2
  refine (w_character (f := f) (x_character hI.1 hKI hi h300) h0 (fun r h' z => ?_) (fun E h' z => ?_)).mo fun r h' w => ?_
  · obtain ⟨rfl, _, rfl⟩ := z; exact ⟨⟨_, rfl⟩, h220⟩
  · have m := em_1 z.1
    obtain ⟨_, rfl⟩ := z; exact ⟨hI.2.2.2.2, m⟩
  · refine oP_rd hI hB h220 hb (es_1 (by decide)) ?_ w
    subst hK
    exact (mY_character hI.2.2.1.2.2.2.2.1.1 hI.2.2.1.2.2.2.2.1.2.2.1)
theorem o_refusal {B : Int} {K Ks : fS} {P : Int → fS} {X I : fS} {c : Int} {t : Int → Int} {G : fS} {h : jH} {f : Int → Int} (hI : lI B K Ks P X I c t G h) (hB : B + 31000 ≤ 20000000) (hb : 0 ≤ B) (h220 : h 220 = some (jA 4 1 f)) {d : Int} (hd : d = 0 ∨ d = 1) : jM mL_refusal 7 1 6 [300] [.ref 0, iv d, .ref 220] h (oP (B + 31000) h (m_refusal G d)) jno := by
  obtain ⟨hK, hKI⟩ := hI.k
  obtain ⟨fs, h0⟩ := hI.1.o
  have hr : 0 ≤ X 11 0 ∧ X 11 0 ≤ 10 := by rw [hI.2.2.1.2.2.2.1.2.1]; exact hI.2.2.1.2.2.2.1.2.2.2.1
  refine (w_refusal (f := f) (x_refusal hI.1 hKI hd hr) h0 (fun r h' z => ?_) (fun E h' z => ?_)).mo fun r h' w => ?_
  · obtain ⟨rfl, _, rfl⟩ := z; exact ⟨⟨_, rfl⟩, h220⟩
  · have m := em_1 z.1
    obtain ⟨_, rfl⟩ := z; exact ⟨hI.2.2.2.2, m⟩
  · refine oP_rd hI hB h220 hb (es_1 (by decide)) ?_ w
    subst hK
    exact (mY_refusal hI.2.2.1.2.2.2.1.2.1 hI.2.2.1.2.2.2.1.2.2.1)
theorem o_account {B : Int} {K Ks : fS} {P : Int → fS} {X I : fS} {c : Int} {t : Int → Int} {G : fS} {h : jH} {f : Int → Int} (hI : lI B K Ks P X I c t G h) (hB : B + 31000 ≤ 20000000) (hb : 0 ≤ B) (h220 : h 220 = some (jA 4 1 f)) {w : Int} (hw : -2147483648 ≤ w ∧ w ≤ 2147483647) : jM mL_account 7 1 6 [300] [.ref 0, iv w, .ref 220] h (oP (B + 31000) h (m_account G w)) jno := by
  obtain ⟨hK, hKI⟩ := hI.k
  obtain ⟨fs, h0⟩ := hI.1.o
  refine (w_account (f := f) (x_account hI.1 hKI hw) h0 (fun r h' z => ?_) (fun E h' z => ?_)).mo fun r h' w => ?_
  · obtain ⟨rfl, _, rfl⟩ := z; exact ⟨⟨_, rfl⟩, h220⟩
  · have m := em_1 z.1
    obtain ⟨_, rfl⟩ := z; exact ⟨hI.2.2.2.2, m⟩
  · refine oP_rd hI hB h220 hb (es_1 (by decide)) ?_ w
    subst hK
    exact (mY_account hI.k.2.1 hI.2.2.1.2.2.1.1 hI.2.2.1.2.2.2.2.2.2.1)
/-! orders -/
def rOk (q : kR) : Prop := (0 ≤ q.2.1 ∧ q.2.1 ≤ 10) ∧ -2147483648 ≤ q.2.2.1 ∧ q.2.2.1 ≤ 2147483647
theorem rOk.r {w d : Int} {K : fS} (hw : 0 ≤ w ∧ w ≤ 10) (hd : -2147483648 ≤ d ∧ d ≤ 2147483647) : rOk (kRef w d K) := ⟨hw, hd⟩
theorem rOk.z {a : Int} {K : fS} : rOk (a, 0, 0, K) := ⟨⟨Int.le_refl _, show (0 : Int) ≤ 10 by decide⟩, show (-2147483648 : Int) ≤ 0 by decide, show (0 : Int) ≤ 2147483647 by decide⟩
theorem kWhy_r {B : Int} {K : fS} (hO : jOk B K) {p o : Int} (hp : 0 ≤ p ∧ p < K 6 0) (ho : 0 ≤ o ∧ o < K 6 0) : (0 ≤ (kWhy K p o).1 ∧ (kWhy K p o).1 ≤ 10) ∧ -2147483648 ≤ (kWhy K p o).2 ∧ (kWhy K p o).2 ≤ 2147483647 := by
  have hn := hO.n
  have z1 := hO.s p
  have z2 := hO.s o
  have z3 := faw_rg K p o
  unfold kWhy
  repeat' split
  all_goals (dsimp only; omega)
theorem kTry_rf {B : Int} {K : fS} (hI : kI B K) (kd u v : Int) : rOk (kTry K kd u v) := by
  have hO := hI.1
  have hn := hO.n
  have hqn := hO.q
  have z0 := hO.p u
  have z1 := hO.s u
  unfold kTry
  split
  · unfold kFound
    split
    · exact rOk.r (by decide) (by decide)
    · exact rOk.z
  split
  · unfold kBorn kNo
    repeat' split
    all_goals first | exact rOk.z | exact rOk.r (by decide) (by omega)
  split
  · unfold kGraft kNo
    repeat' split
    all_goals first | exact rOk.z | exact rOk.r (by decide) (by omega)
  split
  · unfold kCut kNo
    repeat' split
    all_goals first | exact rOk.z | exact rOk.r (by decide) (by omega)
  split
  · unfold kMarry kNo
    split
    · rename_i hh
      have w := kWhy_r hO hh.1 hh.2
      split
      · exact rOk.r w.1 w.2
      · exact rOk.z
    · exact rOk.z
  split
  · unfold kPartR kNo
    repeat' split
    all_goals first | exact rOk.z | exact rOk.r (by decide) (by omega)
  split
  · unfold kQuarrel kNo
    split
    · rename_i hh
      have w := fho_rg hO hh.1
      repeat' split
      all_goals first | exact rOk.z | exact rOk.r (by decide) (by omega)
    · exact rOk.z
  split
  · unfold kGiveR kNo
    repeat' split
    all_goals first | exact rOk.z | exact rOk.r (by decide) (by omega)
  · unfold kDieR kNo
    repeat' split
    all_goals first | exact rOk.z | exact rOk.r (by decide) (by omega)
theorem kTry_n3 {B : Int} {K : fS} (hI : kI B K) {kd u v : Int} (h7 : kd ≠ 7) : (kTry K kd u v).1 ≠ -3 := by
  have hO := hI.1
  have hn := hO.n
  have hqn := hO.q
  have z1 := hO.s u
  have r1 : ∀ w d : Int, (kRef w d K).1 ≠ -3 := fun w d => show (-4 : Int) ≠ -3 by decide
  have r2 : (kNo K).1 ≠ -3 := show (-2 : Int) ≠ -3 by decide
  have r3 : ∀ (a w d : Int) (K' : fS), -1 ≤ a → ((a, w, d, K') : kR).1 ≠ -3 := fun a w d K' ha => by show a ≠ -3; omega
  unfold kTry
  split
  · unfold kFound
    repeat' split
    all_goals first | exact r1 _ _ | exact r3 _ _ _ _ (by omega)
  split
  · unfold kBorn
    repeat' split
    all_goals first | exact r1 _ _ | exact r2 | exact r3 _ _ _ _ (by omega)
  split
  · unfold kGraft
    repeat' split
    all_goals first | exact r1 _ _ | exact r2 | (have w := kOaks_p (kpar K u v); exact r3 _ _ _ _ (by omega))
  split
  · unfold kCut
    repeat' split
    all_goals first | exact r1 _ _ | exact r2 | (have w := kOaks_p (kpar K u (-1)); exact r3 _ _ _ _ (by omega))
  split
  · unfold kMarry
    split
    · rename_i hh
      split
      · exact r1 _ _
      · rename_i g1
        obtain ⟨_, _, g2, g3, _⟩ := kWhy_0 g1
        have h1 := kfl_len (kI_marry hI hh.1 hh.2 g2 g3).1
        have h2 : kMar K u v 7 0 = K 7 0 := rfl
        rw [h2] at h1
        exact r3 _ _ _ _ (by omega)
    · exact r2
  split
  · unfold kPartR
    repeat' split
    all_goals first | exact r1 _ _ | exact r2 | exact r3 _ _ _ _ (by omega)
  split
  · unfold kQuarrel
    repeat' split
    all_goals first | exact r1 _ _ | exact r2 | exact r3 _ _ _ _ (by omega)
  unfold kDieR
  split
  · rename_i hh
    have w := fhe_rg hO hI.2.1 hh
    split
    · exact r1 _ _
    · exact r3 _ _ _ _ (by omega)
  · exact r2
theorem kFound_n2 {B : Int} {K : fS} (hI : kI B K) {u v : Int} : (kTry K 0 u v).1 ≠ -2 := by
  have hn := hI.1.n
  show (kFound K).1 ≠ -2
  unfold kFound
  split
  · show (-4 : Int) ≠ -2; decide
  · show K 6 0 ≠ -2; omega
/-- an order in the reference, its state told -/
theorem mOrd {B : Int} {K Ks : fS} {P : Int → fS} {X I : fS} {c : Int} {t : Int → Int} {G : fS} {t9 : Int} {q : kR} {x : Int × fS} (w : mR B K Ks P X I c t G) (hx : mRes t9 q (m_keep G) x) (ht : 1 ≤ t9 ∧ t9 ≤ 3) (hI : kI (B + 31000) q.2.2.2) (hr : rOk q) (hb : 0 ≤ B) (hB : B + 31000 ≤ 20000000) :
    (-1 ≤ q.1 → (m_ends x.2 x.1).1 = q.1 ∧ (m_ends x.2 x.1).2 6 0 = 0 ∧ mR (B + 31000) q.2.2.2 Ks (xP (X 5 0) P K) (gn X 5 (xN (X 5 0))) I c t (m_ends x.2 x.1).2) ∧
    (q.1 = -2 → (m_ends x.2 x.1).2 6 0 = 1 ∧ mR (B + 31000) K Ks P (xX X q) I c t (m_ends x.2 x.1).2) ∧
    (q.1 = -3 → (m_ends x.2 x.1).2 6 0 = 2 ∧ mR (B + 31000) K Ks P (xX X q) I c t (m_ends x.2 x.1).2) ∧
    (q.1 = -4 → (m_ends x.2 x.1).2 6 0 = t9 ∧ mR (B + 31000) K Ks P (xX X q) I c t (m_ends x.2 x.1).2) := by
  obtain ⟨y1, y2, y3⟩ := hx
  have e6 : (m_keep G) 6 0 = 0 := rfl
  have e7 : (m_keep G) 7 0 = G 7 0 := rfl
  have e8 : (m_keep G) 8 0 = G 8 0 := rfl
  have hu : B ≤ B + 31000 ∧ B + 31000 ≤ 20000000 := ⟨by omega, hB⟩
  refine ⟨fun z => ?_, fun z => ?_, fun z => ?_, fun z => ?_⟩
  · rcases y3 with ⟨a, b, g6, g7, g8, g9⟩ | ⟨a, _⟩ | ⟨a, _⟩ | ⟨a, _⟩
    · rw [b]
      exact w.ok y2 (g6.trans e6) (g7.trans e7) (g8.trans e8) y1 hI hB
    all_goals (exfalso; omega)
  · rcases y3 with ⟨a, _⟩ | ⟨a, g6, g7, g8, g9⟩ | ⟨a, _⟩ | ⟨a, _⟩
    · exfalso; omega
    · have v := w.no (a := x.1) (q := q) y2 (by omega) (.inl ⟨by omega, g7.trans e7, g8.trans e8⟩)
      exact ⟨v.1.trans g6, v.2.up hu⟩
    all_goals (exfalso; omega)
  · rcases y3 with ⟨a, _⟩ | ⟨a, _⟩ | ⟨a, g6, g7, g8, g9⟩ | ⟨a, _⟩
    · exfalso; omega
    · exfalso; omega
    · have v := w.no (a := x.1) (q := q) y2 (by omega) (.inl ⟨by omega, g7.trans e7, g8.trans e8⟩)
      exact ⟨v.1.trans g6, v.2.up hu⟩
    · exfalso; omega
  · rcases y3 with ⟨a, _⟩ | ⟨a, _⟩ | ⟨a, _⟩ | ⟨a, g6, g7, g8, g9⟩
    · exfalso; omega
    · exfalso; omega
    · exfalso; omega
    · have v := w.no (a := x.1) (q := q) y2 (by omega) (.inr ⟨a, g7, g8, hr.1, hr.2⟩)
      exact ⟨v.1.trans g6, v.2.up hu⟩
theorem o_found {B : Int} {K Ks : fS} {P : Int → fS} {X I : fS} {c : Int} {t : Int → Int} {G : fS} {h : jH} {f : Int → Int} (hI : lI B K Ks P X I c t G h) (hB : B + 31000 ≤ 20000000) (hb : 0 ≤ B) (h220 : h 220 = some (jA 4 1 f))  : jM mL_found 10 1 6 [300] [.ref 0, .ref 220] h (oP (B + 31000) h (m_found G )) jno := by
  obtain ⟨hK, hKI⟩ := hI.k
  obtain ⟨fs, h0⟩ := hI.1.o
  have hx9 : ∀ E h', xCx K Ks P X I c t (kTry K 0 (-1) (-1)) h E h' → h' 300 = none ∧ (E = "java/lang/UnsupportedOperationException") := fun E h' z => by
    obtain ⟨z1, _, z3⟩ := z
    refine ⟨(z3 300 (by decide)).trans hI.2.2.2.2, ?_⟩
    rcases z1 with ⟨z1, rfl⟩ | ⟨z1, rfl⟩ | ⟨z1, rfl⟩
    · exact absurd z1 (kFound_n2 hKI)
    · exact absurd z1 (kTry_n3 hKI (by decide))
    · exact rfl
  refine (w_found (f := f) (x_found hI.1 hKI  (by omega)) h0 (fun r h' z => ?_) hx9).mo fun r h' w => ?_
  · obtain ⟨rfl, _, _, z4⟩ := z; exact ⟨⟨_, rfl⟩, (z4 220 (by decide)).trans h220⟩
  have hres : mRes 1 (kTry K 0 (-1) (-1)) (m_keep G) (m_doFound (m_keep G) ) := by subst hK; exact m_doFound_K (G := m_keep G) hKI
  have hI2 : kI (B + 31000) (kTry K 0 (-1) (-1)).2.2.2 := (kI_try hKI (by omega) _ _ _).up ⟨by omega, hB⟩
  obtain ⟨r1, r2, r3, r4⟩ := mOrd hI.2.2.1 hres (by decide) hI2 (kTry_rf hKI _ _ _) hb hB
  refine oP_of hI.2.2.2.1 hI.2.2.2.2 w (fun r h' z j j0 => z.2.2.2 j (by omega)) (fun E h' z j j0 => z.2.2 j (by omega)) h220 (fun v h' z => ?_) (fun k E h' hm z => ?_)
  · obtain ⟨z1, z2, z3, _⟩ := z
    obtain ⟨s1, s2, s3⟩ := r1 z2
    exact ⟨_, _, _, _, _, _, _, z3, s3, s2, (iv_i z1).trans (congrArg nz s1.symm)⟩
  · obtain ⟨z1, z3, _⟩ := z
    simp only [List.mem_cons, List.not_mem_nil, or_false, Prod.mk.injEq] at hm
    rcases z1 with ⟨z1, rfl⟩ | ⟨z1, rfl⟩ | ⟨z1, rfl⟩
    · exact absurd z1 (kFound_n2 hKI)
    · exact absurd z1 (kTry_n3 hKI (by decide))
    · obtain ⟨s1, s2⟩ := r4 z1
      have hk : k = 1 := by simpa using hm
      exact ⟨_, _, _, _, _, _, _, z3, s2, s1.trans hk.symm, by omega, by omega⟩
theorem o_born {B : Int} {K Ks : fS} {P : Int → fS} {X I : fS} {c : Int} {t : Int → Int} {G : fS} {h : jH} {f : Int → Int} (hI : lI B K Ks P X I c t G h) (hB : B + 31000 ≤ 20000000) (hb : 0 ≤ B) (h220 : h 220 = some (jA 4 1 f)) {p : Int} (hp : -2147483648 ≤ p ∧ p ≤ 2147483647) : jM mL_born 10 1 6 [300] [.ref 0, iv p, .ref 220] h (oP (B + 31000) h (m_born G p)) jno := by
  obtain ⟨hK, hKI⟩ := hI.k
  obtain ⟨fs, h0⟩ := hI.1.o
  have hx9 : ∀ E h', xCx K Ks P X I c t (kTry K 1 p (-1)) h E h' → h' 300 = none ∧ (E = "java/lang/IndexOutOfBoundsException" ∨ E = "java/lang/UnsupportedOperationException") := fun E h' z => by
    obtain ⟨z1, _, z3⟩ := z
    refine ⟨(z3 300 (by decide)).trans hI.2.2.2.2, ?_⟩
    rcases z1 with ⟨z1, rfl⟩ | ⟨z1, rfl⟩ | ⟨z1, rfl⟩
    · exact .inl rfl
    · exact absurd z1 (kTry_n3 hKI (by decide))
    · exact .inr rfl
  refine (w_born (f := f) (x_born hI.1 hKI hp (by omega)) h0 (fun r h' z => ?_) hx9).mo fun r h' w => ?_
  · obtain ⟨rfl, _, _, z4⟩ := z; exact ⟨⟨_, rfl⟩, (z4 220 (by decide)).trans h220⟩
  have hres : mRes 2 (kTry K 1 p (-1)) (m_keep G) (m_doBorn (m_keep G) p) := by subst hK; exact m_doBorn_K (G := m_keep G) hKI
  have hI2 : kI (B + 31000) (kTry K 1 p (-1)).2.2.2 := (kI_try hKI (by omega) _ _ _).up ⟨by omega, hB⟩
  obtain ⟨r1, r2, r3, r4⟩ := mOrd hI.2.2.1 hres (by decide) hI2 (kTry_rf hKI _ _ _) hb hB
  refine oP_of hI.2.2.2.1 hI.2.2.2.2 w (fun r h' z j j0 => z.2.2.2 j (by omega)) (fun E h' z j j0 => z.2.2 j (by omega)) h220 (fun v h' z => ?_) (fun k E h' hm z => ?_)
  · obtain ⟨z1, z2, z3, _⟩ := z
    obtain ⟨s1, s2, s3⟩ := r1 z2
    exact ⟨_, _, _, _, _, _, _, z3, s3, s2, (iv_i z1).trans (congrArg nz s1.symm)⟩
  · obtain ⟨z1, z3, _⟩ := z
    simp only [List.mem_cons, List.not_mem_nil, or_false, Prod.mk.injEq] at hm
    rcases z1 with ⟨z1, rfl⟩ | ⟨z1, rfl⟩ | ⟨z1, rfl⟩
    · obtain ⟨s1, s2⟩ := r2 z1
      have hk : k = 1 := by simpa using hm
      exact ⟨_, _, _, _, _, _, _, z3, s2, s1.trans hk.symm, by omega, by omega⟩
    · exact absurd z1 (kTry_n3 hKI (by decide))
    · obtain ⟨s1, s2⟩ := r4 z1
      have hk : k = 2 := by simpa using hm
      exact ⟨_, _, _, _, _, _, _, z3, s2, s1.trans hk.symm, by omega, by omega⟩
theorem o_graft {B : Int} {K Ks : fS} {P : Int → fS} {X I : fS} {c : Int} {t : Int → Int} {G : fS} {h : jH} {f : Int → Int} (hI : lI B K Ks P X I c t G h) (hB : B + 31000 ≤ 20000000) (hb : 0 ≤ B) (h220 : h 220 = some (jA 4 1 f)) {p o : Int} (hp : -2147483648 ≤ p ∧ p ≤ 2147483647) (ho : -2147483648 ≤ o ∧ o ≤ 2147483647) : jM mL_graft 10 1 6 [300] [.ref 0, iv p, iv o, .ref 220] h (oP (B + 31000) h (m_graft G p o)) jno := by
  obtain ⟨hK, hKI⟩ := hI.k
  obtain ⟨fs, h0⟩ := hI.1.o
  have hx9 : ∀ E h', xCx K Ks P X I c t (kTry K 2 p o) h E h' → h' 300 = none ∧ (E = "java/lang/IndexOutOfBoundsException" ∨ E = "java/lang/UnsupportedOperationException") := fun E h' z => by
    obtain ⟨z1, _, z3⟩ := z
    refine ⟨(z3 300 (by decide)).trans hI.2.2.2.2, ?_⟩
    rcases z1 with ⟨z1, rfl⟩ | ⟨z1, rfl⟩ | ⟨z1, rfl⟩
    · exact .inl rfl
    · exact absurd z1 (kTry_n3 hKI (by decide))
    · exact .inr rfl
  refine (w_graft (f := f) (x_graft hI.1 hKI hp ho (by omega)) h0 (fun r h' z => ?_) hx9).mo fun r h' w => ?_
  · obtain ⟨rfl, _, _, z4⟩ := z; exact ⟨⟨_, rfl⟩, (z4 220 (by decide)).trans h220⟩
  have hres : mRes 2 (kTry K 2 p o) (m_keep G) (m_doGraft (m_keep G) p o) := by subst hK; exact m_doGraft_K (G := m_keep G) hKI
  have hI2 : kI (B + 31000) (kTry K 2 p o).2.2.2 := (kI_try hKI (by omega) _ _ _).up ⟨by omega, hB⟩
  obtain ⟨r1, r2, r3, r4⟩ := mOrd hI.2.2.1 hres (by decide) hI2 (kTry_rf hKI _ _ _) hb hB
  refine oP_of hI.2.2.2.1 hI.2.2.2.2 w (fun r h' z j j0 => z.2.2.2 j (by omega)) (fun E h' z j j0 => z.2.2 j (by omega)) h220 (fun v h' z => ?_) (fun k E h' hm z => ?_)
  · obtain ⟨z1, z2, z3, _⟩ := z
    obtain ⟨s1, s2, s3⟩ := r1 z2
    exact ⟨_, _, _, _, _, _, _, z3, s3, s2, (iv_i z1).trans (congrArg nz s1.symm)⟩
  · obtain ⟨z1, z3, _⟩ := z
    simp only [List.mem_cons, List.not_mem_nil, or_false, Prod.mk.injEq] at hm
    rcases z1 with ⟨z1, rfl⟩ | ⟨z1, rfl⟩ | ⟨z1, rfl⟩
    · obtain ⟨s1, s2⟩ := r2 z1
      have hk : k = 1 := by simpa using hm
      exact ⟨_, _, _, _, _, _, _, z3, s2, s1.trans hk.symm, by omega, by omega⟩
    · exact absurd z1 (kTry_n3 hKI (by decide))
    · obtain ⟨s1, s2⟩ := r4 z1
      have hk : k = 2 := by simpa using hm
      exact ⟨_, _, _, _, _, _, _, z3, s2, s1.trans hk.symm, by omega, by omega⟩
theorem o_cut {B : Int} {K Ks : fS} {P : Int → fS} {X I : fS} {c : Int} {t : Int → Int} {G : fS} {h : jH} {f : Int → Int} (hI : lI B K Ks P X I c t G h) (hB : B + 31000 ≤ 20000000) (hb : 0 ≤ B) (h220 : h 220 = some (jA 4 1 f)) {p : Int} (hp : -2147483648 ≤ p ∧ p ≤ 2147483647) : jM mL_cut 10 1 6 [300] [.ref 0, iv p, .ref 220] h (oP (B + 31000) h (m_cut G p)) jno := by
  obtain ⟨hK, hKI⟩ := hI.k
  obtain ⟨fs, h0⟩ := hI.1.o
  have hx9 : ∀ E h', xCx K Ks P X I c t (kTry K 3 p (-1)) h E h' → h' 300 = none ∧ (E = "java/lang/IndexOutOfBoundsException" ∨ E = "java/lang/UnsupportedOperationException") := fun E h' z => by
    obtain ⟨z1, _, z3⟩ := z
    refine ⟨(z3 300 (by decide)).trans hI.2.2.2.2, ?_⟩
    rcases z1 with ⟨z1, rfl⟩ | ⟨z1, rfl⟩ | ⟨z1, rfl⟩
    · exact .inl rfl
    · exact absurd z1 (kTry_n3 hKI (by decide))
    · exact .inr rfl
  refine (w_cut (f := f) (x_cut hI.1 hKI hp (by omega)) h0 (fun r h' z => ?_) hx9).mo fun r h' w => ?_
  · obtain ⟨rfl, _, _, z4⟩ := z; exact ⟨⟨_, rfl⟩, (z4 220 (by decide)).trans h220⟩
  have hres : mRes 2 (kTry K 3 p (-1)) (m_keep G) (m_doCut (m_keep G) p) := by subst hK; exact m_doCut_K (G := m_keep G) hKI
  have hI2 : kI (B + 31000) (kTry K 3 p (-1)).2.2.2 := (kI_try hKI (by omega) _ _ _).up ⟨by omega, hB⟩
  obtain ⟨r1, r2, r3, r4⟩ := mOrd hI.2.2.1 hres (by decide) hI2 (kTry_rf hKI _ _ _) hb hB
  refine oP_of hI.2.2.2.1 hI.2.2.2.2 w (fun r h' z j j0 => z.2.2.2 j (by omega)) (fun E h' z j j0 => z.2.2 j (by omega)) h220 (fun v h' z => ?_) (fun k E h' hm z => ?_)
  · obtain ⟨z1, z2, z3, _⟩ := z
    obtain ⟨s1, s2, s3⟩ := r1 z2
    exact ⟨_, _, _, _, _, _, _, z3, s3, s2, (iv_i z1).trans (congrArg nz s1.symm)⟩
  · obtain ⟨z1, z3, _⟩ := z
    simp only [List.mem_cons, List.not_mem_nil, or_false, Prod.mk.injEq] at hm
    rcases z1 with ⟨z1, rfl⟩ | ⟨z1, rfl⟩ | ⟨z1, rfl⟩
    · obtain ⟨s1, s2⟩ := r2 z1
      have hk : k = 1 := by simpa using hm
      exact ⟨_, _, _, _, _, _, _, z3, s2, s1.trans hk.symm, by omega, by omega⟩
    · exact absurd z1 (kTry_n3 hKI (by decide))
    · obtain ⟨s1, s2⟩ := r4 z1
      have hk : k = 2 := by simpa using hm
      exact ⟨_, _, _, _, _, _, _, z3, s2, s1.trans hk.symm, by omega, by omega⟩
theorem o_marry {B : Int} {K Ks : fS} {P : Int → fS} {X I : fS} {c : Int} {t : Int → Int} {G : fS} {h : jH} {f : Int → Int} (hI : lI B K Ks P X I c t G h) (hB : B + 31000 ≤ 20000000) (hb : 0 ≤ B) (h220 : h 220 = some (jA 4 1 f)) {p o : Int} (hp : -2147483648 ≤ p ∧ p ≤ 2147483647) (ho : -2147483648 ≤ o ∧ o ≤ 2147483647) : jM mL_marry 10 1 6 [300] [.ref 0, iv p, iv o, .ref 220] h (oP (B + 31000) h (m_marry G p o)) jno := by
  obtain ⟨hK, hKI⟩ := hI.k
  obtain ⟨fs, h0⟩ := hI.1.o
  have hx9 : ∀ E h', xCx K Ks P X I c t (kTry K 4 p o) h E h' → h' 300 = none ∧ (E = "java/lang/IndexOutOfBoundsException" ∨ E = "java/lang/UnsupportedOperationException") := fun E h' z => by
    obtain ⟨z1, _, z3⟩ := z
    refine ⟨(z3 300 (by decide)).trans hI.2.2.2.2, ?_⟩
    rcases z1 with ⟨z1, rfl⟩ | ⟨z1, rfl⟩ | ⟨z1, rfl⟩
    · exact .inl rfl
    · exact absurd z1 (kTry_n3 hKI (by decide))
    · exact .inr rfl
  refine (w_marry (f := f) (x_marry hI.1 hKI hp ho (by omega)) h0 (fun r h' z => ?_) hx9).mo fun r h' w => ?_
  · obtain ⟨rfl, _, _, z4⟩ := z; exact ⟨⟨_, rfl⟩, (z4 220 (by decide)).trans h220⟩
  have hres : mRes 2 (kTry K 4 p o) (m_keep G) (m_doMarry (m_keep G) p o) := by subst hK; exact m_doMarry_K (G := m_keep G) hKI
  have hI2 : kI (B + 31000) (kTry K 4 p o).2.2.2 := (kI_try hKI (by omega) _ _ _).up ⟨by omega, hB⟩
  obtain ⟨r1, r2, r3, r4⟩ := mOrd hI.2.2.1 hres (by decide) hI2 (kTry_rf hKI _ _ _) hb hB
  refine oP_of hI.2.2.2.1 hI.2.2.2.2 w (fun r h' z j j0 => z.2.2.2 j (by omega)) (fun E h' z j j0 => z.2.2 j (by omega)) h220 (fun v h' z => ?_) (fun k E h' hm z => ?_)
  · obtain ⟨z1, z2, z3, _⟩ := z
    obtain ⟨s1, s2, s3⟩ := r1 z2
    exact ⟨_, _, _, _, _, _, _, z3, s3, s2, (iv_i z1).trans (congrArg nz s1.symm)⟩
  · obtain ⟨z1, z3, _⟩ := z
    simp only [List.mem_cons, List.not_mem_nil, or_false, Prod.mk.injEq] at hm
    rcases z1 with ⟨z1, rfl⟩ | ⟨z1, rfl⟩ | ⟨z1, rfl⟩
    · obtain ⟨s1, s2⟩ := r2 z1
      have hk : k = 1 := by simpa using hm
      exact ⟨_, _, _, _, _, _, _, z3, s2, s1.trans hk.symm, by omega, by omega⟩
    · exact absurd z1 (kTry_n3 hKI (by decide))
    · obtain ⟨s1, s2⟩ := r4 z1
      have hk : k = 2 := by simpa using hm
      exact ⟨_, _, _, _, _, _, _, z3, s2, s1.trans hk.symm, by omega, by omega⟩
theorem o_part {B : Int} {K Ks : fS} {P : Int → fS} {X I : fS} {c : Int} {t : Int → Int} {G : fS} {h : jH} {f : Int → Int} (hI : lI B K Ks P X I c t G h) (hB : B + 31000 ≤ 20000000) (hb : 0 ≤ B) (h220 : h 220 = some (jA 4 1 f)) {p : Int} (hp : -2147483648 ≤ p ∧ p ≤ 2147483647) : jM mL_part 10 1 6 [300] [.ref 0, iv p, .ref 220] h (oP (B + 31000) h (m_part G p)) jno := by
  obtain ⟨hK, hKI⟩ := hI.k
  obtain ⟨fs, h0⟩ := hI.1.o
  have hx9 : ∀ E h', xCx K Ks P X I c t (kTry K 5 p (-1)) h E h' → h' 300 = none ∧ (E = "java/lang/IndexOutOfBoundsException" ∨ E = "java/lang/UnsupportedOperationException") := fun E h' z => by
    obtain ⟨z1, _, z3⟩ := z
    refine ⟨(z3 300 (by decide)).trans hI.2.2.2.2, ?_⟩
    rcases z1 with ⟨z1, rfl⟩ | ⟨z1, rfl⟩ | ⟨z1, rfl⟩
    · exact .inl rfl
    · exact absurd z1 (kTry_n3 hKI (by decide))
    · exact .inr rfl
  refine (w_part (f := f) (x_part hI.1 hKI hp (by omega)) h0 (fun r h' z => ?_) hx9).mo fun r h' w => ?_
  · obtain ⟨rfl, _, _, z4⟩ := z; exact ⟨⟨_, rfl⟩, (z4 220 (by decide)).trans h220⟩
  have hres : mRes 2 (kTry K 5 p (-1)) (m_keep G) (m_doPart (m_keep G) p) := by subst hK; exact m_doPart_K (G := m_keep G) hKI
  have hI2 : kI (B + 31000) (kTry K 5 p (-1)).2.2.2 := (kI_try hKI (by omega) _ _ _).up ⟨by omega, hB⟩
  obtain ⟨r1, r2, r3, r4⟩ := mOrd hI.2.2.1 hres (by decide) hI2 (kTry_rf hKI _ _ _) hb hB
  refine oP_of hI.2.2.2.1 hI.2.2.2.2 w (fun r h' z j j0 => z.2.2.2 j (by omega)) (fun E h' z j j0 => z.2.2 j (by omega)) h220 (fun v h' z => ?_) (fun k E h' hm z => ?_)
  · obtain ⟨z1, z2, z3, _⟩ := z
    obtain ⟨s1, s2, s3⟩ := r1 z2
    exact ⟨_, _, _, _, _, _, _, z3, s3, s2, (iv_i z1).trans (congrArg nz s1.symm)⟩
  · obtain ⟨z1, z3, _⟩ := z
    simp only [List.mem_cons, List.not_mem_nil, or_false, Prod.mk.injEq] at hm
    rcases z1 with ⟨z1, rfl⟩ | ⟨z1, rfl⟩ | ⟨z1, rfl⟩
    · obtain ⟨s1, s2⟩ := r2 z1
      have hk : k = 1 := by simpa using hm
      exact ⟨_, _, _, _, _, _, _, z3, s2, s1.trans hk.symm, by omega, by omega⟩
    · exact absurd z1 (kTry_n3 hKI (by decide))
    · obtain ⟨s1, s2⟩ := r4 z1
      have hk : k = 2 := by simpa using hm
      exact ⟨_, _, _, _, _, _, _, z3, s2, s1.trans hk.symm, by omega, by omega⟩
theorem o_quarrel {B : Int} {K Ks : fS} {P : Int → fS} {X I : fS} {c : Int} {t : Int → Int} {G : fS} {h : jH} {f : Int → Int} (hI : lI B K Ks P X I c t G h) (hB : B + 31000 ≤ 20000000) (hb : 0 ≤ B) (h220 : h 220 = some (jA 4 1 f)) {p o : Int} (hp : -2147483648 ≤ p ∧ p ≤ 2147483647) (ho : -2147483648 ≤ o ∧ o ≤ 2147483647) : jM mL_quarrel 10 1 6 [300] [.ref 0, iv p, iv o, .ref 220] h (oP (B + 31000) h (m_quarrel G p o)) jno := by
  obtain ⟨hK, hKI⟩ := hI.k
  obtain ⟨fs, h0⟩ := hI.1.o
  have hx9 : ∀ E h', xCx K Ks P X I c t (kTry K 6 p o) h E h' → h' 300 = none ∧ (E = "java/lang/IndexOutOfBoundsException" ∨ E = "java/lang/UnsupportedOperationException") := fun E h' z => by
    obtain ⟨z1, _, z3⟩ := z
    refine ⟨(z3 300 (by decide)).trans hI.2.2.2.2, ?_⟩
    rcases z1 with ⟨z1, rfl⟩ | ⟨z1, rfl⟩ | ⟨z1, rfl⟩
    · exact .inl rfl
    · exact absurd z1 (kTry_n3 hKI (by decide))
    · exact .inr rfl
  refine (w_quarrel (f := f) (x_quarrel hI.1 hKI hp ho (by omega)) h0 (fun r h' z => ?_) hx9).mo fun r h' w => ?_
  · obtain ⟨rfl, _, _, z4⟩ := z; exact ⟨⟨_, rfl⟩, (z4 220 (by decide)).trans h220⟩
  have hres : mRes 2 (kTry K 6 p o) (m_keep G) (m_doQuarrel (m_keep G) p o) := by subst hK; exact m_doQuarrel_K (G := m_keep G) hKI
  have hI2 : kI (B + 31000) (kTry K 6 p o).2.2.2 := (kI_try hKI (by omega) _ _ _).up ⟨by omega, hB⟩
  obtain ⟨r1, r2, r3, r4⟩ := mOrd hI.2.2.1 hres (by decide) hI2 (kTry_rf hKI _ _ _) hb hB
  refine oP_of hI.2.2.2.1 hI.2.2.2.2 w (fun r h' z j j0 => z.2.2.2 j (by omega)) (fun E h' z j j0 => z.2.2 j (by omega)) h220 (fun v h' z => ?_) (fun k E h' hm z => ?_)
  · obtain ⟨z1, z2, z3, _⟩ := z
    obtain ⟨s1, s2, s3⟩ := r1 z2
    exact ⟨_, _, _, _, _, _, _, z3, s3, s2, (iv_i z1).trans (congrArg nz s1.symm)⟩
  · obtain ⟨z1, z3, _⟩ := z
    simp only [List.mem_cons, List.not_mem_nil, or_false, Prod.mk.injEq] at hm
    rcases z1 with ⟨z1, rfl⟩ | ⟨z1, rfl⟩ | ⟨z1, rfl⟩
    · obtain ⟨s1, s2⟩ := r2 z1
      have hk : k = 1 := by simpa using hm
      exact ⟨_, _, _, _, _, _, _, z3, s2, s1.trans hk.symm, by omega, by omega⟩
    · exact absurd z1 (kTry_n3 hKI (by decide))
    · obtain ⟨s1, s2⟩ := r4 z1
      have hk : k = 2 := by simpa using hm
      exact ⟨_, _, _, _, _, _, _, z3, s2, s1.trans hk.symm, by omega, by omega⟩
theorem o_give {B : Int} {K Ks : fS} {P : Int → fS} {X I : fS} {c : Int} {t : Int → Int} {G : fS} {h : jH} {f : Int → Int} (hI : lI B K Ks P X I c t G h) (hB : B + 31000 ≤ 20000000) (hb : 0 ≤ B) (h220 : h 220 = some (jA 4 1 f)) {p o : Int} (hp : -2147483648 ≤ p ∧ p ≤ 2147483647) (ho : -2147483648 ≤ o ∧ o ≤ 2147483647) : jM mL_give 10 1 6 [300] [.ref 0, iv p, iv o, .ref 220] h (oP (B + 31000) h (m_give G p o)) jno := by
  obtain ⟨hK, hKI⟩ := hI.k
  obtain ⟨fs, h0⟩ := hI.1.o
  have hx9 : ∀ E h', xCx K Ks P X I c t (kTry K 7 p o) h E h' → h' 300 = none ∧ (E = "java/lang/IndexOutOfBoundsException" ∨ E = "java/lang/IllegalArgumentException" ∨ E = "java/lang/UnsupportedOperationException") := fun E h' z => by
    obtain ⟨z1, _, z3⟩ := z
    refine ⟨(z3 300 (by decide)).trans hI.2.2.2.2, ?_⟩
    rcases z1 with ⟨z1, rfl⟩ | ⟨z1, rfl⟩ | ⟨z1, rfl⟩
    · exact .inl rfl
    · exact .inr (.inl rfl)
    · exact .inr (.inr rfl)
  refine (w_give (f := f) (x_give hI.1 hKI hp ho (by omega)) h0 (fun r h' z => ?_) hx9).mo fun r h' w => ?_
  · obtain ⟨rfl, _, _, z4⟩ := z; exact ⟨⟨_, rfl⟩, (z4 220 (by decide)).trans h220⟩
  have hres : mRes 3 (kTry K 7 p o) (m_keep G) (m_doGive (m_keep G) p o) := by subst hK; exact m_doGive_K (G := m_keep G) hKI
  have hI2 : kI (B + 31000) (kTry K 7 p o).2.2.2 := (kI_try hKI (by omega) _ _ _).up ⟨by omega, hB⟩
  obtain ⟨r1, r2, r3, r4⟩ := mOrd hI.2.2.1 hres (by decide) hI2 (kTry_rf hKI _ _ _) hb hB
  refine oP_of hI.2.2.2.1 hI.2.2.2.2 w (fun r h' z j j0 => z.2.2.2 j (by omega)) (fun E h' z j j0 => z.2.2 j (by omega)) h220 (fun v h' z => ?_) (fun k E h' hm z => ?_)
  · obtain ⟨z1, z2, z3, _⟩ := z
    obtain ⟨s1, s2, s3⟩ := r1 z2
    exact ⟨_, _, _, _, _, _, _, z3, s3, s2, (iv_i z1).trans (congrArg nz s1.symm)⟩
  · obtain ⟨z1, z3, _⟩ := z
    simp only [List.mem_cons, List.not_mem_nil, or_false, Prod.mk.injEq] at hm
    rcases z1 with ⟨z1, rfl⟩ | ⟨z1, rfl⟩ | ⟨z1, rfl⟩
    · obtain ⟨s1, s2⟩ := r2 z1
      have hk : k = 1 := by simpa using hm
      exact ⟨_, _, _, _, _, _, _, z3, s2, s1.trans hk.symm, by omega, by omega⟩
    · obtain ⟨s1, s2⟩ := r3 z1
      have hk : k = 2 := by simpa using hm
      exact ⟨_, _, _, _, _, _, _, z3, s2, s1.trans hk.symm, by omega, by omega⟩
    · obtain ⟨s1, s2⟩ := r4 z1
      have hk : k = 3 := by simpa using hm
      exact ⟨_, _, _, _, _, _, _, z3, s2, s1.trans hk.symm, by omega, by omega⟩
theorem o_die {B : Int} {K Ks : fS} {P : Int → fS} {X I : fS} {c : Int} {t : Int → Int} {G : fS} {h : jH} {f : Int → Int} (hI : lI B K Ks P X I c t G h) (hB : B + 31000 ≤ 20000000) (hb : 0 ≤ B) (h220 : h 220 = some (jA 4 1 f)) {p : Int} (hp : -2147483648 ≤ p ∧ p ≤ 2147483647) : jM mL_die 10 1 6 [300] [.ref 0, iv p, .ref 220] h (oP (B + 31000) h (m_die G p)) jno := by
  obtain ⟨hK, hKI⟩ := hI.k
  obtain ⟨fs, h0⟩ := hI.1.o
  have hx9 : ∀ E h', xCx K Ks P X I c t (kTry K 8 p (-1)) h E h' → h' 300 = none ∧ (E = "java/lang/IndexOutOfBoundsException" ∨ E = "java/lang/UnsupportedOperationException") := fun E h' z => by
    obtain ⟨z1, _, z3⟩ := z
    refine ⟨(z3 300 (by decide)).trans hI.2.2.2.2, ?_⟩
    rcases z1 with ⟨z1, rfl⟩ | ⟨z1, rfl⟩ | ⟨z1, rfl⟩
    · exact .inl rfl
    · exact absurd z1 (kTry_n3 hKI (by decide))
    · exact .inr rfl
  refine (w_die (f := f) (x_die hI.1 hKI hp (by omega)) h0 (fun r h' z => ?_) hx9).mo fun r h' w => ?_
  · obtain ⟨rfl, _, _, z4⟩ := z; exact ⟨⟨_, rfl⟩, (z4 220 (by decide)).trans h220⟩
  have hres : mRes 2 (kTry K 8 p (-1)) (m_keep G) (m_doDie (m_keep G) p) := by subst hK; exact m_doDie_K (G := m_keep G) hKI
  have hI2 : kI (B + 31000) (kTry K 8 p (-1)).2.2.2 := (kI_try hKI (by omega) _ _ _).up ⟨by omega, hB⟩
  obtain ⟨r1, r2, r3, r4⟩ := mOrd hI.2.2.1 hres (by decide) hI2 (kTry_rf hKI _ _ _) hb hB
  refine oP_of hI.2.2.2.1 hI.2.2.2.2 w (fun r h' z j j0 => z.2.2.2 j (by omega)) (fun E h' z j j0 => z.2.2 j (by omega)) h220 (fun v h' z => ?_) (fun k E h' hm z => ?_)
  · obtain ⟨z1, z2, z3, _⟩ := z
    obtain ⟨s1, s2, s3⟩ := r1 z2
    exact ⟨_, _, _, _, _, _, _, z3, s3, s2, (iv_i z1).trans (congrArg nz s1.symm)⟩
  · obtain ⟨z1, z3, _⟩ := z
    simp only [List.mem_cons, List.not_mem_nil, or_false, Prod.mk.injEq] at hm
    rcases z1 with ⟨z1, rfl⟩ | ⟨z1, rfl⟩ | ⟨z1, rfl⟩
    · obtain ⟨s1, s2⟩ := r2 z1
      have hk : k = 1 := by simpa using hm
      exact ⟨_, _, _, _, _, _, _, z3, s2, s1.trans hk.symm, by omega, by omega⟩
    · exact absurd z1 (kTry_n3 hKI (by decide))
    · obtain ⟨s1, s2⟩ := r4 z1
      have hk : k = 2 := by simpa using hm
      exact ⟨_, _, _, _, _, _, _, z3, s2, s1.trans hk.symm, by omega, by omega⟩
