/-! WHAT ALSO STAYS: who is married lives, the dead have no coins, quarrels are between houses, nobody is married to itself -/
theorem con_mono {F F' : fS} {a b : Int} (he : ∀ x y, 0 ≤ x → x < F' 6 0 → 0 ≤ y → (F' 0 x = y ∨ F' 1 x = y) → con F x y) (h : con F' a b) : con F a b :=
  h (fun z => con F a z) con.rf fun x y h0 h1 h2 h3 => ⟨fun q => q.tr (he x y h0 h1 h2 h3), fun q => q.tr (he x y h0 h1 h2 h3).sy⟩
theorem fho_con {B : Int} {F : fS} (hO : jOk B F) {a b : Int} (ha : 0 ≤ a ∧ a < F 6 0) (hb : 0 ≤ b ∧ b < F 6 0) : fho F a = fho F b ↔ con F a b := by
  have ia := fho_is hO ha
  have ib := fho_is hO hb
  refine ⟨fun e => ia.1.tr (by rw [e]; exact ib.1.sy), fun h => ?_⟩
  exact Int.le_antisymm (ia.2 _ (h.tr ib.1)) (ib.2 _ (h.sy.tr ia.1))
def kV (K : fS) : Prop := (∀ p, K 1 p ≠ -1 → K 3 p ≠ 0) ∧ (∀ p, K 3 p = 0 → K 2 p = 0) ∧ (∀ z, 0 ≤ z → z < K 7 0 → fho K (K 4 z) ≠ fho K (K 5 z)) ∧ ∀ p, 0 ≤ p → K 1 p ≠ p
theorem kV_q {B : Int} {K K' : fS} (hO : jOk B K) (h : ∀ z, 0 ≤ z → z < K 7 0 → fho K (K 4 z) ≠ fho K (K 5 z)) (h4 : K' 4 = K 4) (h5 : K' 5 = K 5) (h7 : K' 7 = K 7) (h6 : K 6 0 ≤ K' 6 0) (hO' : jOk B K') (hc : ∀ a b, (0 ≤ a ∧ a < K 6 0) → (0 ≤ b ∧ b < K 6 0) → con K' a b → con K a b) : ∀ z, 0 ≤ z → z < K' 7 0 → fho K' (K' 4 z) ≠ fho K' (K' 5 z) := by
  intro z z0 z1
  rw [h7] at z1
  rw [h4, h5]
  obtain ⟨q1, q2⟩ := hO.qq z z0 z1
  intro e
  exact h z z0 z1 ((fho_con hO q1 q2).mpr (hc _ _ q1 q2 ((fho_con hO' (by omega) (by omega)).mp e)))
theorem con_add {B : Int} {K : fS} {v a b : Int} (hO : jOk B K) (hv : -1 ≤ v ∧ v < K 6 0) (ha : 0 ≤ a ∧ a < K 6 0) (hb : 0 ≤ b ∧ b < K 6 0) (h : con (kAdd K v) a b) : con K a b := by
  have e := h (fun z => (z = K 6 0 ∧ 0 ≤ v ∧ con K a v) ∨ (z ≠ K 6 0 ∧ con K a z)) (Or.inr ⟨by omega, con.rf⟩) fun x y h0 h1 h2 h3 => ?_
  · rcases e with e | e
    · omega
    · exact e.2
  · have h1 : x < K 6 0 + 1 := h1
    have h3 : jfu (K 0) (K 6 0) v x = y ∨ K 1 x = y := h3
    by_cases hx : x = K 6 0
    · rw [hx, jfu_s] at h3
      have h9 : K 1 (K 6 0) = -1 := (hO.df (K 6 0) (Or.inr (Int.le_refl _))).2.1
      have hvy : v = y := by omega
      constructor
      · rintro (⟨_, _, q⟩ | ⟨q, _⟩)
        · exact Or.inr ⟨by omega, by rw [← hvy]; exact q⟩
        · exact absurd hx q
      · rintro (⟨q, _⟩ | ⟨_, q⟩)
        · omega
        · exact Or.inl ⟨hx, by omega, by rw [hvy]; exact q⟩
    · rw [jfu_n hx] at h3
      have hp := hO.p x
      have hs := hO.s x
      have hy : y ≠ K 6 0 := by omega
      constructor
      · rintro (⟨q, _⟩ | ⟨_, q⟩)
        · exact absurd q hx
        · exact Or.inr ⟨hy, q.tr (con.ed h0 (by omega) h2 h3)⟩
      · rintro (⟨q, _⟩ | ⟨_, q⟩)
        · exact absurd q hy
        · exact Or.inr ⟨hx, q.tr (con.de h0 (by omega) h2 h3)⟩
theorem kV_add {B : Int} {K : fS} {v : Int} (hO : jOk B K) (h : kV K) (hn : K 6 0 < 24) (hv : -1 ≤ v ∧ v < K 6 0) : kV (kAdd K v) := by
  obtain ⟨h1, h2, h3, h4⟩ := h
  refine ⟨fun p hp => ?_, fun p hp => ?_, kV_q hO h3 rfl rfl rfl (by show K 6 0 ≤ K 6 0 + 1; omega) (jOk_add hO hn hv) fun a b ha hb hc => con_add hO hv ha hb hc, h4⟩
  · show jfu (K 3) (K 6 0) 1 p ≠ 0
    by_cases q : p = K 6 0
    · rw [q, jfu_s]; decide
    · rw [jfu_n q]; exact h1 p hp
  · have hp : jfu (K 3) (K 6 0) 1 p = 0 := hp
    by_cases q : p = K 6 0
    · rw [q, jfu_s] at hp; exact absurd hp (by decide)
    · rw [jfu_n q] at hp; exact h2 p hp
theorem kV_cut {B : Int} {K : fS} {p : Int} (hO : jOk B K) (h : kV K) (hp : 0 ≤ p ∧ p < K 6 0) : kV (kpar K p (-1)) := by
  obtain ⟨h1, h2, h3, h4⟩ := h
  refine ⟨h1, h2, kV_q hO h3 rfl rfl rfl (Int.le_refl _) (jOk_par hO hp (by omega)) fun a b _ _ hc => con_mono (fun x y x0 x1 y0 q => ?_) hc, h4⟩
  have q : jfu (K 0) p (-1) x = y ∨ K 1 x = y := q
  by_cases e : x = p
  · rw [e, jfu_s] at q
    rw [e]
    exact con.ed hp.1 hp.2 y0 (Or.inr (by omega))
  · rw [jfu_n e] at q
    exact con.ed x0 x1 y0 q
theorem kV_part {B : Int} {K : fS} {p : Int} (hO : jOk B K) (h : kV K) (hp : 0 ≤ p ∧ p < K 6 0) (hs : K 1 p ≠ -1) : kV (kPart K p) := by
  obtain ⟨h1, h2, h3, h4⟩ := h
  have hsp := hO.s p
  have e1 : ∀ x, jfu (jfu (K 1) (K 1 p) (-1)) p (-1) x = -1 ∨ jfu (jfu (K 1) (K 1 p) (-1)) p (-1) x = K 1 x := fun x => by
    by_cases a : x = p
    · rw [a, jfu_s]; exact Or.inl rfl
    · rw [jfu_n a]
      by_cases b : x = K 1 p
      · rw [b, jfu_s]; exact Or.inl rfl
      · rw [jfu_n b]; exact Or.inr rfl
  refine ⟨fun x hx => h1 x ?_, h2, kV_q hO h3 rfl rfl rfl (Int.le_refl _) (jOk_spo2 hO (by omega) hp (by omega) (by omega)) fun a b _ _ hc => con_mono (fun x y x0 x1 y0 q => ?_) hc, fun x hx => ?_⟩
  · rcases e1 x with e | e
    · exact absurd e hx
    · intro q; exact hx (e.trans q)
  · have q : K 0 x = y ∨ jfu (jfu (K 1) (K 1 p) (-1)) p (-1) x = y := q
    refine con.ed x0 x1 y0 ?_
    rcases e1 x with e | e
    · rw [e] at q; omega
    · rw [e] at q; exact q
  · show jfu (jfu (K 1) (K 1 p) (-1)) p (-1) x ≠ x
    rcases e1 x with e | e
    · rw [e]; omega
    · rw [e]; exact h4 x hx
theorem kV_end {K : fS} (h1 : ∀ p, K 1 p ≠ -1 → K 3 p ≠ 0) (h2 : ∀ p, K 3 p = 0 → K 2 p = 0) (h4 : ∀ p, 0 ≤ p → K 1 p ≠ p) : kV (kEnd K) := by
  refine ⟨h1, h2, fun z z0 z1 => ?_, h4⟩
  have z1 : z < ((kfl K).length : Int) := z1
  show fho K (qA (kfl K) z) ≠ fho K (qB (kfl K) z)
  have hz : (kfl K)[z.toNat]? = some (kfl K)[z.toNat] := List.getElem?_eq_getElem (by omega)
  obtain ⟨e1, e2⟩ := qA_at z0 hz
  rw [e1, e2]
  have hm : (kfl K)[z.toNat] ∈ kfl K := List.mem_of_getElem? hz
  have hf := (List.mem_filter.mp hm).2
  intro e
  rw [hne_f e] at hf
  cases hf
theorem kV_marry {B : Int} {K : fS} {p o : Int} (hO : jOk B K) (h : kV K) (hp : 0 ≤ p ∧ p < K 6 0) (ho : 0 ≤ o ∧ o < K 6 0) (hpo : p ≠ o) (l1 : K 3 p ≠ 0) (l2 : K 3 o ≠ 0) : kV (kEnd (kMar K p o)) := by
  obtain ⟨h1, h2, h3, h4⟩ := h
  refine kV_end (fun x hx => ?_) h2 fun x hx => ?_
  · show K 3 x ≠ 0
    have hx : jfu (jfu (K 1) p o) o p x ≠ -1 := hx
    by_cases a : x = o
    · rw [a]; exact l2
    · rw [jfu_n a] at hx
      by_cases b : x = p
      · rw [b]; exact l1
      · rw [jfu_n b] at hx; exact h1 x hx
  · show jfu (jfu (K 1) p o) o p x ≠ x
    by_cases a : x = o
    · rw [a, jfu_s]; exact hpo
    · rw [jfu_n a]
      by_cases b : x = p
      · rw [b, jfu_s]; exact fun q => hpo q.symm
      · rw [jfu_n b]; exact h4 x hx
theorem faw_same {B : Int} {K : fS} (hO : jOk B K) (hA : fAc K) {p : Int} (hp : 0 ≤ p) : faw K p p = 0 := by
  have e : flc K p p = p := flc_t hO (fab_self hO hA (by omega))
  unfold faw
  rw [e]
  omega
theorem fel_liv {B : Int} {F : fS} (hO : jOk B F) (hA : fAc F) : ∀ (k : Nat) (x : Int), upk (F 0) k x = -1 → fel F k x = -1 ∨ (F 3 (fel F k x) ≠ 0 ∧ ∃ j : Nat, fel F k x = upk (F 0) j x)
  | 0, x, h => Or.inl h
  | k + 1, x, h => by
    by_cases q : x = -1 ∨ F 3 x ≠ 0
    · rw [fel_e q]
      rcases q with q | q
      · exact Or.inl q
      · exact Or.inr ⟨q, 0, rfl⟩
    · rw [fel_st q]
      rcases fel_liv hO hA k (F 0 x) h with e | ⟨e, j, f⟩
      · exact Or.inl e
      · exact Or.inr ⟨e, j + 1, f⟩
theorem fhe_liv {B : Int} {K : fS} (hI : kI B K) (h : kV K) {p : Int} (hp : 0 ≤ p ∧ p < K 6 0) : fhe K p = -1 ∨ (K 3 (fhe K p) ≠ 0 ∧ fhe K p ≠ p) := by
  obtain ⟨hO, hA, hS, hB⟩ := hI
  obtain ⟨h1, h2, h3, h4⟩ := h
  cases hf : (des K 24 p).find? (fun x => decide (K 3 x ≠ 0)) with
  | some x =>
    rw [fhe_s hf]
    have hx := List.find?_some hf
    obtain ⟨j, j0, j1, j2, j3⟩ := des_up 24 p (List.mem_of_find?_eq_some hf)
    refine Or.inr ⟨by simpa using hx, fun e => ?_⟩
    rw [e] at j1
    have := upk_acy hO hA j0 j1
    omega
  | none =>
    rw [fhe_n hf]
    by_cases q : K 1 p < 0
    · rw [if_pos q]
      rcases fel_liv hO hA 24 (K 0 p) (hA _) with e | ⟨e, j, f⟩
      · exact Or.inl e
      · refine Or.inr ⟨e, fun g => ?_⟩
        have e9 : upk (K 0) (j + 1) p = p := f.symm.trans g
        have := upk_acy hO hA (Nat.succ_pos j) e9
        omega
    · rw [if_neg q]
      have hs := hO.s p
      have e1 := hS p (by omega)
      exact Or.inr ⟨h1 _ (by rw [e1]; omega), h4 p hp.1⟩
theorem kPass_c {K : fS} {p e : Int} : kPass K p e 1 = K 1 ∧ kPass K p e 0 = K 0 ∧ kPass K p e 6 = K 6 ∧ kPass K p e 3 = K 3 ∧ kPass K p e 4 = K 4 ∧ kPass K p e 5 = K 5 ∧ kPass K p e 7 = K 7 := by
  unfold kPass
  split <;> exact ⟨rfl, rfl, rfl, rfl, rfl, rfl, rfl⟩
theorem kV_die {B : Int} {K : fS} {p : Int} (hI : kI B K) (h : kV K) (hp : 0 ≤ p ∧ p < K 6 0) : kV (kDie K p) := by
  have he := fhe_liv hI h hp
  have hO' : jOk B (kliv (if K 1 p < 0 then kPass K p (fhe K p) else kPart (kPass K p (fhe K p)) p) p 0) := (kI_die hI hp).1
  show kV (kliv (if K 1 p < 0 then kPass K p (fhe K p) else kPart (kPass K p (fhe K p)) p) p 0)
  obtain ⟨hO, hA, hS, hB⟩ := hI
  obtain ⟨h1, h2, h3, h4⟩ := h
  have hsp := hO.s p
  generalize fhe K p = e at he hO' ⊢
  obtain ⟨r1, r0, r6, r3, r4, r5, r7⟩ := kPass_c (K := K) (p := p) (e := e)
  have d3 : ∀ Q : fS, (Q = kPass K p e ∨ Q = kPart (kPass K p e) p) → Q 3 = K 3 ∧ Q 0 = K 0 ∧ Q 6 = K 6 ∧ Q 4 = K 4 ∧ Q 5 = K 5 ∧ Q 7 = K 7 ∧ Q 2 = kPass K p e 2 := fun Q q => by
    rcases q with q | q
    · rw [q]; exact ⟨r3, r0, r6, r4, r5, r7, rfl⟩
    · rw [q]; exact ⟨r3, r0, r6, r4, r5, r7, rfl⟩
  have key : ∀ Q : fS, (Q = kPass K p e ∨ Q = kPart (kPass K p e) p) → (∀ x, Q 1 x = -1 ∨ (x ≠ p ∧ Q 1 x = K 1 x)) → jOk B (kliv Q p 0) → kV (kliv Q p 0) := by
    intro Q hQ q1 hO'
    obtain ⟨g3, g0, g6, g4, g5, g7, g2⟩ := d3 Q hQ
    refine ⟨fun x hx => ?_, fun x hx => ?_, kV_q hO h3 g4 g5 g7 (by show K 6 0 ≤ Q 6 0; rw [g6]; exact Int.le_refl _) hO' fun a b _ _ hc => con_mono (fun x y x0 x1 y0 q => ?_) hc, fun x hx => ?_⟩
    · show jfu (Q 3) p 0 x ≠ 0
      rcases q1 x with a | ⟨a, b⟩
      · exact absurd a hx
      · rw [jfu_n a, g3]
        exact h1 x (by rw [← b]; exact hx)
    · have hx : jfu (Q 3) p 0 x = 0 := hx
      show Q 2 x = 0
      rw [g2]
      have hxe : ¬ e < 0 → x = e → x = p := fun q z => by
        refine Decidable.not_not.mp fun w => ?_
        rw [jfu_n w, g3] at hx
        rcases he with a | ⟨a, _⟩
        · omega
        · exact a (by rw [← z]; exact hx)
      unfold kPass
      by_cases q : e < 0
      · rw [if_pos q]
        show jfu (K 2) p 0 x = 0
        by_cases w : x = p
        · rw [w, jfu_s]
        · rw [jfu_n w]
          rw [jfu_n w, g3] at hx
          exact h2 x hx
      · rw [if_neg q]
        show jfu (jfu (K 2) p 0) e (jfu (K 2) p 0 e + K 2 p) x = 0
        have hep : e ≠ p := by
          rcases he with a | ⟨_, a⟩
          · omega
          · exact a
        have hne : x ≠ e := fun z => hep (z.symm.trans (hxe q z))
        rw [jfu_n hne]
        by_cases w : x = p
        · rw [w, jfu_s]
        · rw [jfu_n w]
          rw [jfu_n w, g3] at hx
          exact h2 x hx
    · have q : Q 0 x = y ∨ Q 1 x = y := q
      have x1 : x < Q 6 0 := x1
      rw [g6] at x1
      rw [g0] at q
      refine con.ed x0 x1 y0 ?_
      rcases q1 x with a | ⟨a, b⟩
      · rw [a] at q; omega
      · rw [b] at q; exact q
    · show Q 1 x ≠ x
      rcases q1 x with a | ⟨a, b⟩
      · rw [a]; omega
      · rw [b]; exact h4 x hx
  by_cases q : K 1 p < 0
  · rw [if_pos q] at hO' ⊢
    exact key _ (Or.inl rfl) (fun x => by
      rw [r1]
      by_cases w : x = p
      · exact Or.inl (by rw [w]; omega)
      · exact Or.inr ⟨w, rfl⟩) hO'
  · rw [if_neg q] at hO' ⊢
    refine key _ (Or.inr rfl) (fun x => ?_) hO'
    show jfu (jfu (kPass K p e 1) (kPass K p e 1 p) (-1)) p (-1) x = -1 ∨ (x ≠ p ∧ jfu (jfu (kPass K p e 1) (kPass K p e 1 p) (-1)) p (-1) x = K 1 x)
    rw [r1]
    by_cases w : x = p
    · rw [w, jfu_s]; exact Or.inl rfl
    · rw [jfu_n w]
      by_cases u : x = K 1 p
      · rw [u, jfu_s]; exact Or.inl rfl
      · rw [jfu_n u]; exact Or.inr ⟨w, rfl⟩
theorem kV_addq {B : Int} {K : fS} {p o : Int} (hO : jOk B K) (h : kV K) (hne : fho K p ≠ fho K o) : kV (kAddQ K p o) := by
  obtain ⟨h1, h2, h3, h4⟩ := h
  refine ⟨h1, h2, fun z z0 z1 => ?_, h4⟩
  have z1 : z < K 7 0 + 1 := z1
  show fho K (jfu (K 4) (K 7 0) p z) ≠ fho K (jfu (K 5) (K 7 0) o z)
  by_cases q : z = K 7 0
  · rw [q, jfu_s, jfu_s]; exact hne
  · rw [jfu_n q, jfu_n q]; exact h3 z z0 (by omega)
theorem kV_give {K : fS} {p c : Int} (h : kV K) (hl : K 3 p ≠ 0) : kV (kGive K p c) := by
  obtain ⟨h1, h2, h3, h4⟩ := h
  refine ⟨h1, fun x hx => ?_, h3, h4⟩
  have hx : K 3 x = 0 := hx
  show jfu (K 2) p (K 2 p + c) x = 0
  by_cases q : x = p
  · rw [q] at hx; exact absurd hx hl
  · rw [jfu_n q]; exact h2 x hx
theorem kV_try {B : Int} {K : fS} (h : kI B K) (hV : kV K) (kd a b : Int) : kV (kTry K kd a b).2.2.2 := by
  have hn := h.1.n
  unfold kTry
  split
  · unfold kFound
    split
    · exact hV
    · exact kV_add h.1 hV (by omega) (by omega)
  split
  · unfold kBorn
    split
    · split
      · exact hV
      · split
        · exact hV
        · exact kV_add h.1 hV (by omega) (by omega)
    · exact hV
  split
  · unfold kGraft
    split
    · split
      · exact hV
      · split
        · exact hV
        · exact kV_end (K := kpar K a b) hV.1 hV.2.1 hV.2.2.2
    · exact hV
  split
  · unfold kCut
    split
    · split
      · exact hV
      · exact kV_cut h.1 hV (by assumption)
    · exact hV
  split
  · unfold kMarry
    split
    · rename_i hh
      split
      · exact hV
      · rename_i g1
        obtain ⟨l1, l2, g2, g3, g4⟩ := kWhy_0 g1
        refine kV_marry h.1 hV hh.1 hh.2 (fun e => ?_) l1 l2
        subst e
        have := faw_same h.1 h.2.1 hh.1.1
        exact g4 ⟨rfl, by omega⟩
    · exact hV
  split
  · unfold kPartR
    split
    · split
      · exact hV
      · exact kV_part h.1 hV (by assumption) (by assumption)
    · exact hV
  split
  · unfold kQuarrel
    split
    · split
      · exact hV
      split
      · exact hV
      split
      · exact hV
      split
      · exact hV
      split
      · exact hV
      exact kV_addq h.1 hV (by assumption)
    · exact hV
  split
  · unfold kGiveR
    split
    · split
      · split
        · exact hV
        · exact kV_give hV (by assumption)
      · exact hV
    · exact hV
  · unfold kDieR
    split
    · split
      · exact hV
      · exact kV_die h hV (by assumption)
    · exact hV
theorem kTry_ne {B : Int} {K : fS} (h : kI B K) {kd a b : Int} (hk : 0 ≤ kd ∧ kd < 8) : (kTry K kd a b).1 ≠ -1 := by
  have hO := h.1
  have hn := hO.n
  have hq := hO.q
  unfold kTry
  split
  · unfold kFound
    split
    · show (-4 : Int) ≠ -1; decide
    · show K 6 0 ≠ -1; omega
  split
  · unfold kBorn
    repeat' split
    all_goals first | (show (-4 : Int) ≠ -1; decide) | (show (-2 : Int) ≠ -1; decide) | (show K 6 0 ≠ -1; omega)
  split
  · unfold kGraft
    have := kOaks_p (kpar K a b)
    repeat' split
    all_goals first | (show (-4 : Int) ≠ -1; decide) | (show (-2 : Int) ≠ -1; decide) | (show kOaks (kpar K a b) ≠ -1; omega)
  split
  · unfold kCut
    have := kOaks_p (kpar K a (-1))
    repeat' split
    all_goals first | (show (-4 : Int) ≠ -1; decide) | (show (-2 : Int) ≠ -1; decide) | (show kOaks (kpar K a (-1)) ≠ -1; omega)
  split
  · unfold kMarry
    split
    · rename_i hh
      split
      · show (-4 : Int) ≠ -1; decide
      · have hm := jOk_spo2 (p := a) (o := b) (v := b) (w := a) hO hh.1 hh.2 (by omega) (by omega)
        have := kfl_len hm
        have e7 : kMar K a b 7 0 = K 7 0 := rfl
        have this : ((kfl (kMar K a b)).length : Int) ≤ K 7 0 := this
        show K 7 0 - ((kfl (kMar K a b)).length : Int) ≠ -1
        omega
    · show (-2 : Int) ≠ -1; decide
  split
  · unfold kPartR
    repeat' split
    all_goals first | (show (-4 : Int) ≠ -1; decide) | (show (-2 : Int) ≠ -1; decide) | (show K 1 a ≠ -1; assumption)
  split
  · unfold kQuarrel
    repeat' split
    all_goals first | (show (-4 : Int) ≠ -1; decide) | (show (-2 : Int) ≠ -1; decide) | (show K 7 0 + 1 ≠ -1; omega)
  split
  · unfold kGiveR
    have hc := hO.c a
    repeat' split
    all_goals first | (show (-4 : Int) ≠ -1; decide) | (show (-2 : Int) ≠ -1; decide) | (show (-3 : Int) ≠ -1; decide) | (show K 2 a + b ≠ -1; omega)
  · omega
theorem kI_runs : ∀ (l : List (Int × Int × Int)) (B : Int) (K : fS), kI B K → B + 1000 * (l.length : Int) ≤ 20000000 → kI (B + 1000 * (l.length : Int)) (kRuns K l).2.2.2
  | [], B, K, h, hB => by
    show kI (B + 1000 * ((0 : Nat) : Int)) K
    rw [show B + 1000 * ((0 : Nat) : Int) = B by omega]
    exact h
  | z :: l, B, K, h, hB => by
    have e : ((z :: l).length : Int) = (l.length : Int) + 1 := by simp
    rw [e] at hB ⊢
    have hl := Int.natCast_nonneg l.length
    have h1 := kI_try h (by omega) z.1 z.2.1 z.2.2
    by_cases c : (kTry K z.1 z.2.1 z.2.2).1 < -1
    · rw [kRuns_n c]
      exact h1.up ⟨by omega, hB⟩
    · rw [kRuns_y c]
      have w := kI_runs l (B + 1000) _ h1 (by omega)
      rw [show B + 1000 * ((l.length : Int) + 1) = B + 1000 + 1000 * (l.length : Int) by omega]
      exact w
