/-! WHAT AN ORDER DOES to the families, and what stays so -/
theorem upk_stay {par : Int → Int} (h : par (-1) = -1) {x : Int} {i j : Nat} (hi : upk par i x = -1) (hij : i ≤ j) : upk par j x = -1 := by
  obtain ⟨d, rfl⟩ : ∃ d, j = i + d := ⟨j - i, by omega⟩
  rw [upk_a, hi, upk_e h]
theorem upk_in {par : Int → Int} (hr : ∀ i, -1 ≤ par i ∧ par i < 24) {x : Int} (hx : -1 ≤ x ∧ x < 24) : ∀ k, -1 ≤ upk par k x ∧ upk par k x < 24
  | 0 => hx
  | k + 1 => by rw [upk_s]; exact hr _
theorem fAc_ex {F : fS} (hr : ∀ i, -1 ≤ F 0 i ∧ F 0 i < 24) (ho : ∀ i, ¬ (0 ≤ i ∧ i < 24) → F 0 i = -1) (h : ∀ x, ∃ k, upk (F 0) k x = -1) : fAc F := by
  have h1 : F 0 (-1) = -1 := ho _ (by omega)
  intro x
  by_cases hx : 0 ≤ x ∧ x < 24
  · refine Classical.byContradiction fun hc => ?_
    have hne : ∀ j, j ≤ 24 → upk (F 0) j x ≠ -1 := fun j hj e => hc (upk_stay h1 e hj)
    have key : ∀ i j : Nat, i < j → i ≤ 24 → upk (F 0) i x ≠ upk (F 0) j x := by
      intro i j hij hi e
      obtain ⟨d, rfl⟩ : ∃ d, j = i + d := ⟨j - i, by omega⟩
      rw [upk_a] at e
      obtain ⟨k, hk⟩ := h (upk (F 0) i x)
      have e2 := upk_cyc e.symm k
      have hd : k ≤ d * k := Nat.le_mul_of_pos_left k (by omega)
      rw [upk_stay h1 hk hd] at e2
      exact hne i hi e2.symm
    have nd : ((List.range 25).map fun j => upk (F 0) j x).Nodup := by
      refine List.pairwise_map.mpr ?_
      refine List.Pairwise.imp_of_mem (R := fun a b => a < b) ?_ List.pairwise_lt_range
      intro a b ha _ hab
      have := List.mem_range.mp ha
      exact key a b hab (by omega)
    have := nodup_len 24 _ nd fun y hy => by
      obtain ⟨j, hj, e⟩ := List.mem_map.mp hy
      have h2 := upk_in hr (x := x) (by omega) j
      have h3 := hne j (by have := List.mem_range.mp hj; omega)
      omega
    rw [List.length_map, List.length_range] at this
    omega
  · exact upk_stay h1 (i := 1) (ho x hx) (by omega)
theorem jOk.r24 {B : Int} {F : fS} (h : jOk B F) (i : Int) : -1 ≤ F 0 i ∧ F 0 i < 24 := by have := h.p i; have := h.n; omega
theorem jOk.o24 {B : Int} {F : fS} (h : jOk B F) (i : Int) (hi : ¬ (0 ≤ i ∧ i < 24)) : F 0 i = -1 := (h.df24 i hi).1
/-- married to each other -/
def kSy (K : fS) : Prop := ∀ p, K 1 p ≠ -1 → K 1 (K 1 p) = p
def kpar (K : fS) (p v : Int) : fS := gs K 0 (jfu (K 0) p v)
def kspo (K : fS) (p v : Int) : fS := gs K 1 (jfu (K 1) p v)
def kcoi (K : fS) (p v : Int) : fS := gs K 2 (jfu (K 2) p v)
def kliv (K : fS) (p v : Int) : fS := gs K 3 (jfu (K 3) p v)
def kAdd (K : fS) (v : Int) : fS := gn (kliv (kpar K (K 6 0) v) (K 6 0) 1) 6 (K 6 0 + 1)
/-- a new person -/
theorem jOk_add {B : Int} {K : fS} {v : Int} (h : jOk B K) (hn : K 6 0 < 24) (hv : -1 ≤ v ∧ v < K 6 0) : jOk B (kAdd K v) := by
  obtain ⟨a1, a2, a3, a4, a5, a6, a7, a8, a9, a10, a11, a12⟩ := h
  refine ⟨⟨by show 0 ≤ K 6 0 + 1; omega, by show K 6 0 + 1 ≤ 24; omega⟩, a2, fun i hi => ?_, fun i => ?_, fun i => ?_, a6, fun i => ?_, fun i h0 h1 => ?_, a9, a10, a11, a12⟩
  · have hi : i < 0 ∨ K 6 0 + 1 ≤ i := hi
    obtain ⟨b1, b2, b3, b4⟩ := a3 i (by omega)
    exact ⟨(jfu_n (by omega)).trans b1, b2, b3, (jfu_n (by omega)).trans b4⟩
  · show -1 ≤ jfu (K 0) (K 6 0) v i ∧ jfu (K 0) (K 6 0) v i < K 6 0 + 1
    by_cases hi : i = K 6 0
    · rw [hi, jfu_s]; omega
    · rw [jfu_n hi]; have := a4 i; omega
  · show -1 ≤ K 1 i ∧ K 1 i < K 6 0 + 1
    have := a5 i; omega
  · show jfu (K 3) (K 6 0) 1 i = 0 ∨ jfu (K 3) (K 6 0) 1 i = 1
    by_cases hi : i = K 6 0
    · rw [hi, jfu_s]; exact Or.inr rfl
    · rw [jfu_n hi]; exact a7 i
  · show (0 ≤ K 4 i ∧ K 4 i < K 6 0 + 1) ∧ (0 ≤ K 5 i ∧ K 5 i < K 6 0 + 1)
    have := a8 i h0 h1; omega
theorem upk_off {par : Int → Int} {n v : Int} (h : ∀ y, par y ≠ n) : ∀ (k : Nat) (y : Int), y ≠ n → upk (jfu par n v) k y = upk par k y
  | 0, _, _ => rfl
  | k + 1, y, hy => by
    show upk (jfu par n v) k (jfu par n v y) = upk par k (par y)
    rw [jfu_n hy]
    exact upk_off h k (par y) (h y)
theorem fAc_add {B : Int} {K : fS} {v : Int} (h : jOk B K) (hA : fAc K) (hn : K 6 0 < 24) (hv : -1 ≤ v ∧ v < K 6 0) : fAc (kAdd K v) := by
  have h' := jOk_add h hn hv
  refine fAc_ex h'.r24 h'.o24 fun x => ?_
  have hne : ∀ y, K 0 y ≠ K 6 0 := fun y => by have := h.p y; omega
  show ∃ k, upk (jfu (K 0) (K 6 0) v) k x = -1
  by_cases hx : x = K 6 0
  · refine ⟨25, ?_⟩
    show upk (jfu (K 0) (K 6 0) v) 24 (jfu (K 0) (K 6 0) v x) = -1
    rw [hx, jfu_s, upk_off hne 24 v (by omega)]
    exact hA v
  · exact ⟨24, by rw [upk_off hne 24 x hx]; exact hA x⟩
theorem fAc_cut {B : Int} {K : fS} {p : Int} (h : jOk B K) (hA : fAc K) (hp : 0 ≤ p ∧ p < K 6 0) : fAc (kpar K p (-1)) := by
  have h' : jOk B (kpar K p (-1)) := jOk_par h hp (by omega)
  refine fAc_ex h'.r24 h'.o24 fun x => ?_
  have key : ∀ (m : Nat) (x : Int), (fdep K x).toNat < m → ∃ k, upk (jfu (K 0) p (-1)) k x = -1 := by
    intro m
    induction m with
    | zero => intro x hm; exact absurd hm (Nat.not_lt_zero _)
    | succ m ih =>
      intro x hm
      by_cases hx : x = p
      · exact ⟨1, by show jfu (K 0) p (-1) x = -1; rw [hx, jfu_s]⟩
      · by_cases h1 : K 0 x = -1
        · exact ⟨1, (jfu_n hx).trans h1⟩
        · have hd := fdep_st h hA h1
          have hr := fdep_rg K (K 0 x)
          obtain ⟨k, hk⟩ := ih (K 0 x) (by omega)
          refine ⟨k + 1, ?_⟩
          show upk (jfu (K 0) p (-1)) k (jfu (K 0) p (-1) x) = -1
          rw [jfu_n hx]
          exact hk
  exact key _ x (Nat.lt_succ_self _)
theorem fAc_graft {B : Int} {K : fS} {r p : Int} (h : jOk B K) (hA : fAc K) (hr : 0 ≤ r ∧ r < K 6 0) (hp : 0 ≤ p ∧ p < K 6 0) (h0 : K 0 r = -1) (hne : frt K p ≠ r) : fAc (kpar K r p) := by
  have h' : jOk B (kpar K r p) := jOk_par h hr (by omega)
  refine fAc_ex h'.r24 h'.o24 fun x => ?_
  have key1 : ∀ (m : Nat) (x : Int), (fdep K x).toNat < m → frt K x ≠ r → ∃ k, upk (jfu (K 0) r p) k x = -1 := by
    intro m
    induction m with
    | zero => intro x hm; exact absurd hm (Nat.not_lt_zero _)
    | succ m ih =>
      intro x hm hx
      have hxr : x ≠ r := fun e => hx (by rw [e]; exact frt_z h0)
      by_cases h1 : K 0 x = -1
      · exact ⟨1, (jfu_n hxr).trans h1⟩
      · have hd := fdep_st h hA h1
        have hg := fdep_rg K (K 0 x)
        obtain ⟨k, hk⟩ := ih (K 0 x) (by omega) (by rw [← frt_st h hA h1]; exact hx)
        refine ⟨k + 1, ?_⟩
        show upk (jfu (K 0) r p) k (jfu (K 0) r p x) = -1
        rw [jfu_n hxr]
        exact hk
  have key2 : ∀ (m : Nat) (x : Int), (fdep K x).toNat < m → ∃ k, upk (jfu (K 0) r p) k x = -1 := by
    intro m
    induction m with
    | zero => intro x hm; exact absurd hm (Nat.not_lt_zero _)
    | succ m ih =>
      intro x hm
      by_cases hxr : x = r
      · obtain ⟨k, hk⟩ := key1 _ p (Nat.lt_succ_self _) hne
        refine ⟨k + 1, ?_⟩
        show upk (jfu (K 0) r p) k (jfu (K 0) r p x) = -1
        rw [hxr, jfu_s]
        exact hk
      · by_cases h1 : K 0 x = -1
        · exact ⟨1, (jfu_n hxr).trans h1⟩
        · have hd := fdep_st h hA h1
          have hg := fdep_rg K (K 0 x)
          obtain ⟨k, hk⟩ := ih (K 0 x) (by omega)
          refine ⟨k + 1, ?_⟩
          show upk (jfu (K 0) r p) k (jfu (K 0) r p x) = -1
          rw [jfu_n hxr]
          exact hk
  exact key2 _ x (Nat.lt_succ_self _)
-- marriages
theorem jOk.sp1 {B : Int} {F : fS} (h : jOk B F) : F 1 (-1) = -1 := (h.df (-1) (Or.inl (by omega))).2.1
theorem kSy_marry {K : fS} {p o : Int} (h : kSy K) (hm : K 1 (-1) = -1) (hp : K 1 p = -1) (ho : K 1 o = -1) : kSy (kspo (kspo K p o) o p) := by
  intro x
  show jfu (jfu (K 1) p o) o p x ≠ -1 → jfu (jfu (K 1) p o) o p (jfu (jfu (K 1) p o) o p x) = x
  by_cases hxo : x = o
  · subst hxo
    rw [jfu_s]
    intro _
    by_cases hpx : p = x
    · rw [hpx, jfu_s]
    · rw [jfu_n hpx, jfu_s]
  · rw [jfu_n hxo]
    by_cases hxp : x = p
    · subst hxp
      rw [jfu_s]
      intro _
      rw [jfu_s]
    · rw [jfu_n hxp]
      intro hx
      have e := h x hx
      have h1 : K 1 x ≠ o := fun q => by
        rw [q, ho] at e
        rw [← e] at hx
        exact hx hm
      have h2 : K 1 x ≠ p := fun q => by
        rw [q, hp] at e
        rw [← e] at hx
        exact hx hm
      rw [jfu_n h1, jfu_n h2]
      exact e
def kMar (K : fS) (p o : Int) : fS := kspo (kspo K p o) o p
def kPart (K : fS) (p : Int) : fS := kspo (kspo K (K 1 p) (-1)) p (-1)
theorem kSy_part {K : fS} {p : Int} (h : kSy K) (hp : K 1 p ≠ -1) : kSy (kPart K p) := by
  intro x
  show jfu (jfu (K 1) (K 1 p) (-1)) p (-1) x ≠ -1 → jfu (jfu (K 1) (K 1 p) (-1)) p (-1) (jfu (jfu (K 1) (K 1 p) (-1)) p (-1) x) = x
  by_cases hxp : x = p
  · rw [hxp, jfu_s]; exact fun q => absurd rfl q
  · rw [jfu_n hxp]
    by_cases hxo : x = K 1 p
    · rw [hxo, jfu_s]; exact fun q => absurd rfl q
    · rw [jfu_n hxo]
      intro hx
      have e := h x hx
      have h1 : K 1 x ≠ p := fun q => hxo (by rw [q] at e; exact e.symm)
      have h2 : K 1 x ≠ K 1 p := fun q => hxp (by rw [q, h p hp] at e; exact e.symm)
      rw [jfu_n h1, jfu_n h2]
      exact e
/-- coins given are those that persons have, and those lost -/
def kBal (K : fS) : Prop := csum (K 2) (K 6 0).toNat + K 10 0 = K 9 0
theorem csum_ge {f : Int → Int} : ∀ k : Nat, (∀ i : Int, 0 ≤ i → 0 ≤ f i) → ∀ i : Int, 0 ≤ i → i < k → f i ≤ csum f k
  | 0, _, _, _, h => absurd h (by omega)
  | k + 1, h, i, h0, h1 => by
    show f i ≤ csum f k + f k
    have h3 := csum_p k fun i h0 _ => h i h0
    have h4 := h k (by omega)
    by_cases hi : i = k
    · rw [hi]; omega
    · have := csum_ge k h i h0 (by omega); omega
def kPass (K : fS) (p e : Int) : fS := if e < 0 then gn (kcoi K p 0) 10 (K 10 0 + K 2 p) else kcoi (kcoi K p 0) e (jfu (K 2) p 0 e + K 2 p)
theorem kPass_ok {B : Int} {K : fS} {p e : Int} (h : jOk B K) (hb : kBal K) (hp : 0 ≤ p ∧ p < K 6 0) (he : -1 ≤ e ∧ e < K 6 0) : jOk B (kPass K p e) ∧ kBal (kPass K p e) := by
  have hn := h.n
  have hc := h.c p
  have e1 : csum (jfu (K 2) p 0) (K 6 0).toNat = csum (K 2) (K 6 0).toNat + (0 - K 2 p) := csum_u hp.1 _ (by omega)
  have h1 : jOk B (kcoi K p 0) := jOk_coi h hp (by have := h.g; omega)
  have hg := h.g
  have ho := h.o
  have hs := csum_p (f := K 2) (K 6 0).toNat fun i _ _ => (h.c i).1
  have hge := csum_ge (f := K 2) (K 6 0).toNat (fun i _ => (h.c i).1) p hp.1 (by omega)
  have hb' : csum (K 2) (K 6 0).toNat + K 10 0 = K 9 0 := hb
  unfold kPass
  by_cases h0 : e < 0
  · rw [if_pos h0]
    obtain ⟨a1, a2, a3, a4, a5, a6, a7, a8, a9, a10, a11, a12⟩ := h1
    refine ⟨⟨a1, a2, a3, a4, a5, a6, a7, a8, a9, a10, ⟨by show 0 ≤ K 10 0 + K 2 p; omega, by show K 10 0 + K 2 p ≤ B; omega⟩, a12⟩, ?_⟩
    show csum (jfu (K 2) p 0) (K 6 0).toNat + (K 10 0 + K 2 p) = K 9 0
    omega
  · rw [if_neg h0]
    have hq : jfu (K 2) p 0 e ≤ csum (jfu (K 2) p 0) (K 6 0).toNat := csum_ge _ (fun i _ => by
      by_cases hi : i = p
      · rw [hi, jfu_s]; exact Int.le_refl _
      · rw [jfu_n hi]; exact (h.c i).1) e (by omega) (by omega)
    have hq0 : 0 ≤ jfu (K 2) p 0 e := by
      by_cases hi : e = p
      · rw [hi, jfu_s]; exact Int.le_refl _
      · rw [jfu_n hi]; exact (h.c e).1
    refine ⟨jOk_coi h1 (p := e) (by show 0 ≤ e ∧ e < K 6 0; omega) (by omega), ?_⟩
    show csum (jfu (jfu (K 2) p 0) e (jfu (K 2) p 0 e + K 2 p)) (K 6 0).toNat + K 10 0 = K 9 0
    rw [csum_u (by omega : 0 ≤ e) _ (by omega)]
    omega
/-- what always holds -/
def kI (B : Int) (K : fS) : Prop := jOk B K ∧ fAc K ∧ kSy K ∧ kBal K
def kGive (K : fS) (p c : Int) : fS := gn (kcoi K p (K 2 p + c)) 9 (K 9 0 + c)
def kDie (K : fS) (p : Int) : fS := kliv (if K 1 p < 0 then kPass K p (fhe K p) else kPart (kPass K p (fhe K p)) p) p 0
def kAddQ (K : fS) (p o : Int) : fS := gn (gs (gs K 4 (jfu (K 4) (K 7 0) p)) 5 (jfu (K 5) (K 7 0) o)) 7 (K 7 0 + 1)
theorem kI_add {B : Int} {K : fS} {v : Int} (h : kI B K) (hn : K 6 0 < 24) (hv : -1 ≤ v ∧ v < K 6 0) : kI B (kAdd K v) := by
  obtain ⟨h1, h2, h3, h4⟩ := h
  refine ⟨jOk_add h1 hn hv, fAc_add h1 h2 hn hv, h3, ?_⟩
  have hn0 := h1.n
  show csum (K 2) (K 6 0 + 1).toNat + K 10 0 = K 9 0
  rw [csum_s _ hn0.1, (h1.df (K 6 0) (Or.inr (Int.le_refl _))).2.2.1]
  have : csum (K 2) (K 6 0).toNat + K 10 0 = K 9 0 := h4
  omega
theorem kI_cut {B : Int} {K : fS} {p : Int} (h : kI B K) (hp : 0 ≤ p ∧ p < K 6 0) : kI B (kpar K p (-1)) :=
  ⟨jOk_par h.1 hp (by omega), fAc_cut h.1 h.2.1 hp, h.2.2.1, h.2.2.2⟩
theorem kI_end {B : Int} {K : fS} (h : kI B K) (hB : B + 20 ≤ 20000000) : kI (B + 20) (kEnd K) := ⟨jOk_end h.1 hB, h.2.1, h.2.2.1, h.2.2.2⟩
theorem kI_graft {B : Int} {K : fS} {r p : Int} (h : kI B K) (hr : 0 ≤ r ∧ r < K 6 0) (hp : 0 ≤ p ∧ p < K 6 0) (h0 : K 0 r = -1) (hne : frt K p ≠ r) : kI B (kpar K r p) :=
  ⟨jOk_par h.1 hr (by omega), fAc_graft h.1 h.2.1 hr hp h0 hne, h.2.2.1, h.2.2.2⟩
theorem jOk_spo2 {B : Int} {K : fS} {p o v w : Int} (h : jOk B K) (hp : 0 ≤ p ∧ p < K 6 0) (ho : 0 ≤ o ∧ o < K 6 0) (hv : -1 ≤ v ∧ v < K 6 0) (hw : -1 ≤ w ∧ w < K 6 0) : jOk B (kspo (kspo K p v) o w) :=
  jOk_spo (jOk_spo h hp hv) (p := o) ho hw
theorem kI_marry {B : Int} {K : fS} {p o : Int} (h : kI B K) (hp : 0 ≤ p ∧ p < K 6 0) (ho : 0 ≤ o ∧ o < K 6 0) (h1 : K 1 p = -1) (h2 : K 1 o = -1) : kI B (kMar K p o) :=
  ⟨jOk_spo2 h.1 hp ho (by omega) (by omega), h.2.1, kSy_marry h.2.2.1 h.1.sp1 h1 h2, h.2.2.2⟩
theorem kI_part {B : Int} {K : fS} {p : Int} (h : kI B K) (hp : 0 ≤ p ∧ p < K 6 0) (h1 : K 1 p ≠ -1) : kI B (kPart K p) := by
  have h2 := h.1.s p
  exact ⟨jOk_spo2 h.1 (by omega) hp (by omega) (by omega), h.2.1, kSy_part h.2.2.1 h1, h.2.2.2⟩
theorem kI_give {B : Int} {K : fS} {p c : Int} (h : kI B K) (hp : 0 ≤ p ∧ p < K 6 0) (hc : 0 ≤ c ∧ c ≤ 999) (hB : B + 999 ≤ 20000000) : kI (B + 999) (kGive K p c) := by
  obtain ⟨h1, h2, h3, h4⟩ := h
  have hcp := h1.c p
  have hg := h1.g
  have hn := h1.n
  have h5 := jOk_coi (B := B + 999) (p := p) (v := K 2 p + c) (h1.up ⟨by omega, hB⟩) hp (by omega)
  obtain ⟨a1, a2, a3, a4, a5, a6, a7, a8, a9, a10, a11, a12⟩ := h5
  refine ⟨⟨a1, a2, a3, a4, a5, a6, a7, a8, a9, ⟨by show 0 ≤ K 9 0 + c; omega, by show K 9 0 + c ≤ B + 999; omega⟩, a11, a12⟩, h2, h3, ?_⟩
  show csum (jfu (K 2) p (K 2 p + c)) (K 6 0).toNat + K 10 0 = K 9 0 + c
  rw [csum_u hp.1 _ (by omega)]
  have : csum (K 2) (K 6 0).toNat + K 10 0 = K 9 0 := h4
  omega
theorem kPass_1 {K : fS} {p e : Int} : kPass K p e 1 = K 1 ∧ kPass K p e 0 = K 0 ∧ kPass K p e 6 = K 6 ∧ kPass K p e 3 = K 3 := by
  unfold kPass
  split <;> exact ⟨rfl, rfl, rfl, rfl⟩
theorem kI_die {B : Int} {K : fS} {p : Int} (h : kI B K) (hp : 0 ≤ p ∧ p < K 6 0) : kI B (kDie K p) := by
  obtain ⟨h1, h2, h3, h4⟩ := h
  have he := fhe_rg h1 h2 hp
  obtain ⟨q1, q2⟩ := kPass_ok h1 h4 hp he
  obtain ⟨r1, r2, r3, r4⟩ := kPass_1 (K := K) (p := p) (e := fhe K p)
  have q3 : kI B (kPass K p (fhe K p)) := ⟨q1, by intro x; rw [r2]; exact h2 x, by intro x; rw [r1]; exact h3 x, q2⟩
  have q4 : kI B (if K 1 p < 0 then kPass K p (fhe K p) else kPart (kPass K p (fhe K p)) p) := by
    split
    · exact q3
    · exact kI_part q3 (by rw [r3]; exact hp) (by rw [r1]; omega)
  have q5 : (if K 1 p < 0 then kPass K p (fhe K p) else kPart (kPass K p (fhe K p)) p) 6 = K 6 := by
    split
    · exact r3
    · exact r3
  exact ⟨jOk_liv q4.1 (by rw [q5]; exact hp) (Or.inl rfl), q4.2.1, q4.2.2.1, q4.2.2.2⟩
theorem kI_addq {B : Int} {K : fS} {p o : Int} (h : kI B K) (hp : 0 ≤ p ∧ p < K 6 0) (ho : 0 ≤ o ∧ o < K 6 0) (hq : K 7 0 < 20) : kI B (kAddQ K p o) := by
  obtain ⟨⟨a1, a2, a3, a4, a5, a6, a7, a8, a9, a10, a11, a12⟩, h2, h3, h4⟩ := h
  refine ⟨⟨a1, ⟨by show 0 ≤ K 7 0 + 1; omega, by show K 7 0 + 1 ≤ 20; omega⟩, a3, a4, a5, a6, a7, fun i h0 h1 => ?_, a9, a10, a11, a12⟩, h2, h3, h4⟩
  have h1 : i < K 7 0 + 1 := h1
  show (0 ≤ jfu (K 4) (K 7 0) p i ∧ jfu (K 4) (K 7 0) p i < K 6 0) ∧ (0 ≤ jfu (K 5) (K 7 0) o i ∧ jfu (K 5) (K 7 0) o i < K 6 0)
  by_cases hi : i = K 7 0
  · rw [hi, jfu_s, jfu_s]; exact ⟨hp, ho⟩
  · rw [jfu_n hi, jfu_n hi]; exact a8 i h0 (by omega)
/-- has the number -/
def khas (K : fS) (p : Int) : Prop := 0 ≤ p ∧ p < K 6 0
/-- an order: its answer (-2 no person, -3 bad coins, -4 refused), the reason, the detail, the families then -/
abbrev kR : Type := Int × Int × Int × fS
def kNo (K : fS) : kR := (-2, 0, 0, K)
def kRef (w d : Int) (K : fS) : kR := (-4, w, d, K)
def kFound (K : fS) : kR := if K 6 0 = 24 then kRef 1 24 K else (K 6 0, 0, 0, kAdd K (-1))
def kBorn (K : fS) (p : Int) : kR := if 0 ≤ p ∧ p < K 6 0 then (if K 3 p = 0 then kRef 2 p K else if K 6 0 = 24 then kRef 1 24 K else (K 6 0, 0, 0, kAdd K p)) else kNo K
def kOaks (K : fS) : Int := csum (fun c => bi (K 0 c = -1)) (K 6 0).toNat
noncomputable def kGraft (K : fS) (r p : Int) : kR := if (0 ≤ r ∧ r < K 6 0) ∧ (0 ≤ p ∧ p < K 6 0) then (if K 0 r ≠ -1 then kRef 3 (K 0 r) K else if frt K p = r then kRef 4 r K else (kOaks (kpar K r p), 0, 0, kEnd (kpar K r p))) else kNo K
def kCut (K : fS) (p : Int) : kR := if 0 ≤ p ∧ p < K 6 0 then (if K 0 p = -1 then kRef 5 p K else (kOaks (kpar K p (-1)), 0, 0, kpar K p (-1))) else kNo K
/-- why two can't be married: 0, or the reason, and the detail -/
def kWhy (K : fS) (p o : Int) : Int × Int := if K 3 p = 0 then (2, p) else if K 3 o = 0 then (2, o) else if K 1 p ≠ -1 then (6, K 1 p) else if K 1 o ≠ -1 then (6, K 1 o) else if frt K p = frt K o ∧ faw K p o ≤ 4 then (7, faw K p o) else (0, 0)
noncomputable def kMarry (K : fS) (p o : Int) : kR := if (0 ≤ p ∧ p < K 6 0) ∧ (0 ≤ o ∧ o < K 6 0) then (if (kWhy K p o).1 ≠ 0 then kRef (kWhy K p o).1 (kWhy K p o).2 K else (K 7 0 - ((kfl (kMar K p o)).length : Int), 0, 0, kEnd (kMar K p o))) else kNo K
def kPartR (K : fS) (p : Int) : kR := if 0 ≤ p ∧ p < K 6 0 then (if K 1 p = -1 then kRef 8 p K else (K 1 p, 0, 0, kPart K p)) else kNo K
noncomputable def kQuarrel (K : fS) (p o : Int) : kR := if (0 ≤ p ∧ p < K 6 0) ∧ (0 ≤ o ∧ o < K 6 0) then (if K 3 p = 0 then kRef 2 p K else if K 3 o = 0 then kRef 2 o K else if fho K p = fho K o then kRef 9 (fho K p) K else if mdq K p o (K 7 0).toNat 0 = true then kRef 10 (K 7 0) K else if K 7 0 = 20 then kRef 1 20 K else (K 7 0 + 1, 0, 0, kAddQ K p o)) else kNo K
def kGiveR (K : fS) (p c : Int) : kR := if 0 ≤ p ∧ p < K 6 0 then (if 1 ≤ c ∧ c ≤ 999 then (if K 3 p = 0 then kRef 2 p K else (K 2 p + c, 0, 0, kGive K p c)) else (-3, 0, 0, K)) else kNo K
def kDieR (K : fS) (p : Int) : kR := if 0 ≤ p ∧ p < K 6 0 then (if K 3 p = 0 then kRef 2 p K else (fhe K p, 0, 0, kDie K p)) else kNo K
noncomputable def kTry (K : fS) (kd a b : Int) : kR := if kd = 0 then kFound K else if kd = 1 then kBorn K a else if kd = 2 then kGraft K a b else if kd = 3 then kCut K a else if kd = 4 then kMarry K a b else if kd = 5 then kPartR K a else if kd = 6 then kQuarrel K a b else if kd = 7 then kGiveR K a b else kDieR K a
theorem kI.up {B B' : Int} {K : fS} (h : kI B K) (hB : B ≤ B' ∧ B' ≤ 20000000) : kI B' K := ⟨h.1.up hB, h.2⟩
theorem kWhy_0 {K : fS} {p o : Int} (h : ¬ (kWhy K p o).1 ≠ 0) : K 3 p ≠ 0 ∧ K 3 o ≠ 0 ∧ K 1 p = -1 ∧ K 1 o = -1 ∧ ¬ (frt K p = frt K o ∧ faw K p o ≤ 4) := by
  unfold kWhy at h
  by_cases h1 : K 3 p = 0
  · rw [if_pos h1] at h; exact absurd (show (2 : Int) ≠ 0 by decide) h
  rw [if_neg h1] at h
  by_cases h2 : K 3 o = 0
  · rw [if_pos h2] at h; exact absurd (show (2 : Int) ≠ 0 by decide) h
  rw [if_neg h2] at h
  by_cases h3 : K 1 p ≠ -1
  · rw [if_pos h3] at h; exact absurd (show (6 : Int) ≠ 0 by decide) h
  rw [if_neg h3] at h
  by_cases h4 : K 1 o ≠ -1
  · rw [if_pos h4] at h; exact absurd (show (6 : Int) ≠ 0 by decide) h
  rw [if_neg h4] at h
  by_cases h5 : frt K p = frt K o ∧ faw K p o ≤ 4
  · rw [if_pos h5] at h; exact absurd (show (7 : Int) ≠ 0 by decide) h
  exact ⟨h1, h2, Decidable.not_not.mp h3, Decidable.not_not.mp h4, h5⟩
theorem kI_try {B : Int} {K : fS} (h : kI B K) (hB : B + 1000 ≤ 20000000) (kd a b : Int) : kI (B + 1000) (kTry K kd a b).2.2.2 := by
  have hu := h.up (B' := B + 1000) ⟨by omega, hB⟩
  have hn := h.1.n
  have hq := h.1.q
  unfold kTry
  split
  · unfold kFound
    split
    · exact hu
    · exact kI_add hu (by omega) (by omega)
  split
  · unfold kBorn
    split
    · split
      · exact hu
      · split
        · exact hu
        · exact kI_add hu (by omega) (by omega)
    · exact hu
  split
  · unfold kGraft
    split
    · rename_i hh
      split
      · exact hu
      · split
        · exact hu
        · rename_i g1 g2
          exact (kI_end (kI_graft h hh.1 hh.2 (Decidable.not_not.mp g1) g2) (by omega)).up ⟨by omega, hB⟩
    · exact hu
  split
  · unfold kCut
    split
    · split
      · exact hu
      · exact kI_cut hu (by assumption)
    · exact hu
  split
  · unfold kMarry
    split
    · rename_i hh
      split
      · exact hu
      · rename_i g1
        obtain ⟨_, _, g2, g3, _⟩ := kWhy_0 g1
        exact (kI_end (kI_marry h hh.1 hh.2 g2 g3) (by omega)).up ⟨by omega, hB⟩
    · exact hu
  split
  · unfold kPartR
    split
    · split
      · exact hu
      · exact kI_part hu (by assumption) (by assumption)
    · exact hu
  split
  · unfold kQuarrel
    split
    · rename_i hh
      repeat' split
      all_goals first | exact hu | exact kI_addq hu hh.1 hh.2 (by omega)
    · exact hu
  split
  · unfold kGiveR
    split
    · split
      · split
        · exact hu
        · exact (kI_give h (by assumption) (by omega) (by omega)).up ⟨by omega, hB⟩
      · exact hu
    · exact hu
  · unfold kDieR
    split
    · split
      · exact hu
      · exact kI_die hu (by assumption)
    · exact hu
