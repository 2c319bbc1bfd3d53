/-! WHAT THE LAW'S CHECKS REST ON -/
-- first ones
theorem nfst_sp {q : Int → Bool} : ∀ (k : Nat) (c : Int), 0 ≤ c → nfst q k c ≠ -1 → q (nfst q k c) = true ∧ c ≤ nfst q k c ∧ ∀ x, c ≤ x → x < nfst q k c → q x = false
  | 0, _, _, h => absurd rfl h
  | k + 1, c, h0, h => by
    cases hq : q c with
    | true => rw [nfst_t hq]; exact ⟨hq, Int.le_refl _, fun x a b => by omega⟩
    | false =>
      rw [nfst_f hq] at h ⊢
      obtain ⟨a, b, d⟩ := nfst_sp k (c + 1) (by omega) h
      refine ⟨a, by omega, fun x x0 x1 => ?_⟩
      by_cases e : x = c
      · rw [e]; exact hq
      · exact d x (by omega) x1
theorem nfst_no {q : Int → Bool} : ∀ (k : Nat) (c : Int), 0 ≤ c → nfst q k c = -1 → ∀ x, c ≤ x → x < c + k → q x = false
  | 0, _, _, _, x, a, b => by omega
  | k + 1, c, h0, h, x, a, b => by
    cases hq : q c with
    | true => rw [nfst_t hq] at h; omega
    | false =>
      rw [nfst_f hq] at h
      by_cases e : x = c
      · rw [e]; exact hq
      · exact nfst_no k (c + 1) (by omega) h x (by omega) (by omega)
theorem fch_sp {B : Int} {F : fS} (hO : jOk B F) {t c : Int} (hc : -1 ≤ c) (h : fch F t c ≠ -1) : F 0 (fch F t c) = t ∧ c < fch F t c ∧ fch F t c < F 6 0 ∧ ∀ x, c < x → x < fch F t c → F 0 x ≠ t := by
  obtain ⟨a, b, d⟩ := nfst_sp _ _ (by omega) h
  have hr := nfst_rg (fun x => decide (F 0 x = t)) (F 6 0 - (c + 1)).toNat (c + 1)
  have hn := hO.n
  have e : fch F t c = nfst (fun x => decide (F 0 x = t)) (F 6 0 - (c + 1)).toNat (c + 1) := rfl
  rw [← e] at a b d hr
  exact ⟨of_decide_eq_true a, by omega, by omega, fun x x0 x1 => of_decide_eq_false (d x (by omega) x1)⟩
theorem fch_no {F : fS} {t c : Int} (hc : -1 ≤ c) (h : fch F t c = -1) : ∀ x, c < x → x < F 6 0 → F 0 x ≠ t := fun x x0 x1 => of_decide_eq_false (nfst_no _ _ (by omega) h x (by omega) (by omega))
theorem csum_0 {f : Int → Int} : ∀ k : Nat, (∀ i : Int, 0 ≤ i → i < k → f i = 0) → csum f k = 0
  | 0, _ => rfl
  | k + 1, h => by
    show csum f k + f k = 0
    rw [csum_0 k (fun i a b => h i a (by omega)), h k (by omega) (by omega)]
    rfl
/-- no children -/
theorem ch_0 {F : fS} {u : Int} (hn : 0 ≤ F 6 0) (h : fch F u (-1) = -1) : csum (fun c => bi (F 0 c = u)) (F 6 0).toNat = 0 := csum_0 _ fun i a b => bi_f (fch_no (by omega) h i (by omega) (by omega))
-- the next of the descendants
theorem fnx_sp {B : Int} {F : fS} (hO : jOk B F) {t v : Int} (ht : 0 ≤ t) (hv : v ≠ -1) : ∀ (k m : Nat) (x : Int), 0 ≤ x → upk (F 0) m x = t → fnx F t k (-1) x = v → ∃ j : Nat, 0 ≤ upk (F 0) j x ∧ 0 ≤ F 0 (upk (F 0) j x) ∧ fch F (F 0 (upk (F 0) j x)) (upk (F 0) j x) = v
  | 0, _, _, _, _, h => absurd h.symm hv
  | k + 1, m, x, hx, hm, h => by
    by_cases hxt : x = t
    · rw [fnx_e (.inr hxt)] at h
      exact absurd h.symm hv
    · rw [fnx_st (fun q => q.elim (fun z => z rfl) hxt)] at h
      cases m with
      | zero => exact absurd hm hxt
      | succ m =>
        have hm : upk (F 0) m (F 0 x) = t := hm
        have hp : 0 ≤ F 0 x := by
          have h1 := hO.p x
          refine Decidable.not_not.mp fun q => ?_
          rw [show F 0 x = -1 by omega, upk_e hO.par1] at hm
          omega
        by_cases hc : fch F (F 0 x) x = -1
        · rw [hc] at h
          obtain ⟨j, a, b, d⟩ := fnx_sp hO ht hv k m (F 0 x) hp hm h
          exact ⟨j + 1, a, b, d⟩
        · rw [fnx_e (.inl hc)] at h
          exact ⟨0, hx, hp, h⟩
/-- how one of the descendants is followed by the next: v is the first child of u, or u has none, and v is the next child behind one of those above -/
def dNx (F : fS) (u v : Int) (j : Nat) : Prop := (F 0 v = u ∧ j = 0 ∧ ∀ q, 0 ≤ q → q < v → F 0 q ≠ u) ∨ (csum (fun c => bi (F 0 c = u)) (F 6 0).toNat = 0 ∧ F 0 v ≠ u ∧ 0 ≤ upk (F 0) j u ∧ F 0 v = F 0 (upk (F 0) j u) ∧ 0 ≤ F 0 v ∧ upk (F 0) j u < v ∧ ∀ q, upk (F 0) j u < q → q < v → F 0 q ≠ F 0 v)
theorem dNx_of {B : Int} {F : fS} (hO : jOk B F) (hA : fAc F) {t u v : Int} (ht : 0 ≤ t) (hu : 0 ≤ u) {m : Nat} (hm : upk (F 0) m u = t) (hv : v ≠ -1) (h : fnb F t u = v) : ∃ j, dNx F u v j := by
  have hn := hO.n
  by_cases hc : fch F u (-1) = -1
  · have h : fnx F t 24 (fch F u (-1)) u = v := h
    rw [hc] at h
    obtain ⟨j, a, b, d⟩ := fnx_sp hO ht hv 24 m u hu hm h
    obtain ⟨e1, e2, e3, e4⟩ := fch_sp hO (t := F 0 (upk (F 0) j u)) (c := upk (F 0) j u) (by omega) (by rw [d]; exact hv)
    rw [d] at e1 e2 e3 e4
    refine ⟨j, .inr ⟨ch_0 hn.1 hc, fun e => ?_, a, e1, by rw [e1]; exact b, e2, fun q q0 q1 => by rw [e1]; exact e4 q q0 q1⟩⟩
    rw [e] at e1
    have e5 : upk (F 0) (j + 1) u = u := by rw [upk_s]; exact e1.symm
    have := upk_acy hO hA (Nat.succ_pos j) e5
    omega
  · have h : fnx F t 24 (fch F u (-1)) u = v := h
    rw [fnx_e (.inl hc)] at h
    obtain ⟨e1, e2, e3, e4⟩ := fch_sp hO (by omega) hc
    rw [h] at e1 e2 e3 e4
    exact ⟨0, .inl ⟨e1, rfl, fun q q0 q1 => e4 q (by omega) q1⟩⟩
theorem chn_last {g : Int → Int} {e : Int} : ∀ {l : List Int} {i : Nat} {u : Int}, chn g l e → l[i]? = some u → l.length = i + 1 → g u = e
  | [], _, _, _, h, _ => by simp at h
  | a :: r, 0, u, hc, h1, h2 => by
    have e1 : a = u := by simpa using h1
    have e2 : r = [] := List.eq_nil_of_length_eq_zero (by simpa using h2)
    subst e2
    rw [← e1]
    exact hc.1
  | a :: r, i + 1, u, hc, h1, h2 => chn_last (l := r) (i := i) hc.2 (by simpa using h1) (by simpa using h2)
theorem des_rg {F : fS} {p u : Int} {i : Nat} (h : (des F 24 p)[i]? = some u) : 0 ≤ u ∧ u < F 6 0 := by
  obtain ⟨_, _, _, a, b⟩ := des_up 24 p (List.mem_of_getElem? h)
  exact ⟨a, b⟩
/-- the last of the descendants has no children -/
theorem des_last {B : Int} {F : fS} (hO : jOk B F) (hA : fAc F) {t u : Int} (ht : 0 ≤ t ∧ t < F 6 0) {i : Nat} (h : (t :: des F 24 t)[i]? = some u) (hl : (des F 24 t).length = i) : csum (fun c => bi (F 0 c = u)) (F 6 0).toNat = 0 := by
  have e : fnb F t u = -1 := chn_last (des_link hO hA ht) h (by rw [List.length_cons, hl])
  refine ch_0 hO.n.1 (Decidable.not_not.mp fun q => ?_)
  have e : fnx F t 24 (fch F u (-1)) u = -1 := e
  rw [fnx_e (.inl q)] at e
  exact q e
theorem des_step {B : Int} {F : fS} (hO : jOk B F) (hA : fAc F) {t u v : Int} (ht : 0 ≤ t ∧ t < F 6 0) {i : Nat} (h1 : (t :: des F 24 t)[i]? = some u) (h2 : (des F 24 t)[i]? = some v) : (0 ≤ u ∧ u < F 6 0) ∧ (0 ≤ v ∧ v < F 6 0) ∧ 0 ≤ F 0 v ∧ ∃ j, dNx F u v j := by
  have hv := des_rg h2
  have hu : (0 ≤ u ∧ u < F 6 0) ∧ ∃ m, upk (F 0) m u = t := by
    cases i with
    | zero =>
      have e : t = u := by simpa using h1
      rw [← e]
      exact ⟨ht, 0, rfl⟩
    | succ i =>
      have e : (des F 24 t)[i]? = some u := by simpa using h1
      obtain ⟨j, _, a, b⟩ := des_up 24 t (List.mem_of_getElem? e)
      exact ⟨b, j, a⟩
  obtain ⟨hu, m, hm⟩ := hu
  obtain ⟨j9, j0, j1, -⟩ := des_up 24 t (List.mem_of_getElem? h2)
  refine ⟨hu, hv, ?_, dNx_of hO hA ht.1 hu.1 hm (by omega) (des_nx hO hA ht h1 h2)⟩
  have := hO.p v
  refine Decidable.not_not.mp fun q => ?_
  obtain ⟨j8, rfl⟩ : ∃ j8, j9 = j8 + 1 := ⟨j9 - 1, by omega⟩
  have j1 : upk (F 0) j8 (F 0 v) = t := j1
  rw [show F 0 v = -1 by omega, upk_e hO.par1] at j1
  omega
/-- steps up from u: which of them is, or lies under, what v is under -/
theorem up_ge {B : Int} {F : fS} (hO : jOk B F) {u : Int} : ∀ {i j : Nat}, i ≤ j → 0 ≤ upk (F 0) j u → 0 ≤ upk (F 0) i u ∨ upk (F 0) i u < -1 := fun {i j} hij h => by
  by_cases q : upk (F 0) i u = -1
  · rw [upk_stay hO.par1 q hij] at h; omega
  · omega
theorem up_inj {B : Int} {F : fS} (hO : jOk B F) (hA : fAc F) {u : Int} {i j : Nat} (hij : i < j) (h : upk (F 0) i u = upk (F 0) j u) : upk (F 0) i u = -1 := by
  obtain ⟨d, rfl⟩ : ∃ d, j = i + d := ⟨j - i, by omega⟩
  rw [upk_a] at h
  exact upk_acy hO hA (show 0 < d by omega) h.symm
theorem upk_dec {par : Int → Int} {q : Int} : ∀ {m : Nat}, upk par m q = -1 → q ≠ -1 → ∃ k, m = k + 1 ∧ upk par k (par q) = -1
  | 0, h, hq => absurd h hq
  | m + 1, h, _ => ⟨m, rfl, h⟩
-- coins' ranks
theorem rk_step {B : Int} {K : fS} (hO : jOk B K) {p q : Int} (hp : 0 ≤ p ∧ p < K 6 0) (hq : 0 ≤ q ∧ q < K 6 0) (h : krk K q = krk K p + 1) : K 2 p - K 2 q > 0 ∨ (K 2 p - K 2 q = 0 ∧ p < q) := by
  refine Decidable.not_not.mp fun z => ?_
  by_cases e : p = q
  · rw [e] at h; omega
  · have := krk_lt hO (p := q) (q := p) hq (by omega)
    omega
-- who lives first
def flv (K : fS) (l : List Int) : Int := (l.find? (fun x => decide (K 3 x ≠ 0))).getD (-1)
theorem flv_c {K : fS} {d : Int} {l : List Int} : flv K (d :: l) = if K 3 d ≠ 0 then d else flv K l := by
  unfold flv
  by_cases h : K 3 d ≠ 0
  · rw [if_pos h, List.find?_cons_of_pos (by simpa using h)]; rfl
  · rw [if_neg h, List.find?_cons_of_neg (by simpa using h)]
theorem flv_fhe {B : Int} {K : fS} (hO : jOk B K) {p : Int} : fhe K p = if flv K (des K 24 p) < 0 then (if K 1 p < 0 then fne K p else K 1 p) else flv K (des K 24 p) := by
  unfold flv
  cases hf : (des K 24 p).find? (fun x => decide (K 3 x ≠ 0)) with
  | some x =>
    obtain ⟨_, _, _, a, b⟩ := des_up 24 p (List.mem_of_find?_eq_some hf)
    rw [fhe_s hf]
    exact (if_neg (show ¬ x < 0 by omega)).symm
  | none =>
    rw [fhe_n hf]
    exact (if_pos (show (-1 : Int) < 0 by decide)).symm
theorem drop_c {l : List Int} {i : Nat} (h : i < l.length) : l.drop i = (l[i]?).getD 0 :: l.drop (i + 1) := by
  rw [List.drop_eq_getElem_cons h, List.getElem?_eq_getElem h]
  rfl
theorem des_gD {F : fS} {p : Int} {i : Nat} (h : i < (des F 24 p).length) : 0 ≤ ((des F 24 p)[i]?).getD 0 ∧ ((des F 24 p)[i]?).getD 0 < F 6 0 := by
  rw [List.getElem?_eq_getElem h]
  exact des_rg (i := i) (List.getElem?_eq_getElem h)
