/-! DESCENDANTS told step by step, and as a list -/
/-- each of the list is followed by the next, the last by e -/
def chn (g : Int → Int) : List Int → Int → Prop
  | [], _ => True
  | u :: r, e => g u = r.headD e ∧ chn g r e
theorem chn_app {g : Int → Int} {e : Int} : ∀ {l1 l2 : List Int}, chn g l1 (l2.headD e) → chn g l2 e → chn g (l1 ++ l2) e
  | [], _, _, h => h
  | _ :: [], _, h1, h2 => ⟨h1.1, h2⟩
  | _ :: v :: r, _, h1, h2 => ⟨h1.1, chn_app (l1 := v :: r) h1.2 h2⟩
theorem chn_at {g : Int → Int} {e : Int} : ∀ {l : List Int} {i : Nat} {u v : Int}, chn g l e → l[i]? = some u → l[i + 1]? = some v → g u = v
  | [], _, _, _, _, h, _ => by simp at h
  | a :: r, 0, u, v, hc, h1, h2 => by
    have e1 : a = u := by simpa using h1
    cases r with
    | nil => simp at h2
    | cons b r =>
      have e2 : b = v := by simpa using h2
      rw [← e1, ← e2]
      exact hc.1
  | a :: r, i + 1, u, v, hc, h1, h2 => chn_at (l := r) (i := i) hc.2 (by simpa using h1) (by simpa using h2)
theorem dsl_chn {F : fS} {g : Int → Int} {D : Int → List Int} {p e : Int} : ∀ (m : Nat) (c : Int), 0 ≤ c → c + m = F 6 0 → (∀ i, c ≤ i → i < F 6 0 → F 0 i = p → chn g (i :: D i) (if fch F p i ≠ -1 then fch F p i else e)) →
    (dsl F D p m c).headD e = (if nfst (fun x => decide (F 0 x = p)) m c ≠ -1 then nfst (fun x => decide (F 0 x = p)) m c else e) ∧ chn g (dsl F D p m c) e
  | 0, _, _, _, _ => ⟨(if_neg (fun q => q rfl)).symm, trivial⟩
  | m + 1, c, h0, h1, hD => by
    have ih := dsl_chn (e := e) m (c + 1) (by omega) (by omega) fun i a b d => hD i (by omega) b d
    have ef : fch F p c = nfst (fun x => decide (F 0 x = p)) m (c + 1) := by unfold fch; rw [show (F 6 0 - (c + 1)).toNat = m by omega]
    rw [← ef] at ih
    show ((if F 0 c = p then c :: D c else []) ++ dsl F D p m (c + 1)).headD e = _ ∧ chn g ((if F 0 c = p then c :: D c else []) ++ dsl F D p m (c + 1)) e
    by_cases hc : F 0 c = p
    · rw [if_pos hc, nfst_t (q := fun x => decide (F 0 x = p)) (k := m) (c := c) (decide_eq_true hc), if_pos (by omega)]
      refine ⟨rfl, chn_app ?_ ih.2⟩
      rw [ih.1]
      exact hD c (Int.le_refl _) (by omega) hc
    · rw [if_neg hc, nfst_f (q := fun x => decide (F 0 x = p)) (k := m) (c := c) (decide_eq_false hc), ← ef]
      exact ih
theorem fnx_j {F : fS} {t : Int} : ∀ (j : Nat) (x nx : Int) (k k' : Nat), upk (F 0) j x = t → j ≤ k → j ≤ k' → fnx F t k nx x = fnx F t k' nx x
  | 0, x, nx, k, k', h, _, _ => by
    have h9 : x = t := h
    rw [fnx_e (.inr h9), fnx_e (.inr h9)]
  | j + 1, x, nx, k, k', h, h1, h2 => by
    by_cases q : nx ≠ -1 ∨ x = t
    · rw [fnx_e q, fnx_e q]
    · obtain ⟨a, rfl⟩ : ∃ a, k = a + 1 := ⟨k - 1, by omega⟩
      obtain ⟨b, rfl⟩ : ∃ b, k' = b + 1 := ⟨k' - 1, by omega⟩
      rw [fnx_st q, fnx_st q]
      exact fnx_j j (F 0 x) _ a b h (by omega) (by omega)
/-- who comes behind all that are under x -/
def aft (F : fS) (t x : Int) : Int := if x = t then -1 else fnx F t 24 (fch F (F 0 x) x) (F 0 x)
theorem aft_up {B : Int} {F : fS} (hO : jOk B F) (hA : fAc F) {t x : Int} (ht : 0 ≤ t) {j : Nat} (hj : upk (F 0) j x = t) : fnx F t 24 (-1) x = aft F t x := by
  unfold aft
  by_cases h : x = t
  · rw [if_pos h, fnx_e (.inr h)]
  · rw [if_neg h, fnx_st (k := 23) (fun q => q.elim (fun z => z rfl) h)]
    have h24 : j < 24 := by
      refine Decidable.not_not.mp fun q => ?_
      rw [upk_stay hO.par1 (hA x) (show 24 ≤ j by omega)] at hj
      omega
    cases j with
    | zero => exact absurd hj h
    | succ j => exact fnx_j j (F 0 x) _ 23 24 hj (by omega) (by omega)
theorem des_chn {B : Int} {F : fS} (hO : jOk B F) (hA : fAc F) {t : Int} (ht : 0 ≤ t) : ∀ (n : Nat) (x : Int) (j : Nat), 0 ≤ x → x < F 6 0 → (∀ y, upk (F 0) n y ≠ x) → upk (F 0) j x = t → chn (fnb F t) (x :: des F n x) (aft F t x)
  | 0, x, _, _, _, h, _ => absurd rfl (h x)
  | n + 1, x, j, h0, h1, h, hj => by
    have hn := hO.n
    have key := dsl_chn (F := F) (g := fnb F t) (D := des F n) (p := x) (e := aft F t x) (F 6 0).toNat 0 (Int.le_refl _) (by omega) fun i i0 i1 i2 => by
      have ih := des_chn hO hA ht n i (j + 1) i0 i1 (fun y hy => h y (by rw [upk_s, hy]; exact i2)) (by show upk (F 0) j (F 0 i) = t; rw [i2]; exact hj)
      have hit : i ≠ t := fun q => by
        have e9 : upk (F 0) (j + 1) i = i := by show upk (F 0) j (F 0 i) = i; rw [i2, hj, q]
        have := upk_acy hO hA (Nat.succ_pos j) e9
        omega
      have e8 : aft F t i = if fch F x i ≠ -1 then fch F x i else aft F t x := by
        show (if i = t then -1 else fnx F t 24 (fch F (F 0 i) i) (F 0 i)) = _
        rw [if_neg hit, i2]
        by_cases hc : fch F x i = -1
        · rw [if_neg (fun q => q hc), hc]
          exact aft_up hO hA ht hj
        · rw [if_pos hc, fnx_e (.inl hc)]
      rw [e8] at ih
      exact ih
    have ef : fch F x (-1) = nfst (fun z => decide (F 0 z = x)) (F 6 0).toNat 0 := by
      unfold fch
      rw [show (F 6 0 - (-1 + 1)).toNat = (F 6 0).toNat by omega]
      rfl
    rw [← ef] at key
    refine ⟨?_, key.2⟩
    show fnx F t 24 (fch F x (-1)) x = (dsl F (des F n) x (F 6 0).toNat 0).headD (aft F t x)
    rw [key.1]
    by_cases hc : fch F x (-1) = -1
    · rw [if_neg (fun q => q hc), hc]
      exact aft_up hO hA ht hj
    · rw [if_pos hc, fnx_e (.inl hc)]
theorem des_link {B : Int} {F : fS} (hO : jOk B F) (hA : fAc F) {t : Int} (ht : 0 ≤ t ∧ t < F 6 0) : chn (fnb F t) (t :: des F 24 t) (-1) := by
  have h := des_chn hO hA ht.1 24 t 0 ht.1 ht.2 (fun y => by have := hA y; omega) rfl
  have e : aft F t t = -1 := if_pos rfl
  rw [e] at h
  exact h
theorem chn_cnt {F : fS} {t : Int} : ∀ (l : List Int) (k : Nat), (∀ x ∈ l, x ≠ -1) → chn (fnb F t) l (-1) → l.length ≤ k → fdc F t k (l.headD (-1)) = l.length
  | [], k, _, _, _ => fdc_e F t k
  | u :: r, 0, _, _, h => absurd h (by simp)
  | u :: r, k + 1, hl, hc, h => by
    have ih := chn_cnt r k (fun x hx => hl x (List.mem_cons_of_mem _ hx)) hc.2 (by simpa using h)
    show fdc F t (k + 1) u = ((r.length + 1 : Nat) : Int)
    rw [fdc_st (hl u List.mem_cons_self), hc.1, ih]
    omega
theorem chn_fnl {F : fS} {t : Int} : ∀ (l : List Int) (k : Nat), (∀ x ∈ l, x ≠ -1) → chn (fnb F t) l (-1) → l.length ≤ k → fnl F t k (l.headD (-1)) = (l.find? (fun x => decide (F 3 x ≠ 0))).getD (-1)
  | [], k, _, _, _ => fnl_e (.inl rfl) k
  | u :: r, 0, _, _, h => absurd h (by simp)
  | u :: r, k + 1, hl, hc, h => by
    show fnl F t (k + 1) u = _
    by_cases h3 : F 3 u ≠ 0
    · rw [fnl_e (.inr h3), List.find?_cons_of_pos (by simpa using h3)]
      rfl
    · have hu := hl u List.mem_cons_self
      rw [fnl_st (fun q => q.elim hu h3), hc.1, chn_fnl r k (fun x hx => hl x (List.mem_cons_of_mem _ hx)) hc.2 (by simpa using h), List.find?_cons_of_neg (by simpa using h3)]
theorem des_ne {F : fS} {k : Nat} {p : Int} : ∀ x ∈ des F k p, x ≠ -1 := fun x hx => by
  obtain ⟨_, _, _, a, b⟩ := des_up k p hx
  omega
theorem fde_e {B : Int} {F : fS} (hO : jOk B F) (hA : fAc F) {t : Int} (ht : 0 ≤ t ∧ t < F 6 0) : fde F t = ((des F 24 t).length : Int) := by
  have h := des_link hO hA ht
  unfold fde
  rw [h.1]
  exact chn_cnt _ _ des_ne h.2 (des_len hO hA 24 (by omega))
theorem fhr_e {B : Int} {F : fS} (hO : jOk B F) (hA : fAc F) {t : Int} (ht : 0 ≤ t ∧ t < F 6 0) : fhr F t = fhe F t := by
  have h := des_link hO hA ht
  have e := chn_fnl _ 24 des_ne h.2 (des_len hO hA 24 (by omega))
  have hs := hO.s t
  unfold fhr
  rw [h.1, e]
  cases hf : (des F 24 t).find? (fun x => decide (F 3 x ≠ 0)) with
  | some x =>
    have hx : x ≠ -1 := des_ne x (List.mem_of_find?_eq_some hf)
    rw [fhe_s hf]
    exact if_pos hx
  | none =>
    rw [fhe_n hf]
    show (if (-1 : Int) ≠ -1 then _ else _) = _
    rw [if_neg (fun q => q rfl)]
    by_cases h1 : F 1 t = -1
    · rw [if_neg (fun q => q h1), if_pos (by omega)]
    · rw [if_pos h1, if_neg (by omega)]
/-- the next in the list is the next by steps -/
theorem des_nx {B : Int} {F : fS} (hO : jOk B F) (hA : fAc F) {t : Int} (ht : 0 ≤ t ∧ t < F 6 0) {i : Nat} {u v : Int} (h1 : (t :: des F 24 t)[i]? = some u) (h2 : (des F 24 t)[i]? = some v) : fnb F t u = v :=
  chn_at (des_link hO hA ht) h1 (by simpa using h2)
