/-! OBJECTS BY SCHEMA: a class' number, how many places, and its slots: (0, ..) a number, (1, place, kind, length) a row of its own, (2, place, ..) another object. -/
abbrev jSc : Type := Nat × Nat × List (Nat × Nat × Nat × Nat)
def jFv (k : Nat) (G : fS) (i : Nat) (s : Nat × Nat × Nat × Nat) : Value := match s.1 with
  | 0 => iv (G i 0)
  | 1 => .ref (k + s.2.1)
  | _ => .ref s.2.1
def jFls (k : Nat) (G : fS) : Nat → List (Nat × Nat × Nat × Nat) → List Value
  | _, [] => []
  | i, s :: t => jFv k G i s :: jFls k G (i + 1) t
def jOb (S : jSc) (k : Nat) (G : fS) (h : jH) : Prop :=
  h k = some (jO S.1 (jFls k G 0 S.2.2)) ∧ ∀ (i p t n : Nat), S.2.2[i]? = some (1, p, t, n) → h (k + p) = some (jA t n (G i))
def gs (G : fS) (i : Nat) (f : Int → Int) : fS := fun j => if j = i then f else G j
def gn (G : fS) (i : Nat) (x : Int) : fS := gs G i fun _ => x
theorem gs_s {G : fS} {i : Nat} {f : Int → Int} : gs G i f i = f := if_pos rfl
theorem gs_n {G : fS} {i j : Nat} {f : Int → Int} (hn : j ≠ i) : gs G i f j = G j := if_neg hn
/-- outside these places nothing has changed -/
def jEx (k n : Nat) (h h' : jH) : Prop := ∀ j : Nat, j < k ∨ k + n ≤ j → h' j = h j
theorem jEx.rf {k n : Nat} {h : jH} : jEx k n h h := fun _ _ => rfl
theorem jEx.tr {k n : Nat} {h h1 h2 : jH} (a : jEx k n h h1) (b : jEx k n h1 h2) : jEx k n h h2 := fun j hj => (b j hj).trans (a j hj)
theorem jEx.mo {k n k' n' : Nat} {h h1 : jH} (a : jEx k n h h1) (hk : k' ≤ k ∧ k + n ≤ k' + n') : jEx k' n' h h1 := fun j hj => a j (by omega)
/-- a schema in order: places apart, within its number -/
def jSok (S : jSc) : Prop := (∀ i p t n : Nat, S.2.2[i]? = some (1, p, t, n) → 1 ≤ p ∧ p < S.2.1) ∧ (∀ i j p t n t' n' : Nat, S.2.2[i]? = some (1, p, t, n) → S.2.2[j]? = some (1, p, t', n') → i = j) ∧ 1 ≤ S.2.1
theorem jOb.ex {S : jSc} {k a n : Nat} {G : fS} {h h' : jH} (hG : jOb S k G h) (hs : jSok S) (he : jEx a n h h') (hd : k + S.2.1 ≤ a ∨ a + n ≤ k) : jOb S k G h' := by
  have h1 := hs.2.2
  refine ⟨(he k (by omega)).trans hG.1, fun i p t n' hi => (he (k + p) ?_).trans (hG.2 i p t n' hi)⟩
  have := hs.1 i p t n' hi
  omega
theorem jOb.a {S : jSc} {k : Nat} {G : fS} {h : jH} (hG : jOb S k G h) (i p t n : Nat) (hi : S.2.2[i]? = some (1, p, t, n)) : h (k + p) = some (jA t n (G i)) := hG.2 i p t n hi
theorem jFls_gs {k : Nat} {G : fS} {f : Int → Int} {i : Nat} : ∀ (l : List (Nat × Nat × Nat × Nat)) (j : Nat), (∀ m s, l[m]? = some s → j + m = i → s.1 ≠ 0) → jFls k (gs G i f) j l = jFls k G j l
  | [], _, _ => rfl
  | s :: t, j, hh => by
    have e1 : jFv k (gs G i f) j s = jFv k G j s := by
      by_cases hj : j = i
      · have h0 := hh 0 s rfl hj
        unfold jFv
        split
        · rename_i h9; exact absurd h9 h0
        · rfl
        · rfl
      · unfold jFv
        rw [gs_n hj]
    show jFv k (gs G i f) j s :: jFls k (gs G i f) (j + 1) t = _
    rw [e1, jFls_gs t (j + 1) (fun m s' hm e => hh (m + 1) s' (by simpa using hm) (by omega))]
    rfl
theorem jFls_len {k : Nat} {G : fS} : ∀ (l : List (Nat × Nat × Nat × Nat)) (j : Nat), (jFls k G j l).length = l.length
  | [], _ => rfl
  | s :: t, j => congrArg (· + 1) (jFls_len t (j + 1))
theorem jFls_set {k : Nat} {G : fS} {x : Int} {i : Nat} {q : Nat × Nat × Nat} : ∀ (l : List (Nat × Nat × Nat × Nat)) (j m : Nat), l[m]? = some (0, q) → j + m = i → (jFls k G j l).set m (iv x) = jFls k (gn G i x) j l
  | [], _, m, hm, _ => by simp at hm
  | s :: t, j, 0, hm, hi => by
    have hs : s = (0, q) := by simpa using hm
    subst hs
    have hj : j = i := by omega
    subst hj
    show iv x :: jFls k G (j + 1) t = jFv k (gn G j x) j (0, q) :: jFls k (gn G j x) (j + 1) t
    have e1 : jFv k (gn G j x) j (0, q) = iv x := by
      show iv (gs G j (fun _ => x) j 0) = iv x
      rw [gs_s]
    rw [e1]
    unfold gn
    rw [jFls_gs t (j + 1) (fun m s' _ e => by omega)]
  | s :: t, j, m + 1, hm, hi => by
    have ih := jFls_set (k := k) (G := G) (x := x) (i := i) (q := q) t (j + 1) m (by simpa using hm) (by omega)
    show jFv k G j s :: (jFls k G (j + 1) t).set m (iv x) = jFv k (gn G i x) j s :: jFls k (gn G i x) (j + 1) t
    rw [ih]
    have e1 : jFv k (gn G i x) j s = jFv k G j s := by
      unfold jFv gn
      rw [gs_n (by omega)]
    rw [e1]
theorem jOb.put {S : jSc} {k i : Nat} {G : fS} {h : jH} {x : Int} {q : Nat × Nat × Nat} (hG : jOb S k G h) (hs : jSok S) (hi : S.2.2[i]? = some (0, q)) : jOb S k (gn G i x) (jup h k (jO S.1 ((jFls k G 0 S.2.2).set i (iv x)))) := by
  refine ⟨by rw [jup_s, jFls_set (i := i) S.2.2 0 i hi (by omega)], fun j p t n hj => ?_⟩
  have := hs.1 j p t n hj
  have hji : j ≠ i := fun e => by rw [e, hi] at hj; cases hj
  rw [jup_n (by omega) (hG.2 j p t n hj)]
  show some (jA t n (G j)) = some (jA t n (gs G i (fun _ => x) j))
  rw [gs_n hji]
theorem jOb.arr {S : jSc} {k i p t n : Nat} {G : fS} {h : jH} {f : Int → Int} (hG : jOb S k G h) (hs : jSok S) (hi : S.2.2[i]? = some (1, p, t, n)) : jOb S k (gs G i f) (jup h (k + p) (jA t n f)) := by
  have hp := hs.1 i p t n hi
  refine ⟨?_, fun j p' t' n' hj => ?_⟩
  · rw [jup_n (by omega) hG.1, jFls_gs S.2.2 0 fun m s hm e => ?_]
    have : m = i := by omega
    rw [this, hi] at hm
    cases hm
    exact Nat.one_ne_zero
  · by_cases hji : j = i
    · subst hji
      rw [hi] at hj
      cases hj
      rw [jup_s, gs_s]
    · have : p' ≠ p := fun e => hji (by subst e; exact hs.2.1 j i p' t' n' t n hj hi)
      rw [jup_n (by omega) (hG.2 j p' t' n' hj), gs_n hji]
theorem jEx_up {k n p : Nat} {h : jH} {c : jC} (hp : k ≤ p ∧ p < k + n) : jEx k n h (jup h p c) := fun j hj => jup_n (by omega) rfl
section JO1
variable {M : jMe} {R : Room} {nw : List Nat} {Z : jFin} {pc pc' : Nat} {L L' : List (Nat × Value)} {st st' : List Value} {h h' : jH} {nc ns nc' ns' mc ms : Nat}
variable {S : jSc} {k : Nat} {G : fS}
theorem jo_put {idx i : Nat} {x : Int} {ty : FieldType} {q : Nat × Nat × Nat} (hd : decode M.2.1 pc = .ok (.putfield idx, 3)) (hF : jF M.1.cls idx S.1 i) (hT : ∀ q : vw_C, jcl[S.1]? = some q → (q.2.1 i).2.2.2 = false ∧ parseFieldDescriptor (q.2.1 i).2.2.1 = some ty) (hv : jHold ty (iv x)) (hs : jSok S) (hG : jOb S k G h) (hi : S.2.2[i]? = some (0, q))
    (kk : ∀ h2, jOb S k (gn G i x) h2 → jEx k S.2.1 h h2 → J M R nw Z (pc + 3) L st h2 nc ns) : J M R nw Z pc L (iv x :: .ref k :: st) h nc ns :=
  j_putI hd hF hT hv hG.1 (by rw [jFls_len]; exact (List.getElem?_eq_some_iff.mp hi).1) rfl (kk _ (hG.put hs hi) (jEx_up (by have := hs.2.2; omega)))
theorem jo_ias {i p n : Nat} {x v : Int} (hd : decode M.2.1 pc = .ok (.iastore, 1)) (hs : jSok S) (hG : jOb S k G h) (hi : S.2.2[i]? = some (1, p, 0, n)) (hx : 0 ≤ x ∧ x < n) (hn : n ≤ 2147483647)
    (kk : ∀ h2, jOb S k (gs G i (jfu (G i) x v)) h2 → jEx k S.2.1 h h2 → J M R nw Z (pc + 1) L st h2 nc ns) : J M R nw Z pc L (iv v :: iv x :: .ref (k + p) :: st) h nc ns :=
  j_iastore hd (hG.a i p 0 n hi) hx hn (kk _ (hG.arr hs hi) (jEx_up (by have := hs.1 i p 0 n hi; omega)))
theorem jo_zas {i p n : Nat} {x v : Int} (hd : decode M.2.1 pc = .ok (.bastore, 1)) (hs : jSok S) (hG : jOb S k G h) (hi : S.2.2[i]? = some (1, p, 1, n)) (hx : 0 ≤ x ∧ x < n) (hv : v = 0 ∨ v = 1) (hn : n ≤ 2147483647)
    (kk : ∀ h2, jOb S k (gs G i (jfu (G i) x v)) h2 → jEx k S.2.1 h h2 → J M R nw Z (pc + 1) L st h2 nc ns) : J M R nw Z pc L (iv v :: iv x :: .ref (k + p) :: st) h nc ns :=
  j_zastore hd (hG.a i p 1 n hi) hx hv hn (kk _ (hG.arr hs hi) (jEx_up (by have := hs.1 i p 1 n hi; omega)))
theorem jo_cas {i p n : Nat} {x v : Int} (hd : decode M.2.1 pc = .ok (.castore, 1)) (hs : jSok S) (hG : jOb S k G h) (hi : S.2.2[i]? = some (1, p, 2, n)) (hx : 0 ≤ x ∧ x < n) (hv : 0 ≤ v ∧ v < 65536) (hn : n ≤ 2147483647)
    (kk : ∀ h2, jOb S k (gs G i (jfu (G i) x v)) h2 → jEx k S.2.1 h h2 → J M R nw Z (pc + 1) L st h2 nc ns) : J M R nw Z pc L (iv v :: iv x :: .ref (k + p) :: st) h nc ns :=
  j_castore hd (hG.a i p 2 n hi) hx hv hn (kk _ (hG.arr hs hi) (jEx_up (by have := hs.1 i p 2 n hi; omega)))
/-- a copy into a row of this object, out of any row -/
theorem jo_cpy {i p t n a0 n0 idx : Nat} {f : Int → Int} {sp dp c : Int} (ht : t < 4) (hd : decode M.2.1 pc = .ok (.invokestatic idx, 3)) (hlk : Cond.methodLink M.1.cls idx arraycopyName ∈ jWL) (hnv : Cond.native arraycopyName ∈ jWL) (hsv : Cond.static arraycopyName ∈ jWL) (hiv : Cond.initialized "java/lang/System" ∈ jWL) (hs : jSok S) (hG : jOb S k G h) (hi : S.2.2[i]? = some (1, p, t, n)) (h0 : h a0 = some (jA t n0 f))
    (hr : 0 ≤ sp ∧ 0 ≤ dp ∧ 0 ≤ c ∧ sp + c ≤ n0 ∧ dp + c ≤ n ∧ (n0 : Int) ≤ 1000000 ∧ (n : Int) ≤ 1000000) (hfit : ∀ x : Int, fits (jty t) (iv (f x)) = true) (hR : 1 ≤ R.frames ∧ 64 ≤ R.locals) (hcat : (st.map fun v => v.category).sum ≤ 8)
    (kk : ∀ h2, jOb S k (gs G i (jcpy f (G i) sp dp c)) h2 → jEx k S.2.1 h h2 → J M R nw Z (pc + 3) L st h2 nc ns) : J M R nw Z pc L (iv c :: iv dp :: .ref (k + p) :: iv sp :: .ref a0 :: st) h nc ns :=
  j_copyT ht hd hlk hnv hsv hiv h0 (hG.a i p t n hi) hr hfit hR hcat (kk _ (hG.arr hs hi) (jEx_up (by have := hs.1 i p t n hi; omega)))
/-- another picture of a row of this object -/
theorem jo_re {i p t n : Nat} {g : Int → Int} (hs : jSok S) (hG : jOb S k G h) (hi : S.2.2[i]? = some (1, p, t, n)) (hfg : ∀ j : Int, 0 ≤ j → j < n → G i j = g j)
    (kk : ∀ h2, jOb S k (gs G i g) h2 → jEx k S.2.1 h h2 → J M R nw Z pc L st h2 nc ns) : J M R nw Z pc L st h nc ns :=
  J.re (hG.a i p t n hi) hfg (kk _ (hG.arr hs hi) (jEx_up (by have := hs.1 i p t n hi; omega)))
end JO1
-- what methods end with
/-- answers the first, leaves the object as the second says -/
def jWi (S : jSc) (k : Nat) (q : Int × fS) (h : jH) : jPn := fun r h' => r = some (iv q.1) ∧ jOb S k q.2 h' ∧ jEx k S.2.1 h h'
def jWv (S : jSc) (k : Nat) (G : fS) (h : jH) : jPn := fun r h' => r = none ∧ jOb S k G h' ∧ jEx k S.2.1 h h'
theorem jWi.i {S : jSc} {k : Nat} {q : Int × fS} {h h' : jH} {r : Int} {G : fS} (e : q = (r, G)) (hG : jOb S k G h') (hE : jEx k S.2.1 h h') : jWi S k q h (some (iv r)) h' := by
  subst e
  exact ⟨rfl, hG, hE⟩
theorem jWv.i {S : jSc} {k : Nat} {h h' : jH} {G G' : fS} (e : G = G') (hG : jOb S k G' h') (hE : jEx k S.2.1 h h') : jWv S k G h none h' := by
  subst e
  exact ⟨rfl, hG, hE⟩
theorem jRet.i {r x : Int} {h : jH} (e : r = x) : jRet (iv r) h (some (iv x)) h := ⟨by rw [e], rfl⟩
-- the schemas: families, elders, houses, input, the reference
abbrev sF : jSc := (1, 7, [(1, 1, 0, 24), (1, 2, 0, 24), (1, 3, 0, 24), (1, 4, 1, 24), (1, 5, 0, 20), (1, 6, 0, 20), (0, 0, 0, 0), (0, 0, 0, 0), (0, 0, 0, 0), (0, 0, 0, 0), (0, 0, 0, 0)])
abbrev sE : jSc := (0, 3, [(1, 1, 0, 120), (1, 2, 0, 24)])
abbrev sH : jSc := (2, 3, [(1, 1, 0, 24), (1, 2, 0, 24)])
abbrev sI : jSc := (3, 5, [(1, 1, 2, 60), (1, 2, 0, 30), (1, 3, 0, 30), (1, 4, 0, 30), (0, 0, 0, 0), (0, 0, 0, 0), (0, 0, 0, 0)])
/-- the same by counting -/
def jSokB (S : jSc) : Bool := ((List.range S.2.2.length).all fun i => match S.2.2[i]? with
  | some (1, p, _, _) => Nat.ble 1 p && Nat.blt p S.2.1 && ((List.range S.2.2.length).all fun j => match S.2.2[j]? with
    | some (1, p', _, _) => !(p == p') || (i == j)
    | _ => true)
  | _ => true) && Nat.ble 1 S.2.1
theorem jSok.of {S : jSc} (hb : jSokB S = true) : jSok S := by
  unfold jSokB at hb
  obtain ⟨h1, h2⟩ := Bool.and_eq_true_iff.mp hb
  rw [List.all_eq_true] at h1
  have key : ∀ i p t n : Nat, S.2.2[i]? = some (1, p, t, n) → (1 ≤ p ∧ p < S.2.1) ∧ ∀ j t' n' : Nat, S.2.2[j]? = some (1, p, t', n') → i = j := by
    intro i p t n hi
    have q := h1 i (List.mem_range.mpr (List.getElem?_eq_some_iff.mp hi).1)
    rw [hi] at q
    obtain ⟨q1, q2⟩ := Bool.and_eq_true_iff.mp q
    obtain ⟨q3, q4⟩ := Bool.and_eq_true_iff.mp q1
    refine ⟨⟨Nat.le_of_ble_eq_true q3, by have q8 : p + 1 ≤ S.2.1 := (by simpa [Nat.blt] using q4); omega⟩, fun j t' n' hj => ?_⟩
    rw [List.all_eq_true] at q2
    have q5 := q2 j (List.mem_range.mpr (List.getElem?_eq_some_iff.mp hj).1)
    rw [hj] at q5
    simpa using q5
  exact ⟨fun i p t n hi => (key i p t n hi).1, fun i j p t n t' n' hi hj => (key i p t n hi).2 j t' n' hj, Nat.le_of_ble_eq_true h2⟩
theorem okF : jSok sF := .of (by decide +kernel)
theorem okE : jSok sE := .of (by decide +kernel)
theorem okH : jSok sH := .of (by decide +kernel)
theorem okI : jSok sI := .of (by decide +kernel)
theorem jOb.fam {k : Nat} {F : fS} {h : jH} (hF : jOb sF k F h) : jFam k F h := ⟨hF.1, hF.a 0 1 0 24 rfl, hF.a 1 2 0 24 rfl, hF.a 2 3 0 24 rfl, hF.a 3 4 1 24 rfl, hF.a 4 5 0 20 rfl, hF.a 5 6 0 20 rfl⟩
