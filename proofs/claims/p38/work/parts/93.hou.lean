/-! THE LAW'S HOUSES: a flood -/
def adj (K : fS) (q x : Int) : Prop := K 0 q = x ∨ K 0 x = q ∨ K 1 x = q
noncomputable def ngs (K : fS) (H : Int → Int) : Int := csum (fun z => bi (H z < 0)) (K 6 0).toNat
/-- before house p is told -/
def hOu (K : fS) (p : Int) (H : Int → Int) : Prop := ∀ x, 0 ≤ x → x < K 6 0 → (fho K x < p ∧ H x = fho K x) ∨ (p ≤ fho K x ∧ H x = -1)
/-- amid house p: m on the stack S, a is at hand -/
def hFl (K : fS) (p : Int) (H S : Int → Int) (m a : Int) : Prop :=
  (∀ x, 0 ≤ x → x < K 6 0 → (fho K x < p ∧ H x = fho K x) ∨ (p ≤ fho K x ∧ H x = -1) ∨ (fho K x = p ∧ H x = p)) ∧
  (∀ i, 0 ≤ i → i < m → (0 ≤ S i ∧ S i < K 6 0) ∧ H (S i) = p) ∧
  (∀ x, 0 ≤ x → x < K 6 0 → H x = p → x = a ∨ (∃ i, (0 ≤ i ∧ i < m) ∧ S i = x) ∨ ∀ q, 0 ≤ q → q < K 6 0 → adj K q x → H q = p) ∧
  (H p = p ∨ fho K p < p) ∧ 0 ≤ m
theorem ngs_u {K : fS} {H : Int → Int} {q p : Int} (hq : 0 ≤ q ∧ q < K 6 0) (h : H q < 0) (hp : 0 ≤ p) : ngs K (jfu H q p) = ngs K H - 1 := by
  have e : (fun z => bi (jfu H q p z < 0)) = jfu (fun z => bi (H z < 0)) q 0 := funext fun z => by
    by_cases h1 : z = q
    · rw [h1, jfu_s, jfu_s]; exact bi_f (by omega)
    · rw [jfu_n h1, jfu_n h1]
  unfold ngs
  rw [e, csum_u hq.1 _ (by omega), bi_t h]
  omega
theorem ngs_rg {K : fS} {H : Int → Int} (hn : 0 ≤ K 6 0) : 0 ≤ ngs K H ∧ ngs K H ≤ K 6 0 := by
  have := csum_bi (P := fun z => H z < 0) (K 6 0).toNat
  unfold ngs
  omega
theorem ngs_all {K : fS} {H : Int → Int} (hn : 0 ≤ K 6 0) (h : ∀ x, 0 ≤ x → x < K 6 0 → H x = -1) : ngs K H = K 6 0 := by
  have e : ∀ k : Nat, (k : Int) ≤ K 6 0 → csum (fun z => bi (H z < 0)) k = k := by
    intro k
    induction k with
    | zero => intro _; rfl
    | succ k ih =>
      intro hk
      show csum (fun z => bi (H z < 0)) k + bi (H (k : Int) < 0) = _
      rw [ih (by omega), h k (by omega) (by omega), bi_t (by decide)]
      omega
  unfold ngs
  rw [e _ (by omega)]
  omega
theorem hOu.z {B : Int} {K : fS} (hO : jOk B K) {H : Int → Int} (h : ∀ x, 0 ≤ x → x < K 6 0 → H x = -1) : hOu K 0 H := fun x a b => .inr ⟨(fho_rg hO ⟨a, b⟩).1, h x a b⟩
theorem fho_idem {B : Int} {K : fS} (hO : jOk B K) {x : Int} (hx : 0 ≤ x ∧ x < K 6 0) : fho K (fho K x) = fho K x := by
  have r := fho_rg hO hx
  have c := (fho_is hO hx).1
  exact fho_cn hO hx c
theorem hOu.t {B : Int} {K : fS} (hO : jOk B K) {p : Int} {H S : Int → Int} (h : hOu K p H) (hp : 0 ≤ p ∧ p < K 6 0) (h0 : 0 ≤ H p) : hFl K p H S 0 (-1) := by
  refine ⟨fun x a b => (h x a b).imp id .inl, fun i a b => by omega, fun x a b e => ?_, .inr ?_, by decide⟩
  · exfalso
    rcases h x a b with ⟨u, v⟩ | ⟨u, v⟩ <;> omega
  · rcases h p hp.1 hp.2 with ⟨u, v⟩ | ⟨u, v⟩ <;> omega
theorem hOu.f {B : Int} {K : fS} (hO : jOk B K) {p : Int} {H S : Int → Int} (h : hOu K p H) (hp : 0 ≤ p ∧ p < K 6 0) (h0 : H p < 0) : hFl K p (jfu H p p) (jfu S 0 p) 1 (-1) := by
  have r := fho_rg hO hp
  have e : fho K p = p := by rcases h p hp.1 hp.2 with ⟨u, v⟩ | ⟨u, v⟩ <;> omega
  refine ⟨fun x a b => ?_, fun i a b => ?_, fun x a b e2 => .inr (.inl ⟨0, ⟨by omega, by omega⟩, ?_⟩), .inl jfu_s, by decide⟩
  · by_cases hx : x = p
    · subst hx; exact .inr (.inr ⟨e, jfu_s⟩)
    · rw [jfu_n hx]; exact (h x a b).imp id .inl
  · rw [show i = 0 by omega, jfu_s]; exact ⟨hp, jfu_s⟩
  · rw [jfu_s]
    refine (Decidable.not_not.mp fun hx => ?_ : p = x)
    rw [jfu_n fun z => hx z.symm] at e2
    rcases h x a b with ⟨u, v⟩ | ⟨u, v⟩ <;> omega
theorem hFl.pop {K : fS} {p : Int} {H S : Int → Int} {m : Int} (h : hFl K p H S m (-1)) (hm : 0 < m) : hFl K p H S (m - 1) (S (m - 1)) := by
  obtain ⟨h1, h2, h3, h4, h5⟩ := h
  refine ⟨h1, fun i a b => h2 i a (by omega), fun x a b e => ?_, h4, by omega⟩
  rcases h3 x a b e with q | ⟨i, q1, q2⟩ | q
  · omega
  · by_cases hi : i = m - 1
    · exact .inl (by rw [← q2, hi])
    · exact .inr (.inl ⟨i, by omega, q2⟩)
  · exact .inr (.inr q)
theorem hFl.next {K : fS} {p : Int} {H S : Int → Int} {m a : Int} (h : hFl K p H S m a) (hc : ∀ q, 0 ≤ q → q < K 6 0 → adj K q a → H q = p) : hFl K p H S m (-1) := by
  obtain ⟨h1, h2, h3, h4, h5⟩ := h
  refine ⟨h1, h2, fun x a2 b e => ?_, h4, h5⟩
  rcases h3 x a2 b e with q | q | q
  · subst q; exact .inr (.inr hc)
  · exact .inr (.inl q)
  · exact .inr (.inr q)
theorem adj_con {K : fS} {q x : Int} (hq : 0 ≤ q ∧ q < K 6 0) (hx : 0 ≤ x ∧ x < K 6 0) (h : adj K q x) : con K x q := by
  rcases h with h | h | h
  · exact (con.ed hq.1 hq.2 hx.1 (.inl h)).sy
  · exact con.ed hx.1 hx.2 hq.1 (.inl h)
  · exact con.ed hx.1 hx.2 hq.1 (.inr h)
theorem hFl.push {B : Int} {K : fS} (hO : jOk B K) (hS : kSy K) {p : Int} {H S : Int → Int} {m a q : Int} (h : hFl K p H S m a) (ha : 0 ≤ a ∧ a < K 6 0) (hHa : H a = p) (hp : 0 ≤ p ∧ p < K 6 0) (hq : 0 ≤ q ∧ q < K 6 0) (hn : H q < 0) (hj : adj K q a) : hFl K p (jfu H q p) (jfu S m q) (m + 1) a := by
  obtain ⟨h1, h2, h3, h4, h5⟩ := h
  have ea : fho K a = p := by rcases h1 a ha.1 ha.2 with ⟨u, v⟩ | ⟨u, v⟩ | ⟨u, v⟩ <;> omega
  have eq : fho K q = p := by rw [← ea]; exact fho_cn hO ha (adj_con hq ha hj)
  have up : ∀ x, H x = p → jfu H q p x = p := fun x e => by
    by_cases hx : x = q
    · rw [hx]; exact jfu_s
    · rw [jfu_n hx]; exact e
  refine ⟨fun x a b => ?_, fun i a b => ?_, fun x a b e => ?_, h4.imp (up p) id, by omega⟩
  · by_cases hx : x = q
    · subst hx; exact .inr (.inr ⟨eq, jfu_s⟩)
    · rw [jfu_n hx]; exact h1 x a b
  · by_cases hi : i = m
    · rw [hi, jfu_s]; exact ⟨hq, jfu_s⟩
    · rw [jfu_n hi]
      have := h2 i a (by omega)
      exact ⟨this.1, up _ this.2⟩
  · by_cases hx : x = q
    · exact .inr (.inl ⟨m, by omega, by rw [jfu_s]; exact hx.symm⟩)
    · rw [jfu_n hx] at e
      rcases h3 x a b e with u | ⟨i, u, v⟩ | u
      · exact .inl u
      · exact .inr (.inl ⟨i, by omega, by rw [jfu_n (by omega)]; exact v⟩)
      · exact .inr (.inr fun z z0 z1 z2 => up z (u z z0 z1 z2))
theorem hFl.done {B : Int} {K : fS} (hO : jOk B K) (hS : kSy K) {p : Int} {H S : Int → Int} {m : Int} (h : hFl K p H S m (-1)) (hm : m ≤ 0) (hp : 0 ≤ p ∧ p < K 6 0) : hOu K (p + 1) H := by
  obtain ⟨h1, h2, h3, h4, h5⟩ := h
  have cl : ∀ x, 0 ≤ x → x < K 6 0 → H x = p → ∀ q, 0 ≤ q → q < K 6 0 → adj K q x → H q = p := fun x a b e => by
    rcases h3 x a b e with u | ⟨i, u, v⟩ | u
    · omega
    · omega
    · exact u
  intro x a b
  rcases h1 x a b with ⟨u, v⟩ | ⟨u, v⟩ | ⟨u, v⟩
  · exact .inl ⟨by omega, v⟩
  · by_cases e : fho K x = p
    · exfalso
      rcases h4 with w | w
      · have c := (fho_is hO ⟨a, b⟩).1
        rw [e] at c
        have := (c.sy (fun z => H z = p) w fun y z y0 y1 z0 hz => ?_)
        · have e2 : H x = p := this
          omega
        · have hz1 : z < K 6 0 := by
            have p1 := hO.p y
            have p2 := hO.s y
            rcases hz with hz | hz <;> omega
          refine ⟨fun e2 => ?_, fun e2 => ?_⟩
          · refine cl y y0 y1 e2 z z0 hz1 (hz.imp id id |> .inr)
          · refine cl z z0 hz1 e2 y y0 y1 ?_
            rcases hz with hz | hz
            · exact .inl hz
            · exact .inr (.inr (by rw [← hz]; exact hS y (by omega)))
      · have := fho_idem hO (x := x) ⟨a, b⟩
        rw [e] at this
        omega
    · exact .inr ⟨by omega, v⟩
  · exact .inl ⟨by omega, by omega⟩
theorem hFl.ge {B : Int} {K : fS} (hO : jOk B K) {p : Int} {H S : Int → Int} {m a q : Int} (h : hFl K p H S m a) (ha : 0 ≤ a ∧ a < K 6 0) (hHa : H a = p) (hp : 0 ≤ p ∧ p < K 6 0) (hq : 0 ≤ q ∧ q < K 6 0) (hn : 0 ≤ H q) (hj : adj K q a) : H q = p := by
  have ea : fho K a = p := by rcases h.1 a ha.1 ha.2 with ⟨u, v⟩ | ⟨u, v⟩ | ⟨u, v⟩ <;> omega
  have eq : fho K q = p := by rw [← ea]; exact fho_cn hO ha (adj_con hq ha hj)
  rcases h.1 q hq.1 hq.2 with ⟨u, v⟩ | ⟨u, v⟩ | ⟨u, v⟩ <;> omega
theorem jfu_k {f : Int → Int} {i v x : Int} (h : f x = v) : jfu f i v x = v := by
  by_cases e : x = i
  · rw [e]; exact jfu_s
  · rw [jfu_n e]; exact h
theorem all_s {Q : Int → Prop} {q : Int} (h : ∀ z, 0 ≤ z → z < q → Q z) (hq : Q q) : ∀ z, 0 ≤ z → z < q + 1 → Q z := fun z a b => by
  by_cases e : z = q
  · rw [e]; exact hq
  · exact h z a (by omega)
theorem hOu.b {B : Int} {K : fS} (hO : jOk B K) {p x : Int} {H : Int → Int} (h : hOu K p H) (hx : 0 ≤ x ∧ x < K 6 0) : -1 ≤ H x ∧ H x < K 6 0 := by
  have := fho_rg hO hx
  rcases h x hx.1 hx.2 with ⟨u, v⟩ | ⟨u, v⟩ <;> omega
theorem hFl.b {B : Int} {K : fS} (hO : jOk B K) {p x m a : Int} {H S : Int → Int} (h : hFl K p H S m a) (hx : 0 ≤ x ∧ x < K 6 0) : -1 ≤ H x ∧ H x < K 6 0 := by
  have := fho_rg hO hx
  rcases h.1 x hx.1 hx.2 with ⟨u, v⟩ | ⟨u, v⟩ | ⟨u, v⟩ <;> omega
