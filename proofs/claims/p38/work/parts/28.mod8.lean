theorem isHo_ex {B : Int} {F : fS} (hO : jOk B F) {p : Int} (hp : 0 ≤ p ∧ p < F 6 0) : ∀ (m : Nat) (q : Int), con F p q → q.toNat ≤ m → ∃ r, isHo F p r
  | 0, q, hq, hm => ⟨q, hq, fun q' hq' => by have := hq'.rg hO hp; have := hq.rg hO hp; omega⟩
  | m + 1, q, hq, hm => by
    by_cases hmin : ∀ q', con F p q' → q ≤ q'
    · exact ⟨q, hq, hmin⟩
    · obtain ⟨q', h'⟩ := Classical.not_forall.mp hmin
      obtain ⟨h1, h2⟩ := Classical.not_imp.mp h'
      have := h1.rg hO hp
      exact isHo_ex hO hp m q' h1 (by omega)
theorem fho_is {B : Int} {F : fS} (hO : jOk B F) {p : Int} (hp : 0 ≤ p ∧ p < F 6 0) : isHo F p (fho F p) := Classical.epsilon_spec (isHo_ex hO hp _ p con.rf (Nat.le_refl _))
theorem fho_rg {B : Int} {F : fS} (hO : jOk B F) {p : Int} (hp : 0 ≤ p ∧ p < F 6 0) : 0 ≤ fho F p ∧ fho F p ≤ p := by
  have h := fho_is hO hp
  exact ⟨(h.1.rg hO hp).1, h.2 p con.rf⟩
noncomputable def m_hrow (G : fS) : Int → Int := m_tells G 12
theorem m_hrow_in {G : fS} {p : Int} (hp : 0 ≤ p ∧ p < G 0 0) : m_hrow G p = fho (mK (G 0)) p := if_pos hp
/-- the quarrels from q on that stay, written from to on -/
def meq (H : Int → Int) : Nat → Int → Int → (Int → Int) → Int × (Int → Int)
  | 0, _, to, f => (to, f)
  | k + 1, q, to, f => if H (f (101 + 2 * q)) = H (f (101 + 2 * q + 1)) then meq H k (q + 1) to f else meq H k (q + 1) (to + 1) (jfu (jfu f (101 + 2 * to) (f (101 + 2 * q))) (101 + 2 * to + 1) (f (101 + 2 * q + 1)))
noncomputable def m_endQ (G : fS) : Int × fS :=
  (G 0 1 - (meq (m_hrow G) (G 0 1).toNat 0 0 (G 0)).1, gs (m_tells G) 0 (jfu (jfu (meq (m_hrow G) (G 0 1).toNat 0 0 (G 0)).2 1 (meq (m_hrow G) (G 0 1).toNat 0 0 (G 0)).1) 2 (jfu (meq (m_hrow G) (G 0 1).toNat 0 0 (G 0)).2 1 (meq (m_hrow G) (G 0 1).toNat 0 0 (G 0)).1 2 + (G 0 1 - (meq (m_hrow G) (G 0 1).toNat 0 0 (G 0)).1))))
theorem meq_e {H : Int → Int} {k : Nat} {q to : Int} {f : Int → Int} (h : H (f (101 + 2 * q)) = H (f (101 + 2 * q + 1))) : meq H (k + 1) q to f = meq H k (q + 1) to f := if_pos h
theorem meq_n {H : Int → Int} {k : Nat} {q to : Int} {f : Int → Int} (h : ¬ H (f (101 + 2 * q)) = H (f (101 + 2 * q + 1))) : meq H (k + 1) q to f = meq H k (q + 1) (to + 1) (jfu (jfu f (101 + 2 * to) (f (101 + 2 * q))) (101 + 2 * to + 1) (f (101 + 2 * q + 1))) := if_neg h
