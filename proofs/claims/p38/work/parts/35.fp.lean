theorem fp_d0 : ∀ b : Fin 24, ∀ a : Fin 577, vf_n64 (FP.ddiv (FP.i2d (Int32.ofInt ((a.val : Nat) : Int))) (FP.i2d (Int32.ofInt ((b.val + 1 : Nat) : Int)))) := by unfold vf_n64; decide +kernel
theorem fp_f0 : ∀ b : Fin 24, ∀ a : Fin 25, vf_n32 (FP.fdiv (FP.i2f (Int32.ofInt ((a.val : Nat) : Int))) (FP.i2f (Int32.ofInt ((b.val + 1 : Nat) : Int)))) ∧ vf_n64 (FP.f2d (FP.fdiv (FP.i2f (Int32.ofInt ((a.val : Nat) : Int))) (FP.i2f (Int32.ofInt ((b.val + 1 : Nat) : Int))))) := by unfold vf_n32 vf_n64; decide +kernel
theorem fp_d {a b : Int} (ha : 0 ≤ a ∧ a < 577) (hb : 1 ≤ b ∧ b ≤ 24) : vf_n64 (FP.ddiv (FP.i2d (Int32.ofInt a)) (FP.i2d (Int32.ofInt b))) := by
  have e := fp_d0 ⟨(b - 1).toNat, by omega⟩ ⟨a.toNat, by omega⟩
  dsimp only at e
  rw [Int.toNat_of_nonneg ha.1, show (((b - 1).toNat + 1 : Nat) : Int) = b by omega] at e
  exact e
theorem fp_f {a b : Int} (ha : 0 ≤ a ∧ a < 25) (hb : 1 ≤ b ∧ b ≤ 24) : vf_n32 (FP.fdiv (FP.i2f (Int32.ofInt a)) (FP.i2f (Int32.ofInt b))) ∧ vf_n64 (FP.f2d (FP.fdiv (FP.i2f (Int32.ofInt a)) (FP.i2f (Int32.ofInt b)))) := by
  have e := fp_f0 ⟨(b - 1).toNat, by omega⟩ ⟨a.toNat, by omega⟩
  dsimp only at e
  rw [Int.toNat_of_nonneg ha.1, show (((b - 1).toNat + 1 : Nat) : Int) = b by omega] at e
  exact e
/-- answers v, and leaves the object so -/
def jWg (S : jSc) (k : Nat) (q : Value × fS) (h : jH) : jPn := fun r h' => r = some q.1 ∧ jOb S k q.2 h' ∧ jEx k S.2.1 h h'
theorem jWg.i {S : jSc} {k : Nat} {q : Value × fS} {h h' : jH} {v : Value} {G : fS} (e : q = (v, G)) (hG : jOb S k G h') (hE : jEx k S.2.1 h h') : jWg S k q h (some v) h' := by
  subst e
  exact ⟨rfl, hG, hE⟩
