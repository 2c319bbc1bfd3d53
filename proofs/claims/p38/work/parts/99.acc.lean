/-! WHAT THE CHECK OF ACCOUNTS RESTS ON -/
theorem fp_cd0 : ∀ b : Fin 24, ∀ a : Fin 577, Op.cmpValue (FP.dcmp (FP.ddiv (FP.i2d (Int32.ofInt ((a.val : Nat) : Int))) (FP.i2d (Int32.ofInt ((b.val + 1 : Nat) : Int)))) (FP.ddiv (FP.i2d (Int32.ofInt ((a.val : Nat) : Int))) (FP.i2d (Int32.ofInt ((b.val + 1 : Nat) : Int))))) .l = Int32.ofInt 0 := by decide +kernel
theorem fp_cf0 : ∀ b : Fin 24, ∀ a : Fin 25, Op.cmpValue (FP.fcmp (FP.fdiv (FP.i2f (Int32.ofInt ((a.val : Nat) : Int))) (FP.i2f (Int32.ofInt ((b.val + 1 : Nat) : Int)))) (FP.fdiv (FP.i2f (Int32.ofInt ((a.val : Nat) : Int))) (FP.i2f (Int32.ofInt ((b.val + 1 : Nat) : Int))))) .l = Int32.ofInt 0 := by decide +kernel
theorem fp_cd {a b : Int} (ha : 0 ≤ a ∧ a < 577) (hb : 1 ≤ b ∧ b ≤ 24) : Op.cmpValue (FP.dcmp (FP.ddiv (FP.i2d (Int32.ofInt a)) (FP.i2d (Int32.ofInt b))) (FP.ddiv (FP.i2d (Int32.ofInt a)) (FP.i2d (Int32.ofInt b)))) .l = Int32.ofInt 0 := by
  have e := fp_cd0 ⟨(b - 1).toNat, by omega⟩ ⟨a.toNat, by omega⟩
  dsimp only at e
  rw [Int.toNat_of_nonneg ha.1, show (((b - 1).toNat + 1 : Nat) : Int) = b by omega] at e
  exact e
theorem fp_cf {a b : Int} (ha : 0 ≤ a ∧ a < 25) (hb : 1 ≤ b ∧ b ≤ 24) : Op.cmpValue (FP.fcmp (FP.fdiv (FP.i2f (Int32.ofInt a)) (FP.i2f (Int32.ofInt b))) (FP.fdiv (FP.i2f (Int32.ofInt a)) (FP.i2f (Int32.ofInt b)))) .l = Int32.ofInt 0 := by
  have e := fp_cf0 ⟨(b - 1).toNat, by omega⟩ ⟨a.toNat, by omega⟩
  dsimp only at e
  rw [Int.toNat_of_nonneg ha.1, show (((b - 1).toNat + 1 : Nat) : Int) = b by omega] at e
  exact e
theorem jM.ne {M : jMe} {d mc ms : Nat} {nw : List Nat} {a0 : List Value} {h : jH} {Pn Pn' : jPn} {Px : jPx} (hM : jM M d mc ms nw a0 h Pn Px) (hi : ∀ r h', Pn r h' → Pn' r h') (hx : ∀ E h', ¬ Px E h') : jM M d mc ms nw a0 h Pn' jno := by
  intro l hl D cy ad bs p e ha hc hk s m args below hf happ hP hK
  obtain ⟨n, o, h1, h2, h3, h4⟩ := hM l hl D cy ad bs p e ha hc hk s m args below hf happ hP hK
  refine ⟨n, o, h1, h2, h3, ?_⟩
  rcases h4 with ⟨⟨r, h', ad', z1, z2, z3⟩, z4⟩ | ⟨q, -, E, ce, Lq, ⟨h', ad', hp, -⟩, -⟩
  · exact .inl ⟨⟨r, h', ad', z1, hi r h' z2, z3⟩, z4⟩
  · exact absurd hp (hx _ _)
/-- a world of the law's, after the places 11, 12, 13 have changed -/
theorem lC.ex {B : Int} {K : fS} {P : Int → fS} {n : Int} {h h' : jH} (w : lC B K P n h) (hx : ∀ Ks X I c t, xC K Ks P X I c t h → xC K Ks P X I c t h') (he : jEx 11 3 h h') : lC B K P n h' := by
  obtain ⟨w1, ⟨Ks, X, I, c, t, w2, w3⟩, w4, w5⟩ := w
  exact ⟨w1, ⟨Ks, X, I, c, t, hx _ _ _ _ _ w2, w3⟩, w4, (he 300 (by omega)).trans w5⟩
section A99
variable {B : Int} {K : fS} {P : Int → fS} {n : Int} {h : jH}
theorem l_houses (hC : lC B K P n h) : jM mX4_houses 3 0 0 [] [.ref 0] h (jRet (iv (csum (fun p => bi (fho K p = p)) (K 6 0).toNat)) h) jno := by
  obtain ⟨⟨hI, hV⟩, ⟨Ks, X, I, c, t, w2, w3, w5⟩, w4, hN⟩ := hC
  exact x_houses w2 hI
theorem l_housesAgain (hC : lC B K P n h) : jM mX4_housesAgain 4 0 0 [] [.ref 0] h (fun r h' => r = some (iv (csum (fun p => bi (fho K p = p)) (K 6 0).toNat)) ∧ lC B K P n h' ∧ jEx 11 3 h h') jno := by
  obtain ⟨⟨hI, hV⟩, ⟨Ks, X, I, c, t, w2, w3, w5⟩, w4, hN⟩ := hC
  exact (x_housesAgain w2 hI).mo fun r h' z => ⟨z.1, ⟨⟨hI, hV⟩, ⟨Ks, X, I, c, t, z.2.1, w3, w5⟩, w4, (z.2.2 300 (by omega)).trans hN⟩, z.2.2⟩
theorem l_isWell (hC : lC B K P n h) : jM mX4_isWell 6 0 0 [] [.ref 0] h (fun r h' => r = some (iv 1) ∧ lC B K P n h' ∧ jEx 11 3 h h') jno := by
  obtain ⟨⟨hI, hV⟩, ⟨Ks, X, I, c, t, w2, w3, w5⟩, w4, hN⟩ := hC
  refine (x_isWell w2 hI).mo fun r h' z => ⟨z.1.trans ?_, ⟨⟨hI, hV⟩, ⟨Ks, X, I, c, t, z.2.1, w3, w5⟩, w4, (z.2.2 300 (by omega)).trans hN⟩, z.2.2⟩
  rw [bi_t ⟨hI.2.2.2.symm, csum_0 _ fun i a b => bi_f (hV.2.2.1 i a (by omega))⟩]
theorem l_meanDepth (hC : lC B K P n h) (h0 : 0 < K 6 0) : jM mX4_meanDepth 6 1 6 [] [.ref 0] h (fun r h' => r = some (.double (FP.ddiv (FP.i2d (Int32.ofInt (csum (fun c => fdep K c) (K 6 0).toNat))) (FP.i2d (Int32.ofInt (K 6 0))))) ∧ h = h') jno := by
  obtain ⟨⟨hI, hV⟩, ⟨Ks, X, I, c, t, w2, w3, w5⟩, w4, hN⟩ := hC
  exact (x_meanDepth w2 hI).ne (fun r h' z => ⟨z.1, z.2.2⟩) fun E h' z => by omega
theorem l_livingShare (hC : lC B K P n h) (h0 : 0 < K 6 0) : jM mX4_livingShare 6 1 6 [] [.ref 0] h (fun r h' => r = some (.float (FP.fdiv (FP.i2f (Int32.ofInt (csum (fun c => bi (K 3 c ≠ 0)) (K 6 0).toNat))) (FP.i2f (Int32.ofInt (K 6 0))))) ∧ h = h') jno := by
  obtain ⟨⟨hI, hV⟩, ⟨Ks, X, I, c, t, w2, w3, w5⟩, w4, hN⟩ := hC
  exact (x_livingShare w2 hI).ne (fun r h' z => ⟨z.1, z.2.2⟩) fun E h' z => by omega
end A99
theorem cmax_st {f : Int → Int} {q c v : Int} (h0 : 0 ≤ q) (hc : c = cmax f q.toNat) (hv : f q = v) : max c v = cmax f (q + 1).toNat := by rw [cmax_s f h0, hv, hc]
theorem bi_l {B : Int} {K : fS} (hO : jOk B K) (p : Int) : bi (K 3 p ≠ 0) = K 3 p := by
  rcases hO.l p with e | e
  · rw [e, bi_f (fun z => z rfl)]
  · rw [e, bi_t (by decide)]
theorem csum_le {f : Int → Int} {a b : Int} (h : ∀ i, a ≤ f i ∧ f i ≤ b) (ha : a = 0) (hb : 0 ≤ b) {k : Int} (hk : 0 ≤ k ∧ k ≤ 24) : 0 ≤ csum f k.toNat ∧ csum f k.toNat ≤ 24 * b := by
  have := csum_big (f := f) (b := b) (fun i => by have := h i; omega) hb k.toNat
  have h2 : ((k.toNat : Nat) : Int) * b ≤ 24 * b := Int.mul_le_mul_of_nonneg_right (by omega) hb
  omega
