/-! THE CLASS' FAMILIES: their rows of quarrels may hold anything behind the last quarrel -/
def kRw (K : fS) (a b : Int → Int) : fS := gs (gs K 4 a) 5 b
def kQv (K : fS) (a b : Int → Int) : Prop := ∀ q, 0 ≤ q → q < K 7 0 → a q = K 4 q ∧ b q = K 5 q
theorem jOk.rw {B : Int} {K : fS} {a b : Int → Int} (h : jOk B K) (hq : kQv K a b) : jOk B (kRw K a b) := by
  obtain ⟨a1, a2, a3, a4, a5, a6, a7, a8, a9, a10, a11, a12⟩ := h
  refine ⟨a1, a2, a3, a4, a5, a6, a7, fun i h0 h1 => ?_, a9, a10, a11, a12⟩
  obtain ⟨e1, e2⟩ := hq i h0 h1
  show (0 ≤ a i ∧ a i < K 6 0) ∧ (0 ≤ b i ∧ b i < K 6 0)
  rw [e1, e2]
  exact a8 i h0 h1
theorem gs_cm {G : fS} {i j : Nat} {f g : Int → Int} (h : i ≠ j) : gs (gs G i f) j g = gs (gs G j g) i f := by
  funext m
  by_cases h1 : m = j
  · subst h1
    rw [gs_s, gs_n (Ne.symm h), gs_s]
  · rw [gs_n h1]
    by_cases h2 : m = i
    · subst h2
      rw [gs_s, gs_s]
    · rw [gs_n h2, gs_n h2, gs_n h1]
theorem kRw_gs {K : fS} {a b f : Int → Int} {i : Nat} (h4 : i ≠ 4) (h5 : i ≠ 5) : kRw (gs K i f) a b = gs (kRw K a b) i f := by
  unfold kRw
  rw [gs_cm h4, gs_cm h5]
theorem kRw_gn {K : fS} {a b : Int → Int} {i : Nat} {x : Int} (h4 : i ≠ 4) (h5 : i ≠ 5) : kRw (gn K i x) a b = gn (kRw K a b) i x := kRw_gs h4 h5
theorem kRw_g0 {K : fS} {a b f : Int → Int} : kRw (gs K 0 f) a b = gs (kRw K a b) 0 f := kRw_gs (by decide) (by decide)
theorem kRw_g1 {K : fS} {a b f : Int → Int} : kRw (gs K 1 f) a b = gs (kRw K a b) 1 f := kRw_gs (by decide) (by decide)
theorem kRw_g2 {K : fS} {a b f : Int → Int} : kRw (gs K 2 f) a b = gs (kRw K a b) 2 f := kRw_gs (by decide) (by decide)
theorem kRw_g3 {K : fS} {a b f : Int → Int} : kRw (gs K 3 f) a b = gs (kRw K a b) 3 f := kRw_gs (by decide) (by decide)
theorem kRw_n6 {K : fS} {a b : Int → Int} {x : Int} : kRw (gn K 6 x) a b = gn (kRw K a b) 6 x := kRw_gn (by decide) (by decide)
theorem kRw_n7 {K : fS} {a b : Int → Int} {x : Int} : kRw (gn K 7 x) a b = gn (kRw K a b) 7 x := kRw_gn (by decide) (by decide)
theorem kRw_n8 {K : fS} {a b : Int → Int} {x : Int} : kRw (gn K 8 x) a b = gn (kRw K a b) 8 x := kRw_gn (by decide) (by decide)
theorem kRw_n9 {K : fS} {a b : Int → Int} {x : Int} : kRw (gn K 9 x) a b = gn (kRw K a b) 9 x := kRw_gn (by decide) (by decide)
theorem kRw_n10 {K : fS} {a b : Int → Int} {x : Int} : kRw (gn K 10 x) a b = gn (kRw K a b) 10 x := kRw_gn (by decide) (by decide)
theorem kRw_45 {K : fS} {a b f g : Int → Int} : kRw (gs (gs K 4 f) 5 g) a b = kRw K a b := by
  unfold kRw
  rw [gs_cm (i := 5) (j := 4) (by decide), gs_gs, gs_gs]
theorem csum_eq {f g : Int → Int} : ∀ k : Nat, (∀ i : Int, 0 ≤ i → i < k → f i = g i) → csum f k = csum g k
  | 0, _ => rfl
  | k + 1, h => by
    show csum f k + f k = csum g k + g k
    rw [csum_eq k fun i h0 h1 => h i h0 (by omega), h k (by omega) (by omega)]
theorem jfu_id {f : Int → Int} {i x : Int} (h : f i = x) : jfu f i x = f := funext fun j => by
  by_cases hj : j = i
  · rw [hj, jfu_s, h]
  · rw [jfu_n hj]
theorem bi_ne {c : Prop} [Decidable c] (h : c) : ¬ bi c = 0 := fun q => by rw [bi_t h] at q; cases q
section KRW
variable {k : Nat} {K : fS} {a b : Int → Int} {B : Int} {h : jH}
theorem k_parentOf (hF : jOb sF k (kRw K a b) h) (hq : kQv K a b) (hO : jOk B K) {p : Int} (hp : -2147483648 ≤ p ∧ p ≤ 2147483647) : jM mX1_parentOf 0 0 0 [] [.ref k, iv p] h (jRet (iv (K 0 p)) h) jno := c_parentOf (F := kRw K a b) hF.fam (hO.rw hq) hp
theorem k_spouseOf (hF : jOb sF k (kRw K a b) h) (hq : kQv K a b) (hO : jOk B K) {p : Int} (hp : -2147483648 ≤ p ∧ p ≤ 2147483647) : jM mX1_spouseOf 0 0 0 [] [.ref k, iv p] h (jRet (iv (K 1 p)) h) jno := c_spouseOf (F := kRw K a b) hF.fam (hO.rw hq) hp
theorem k_coinsOf (hF : jOb sF k (kRw K a b) h) (hq : kQv K a b) (hO : jOk B K) {p : Int} (hp : -2147483648 ≤ p ∧ p ≤ 2147483647) : jM mX1_coinsOf 0 0 0 [] [.ref k, iv p] h (jRet (iv (K 2 p)) h) jno := c_coinsOf (F := kRw K a b) hF.fam (hO.rw hq) hp
theorem k_lives (hF : jOb sF k (kRw K a b) h) (hq : kQv K a b) (hO : jOk B K) {p : Int} (hp : -2147483648 ≤ p ∧ p ≤ 2147483647) : jM mX1_lives 0 0 0 [] [.ref k, iv p] h (jRet (iv (K 3 p)) h) jno := c_lives (F := kRw K a b) hF.fam (hO.rw hq) hp
theorem k_has (hF : jOb sF k (kRw K a b) h) (hq : kQv K a b) (hO : jOk B K) {p : Int} (hp : -2147483648 ≤ p ∧ p ≤ 2147483647) : jM mX1_has 0 0 0 [] [.ref k, iv p] h (jRet (iv (bi (0 ≤ p ∧ p < K 6 0))) h) jno := c_has (F := kRw K a b) hF.fam (hO.rw hq) hp
theorem k_depthOf (hF : jOb sF k (kRw K a b) h) (hq : kQv K a b) (hO : jOk B K) {p : Int} (hp : -2147483648 ≤ p ∧ p ≤ 2147483647) : jM mX1_depthOf 1 0 0 [] [.ref k, iv p] h (jRet (iv (fdep K p)) h) jno := c_depthOf (F := kRw K a b) hF.fam (hO.rw hq) hp
theorem k_rootOf (hF : jOb sF k (kRw K a b) h) (hq : kQv K a b) (hO : jOk B K) {p : Int} (hp : -2147483648 ≤ p ∧ p ≤ 2147483647) : jM mX1_rootOf 1 0 0 [] [.ref k, iv p] h (jRet (iv (frt K p)) h) jno := c_rootOf (F := kRw K a b) hF.fam (hO.rw hq) hp
theorem k_stepUp (hF : jOb sF k (kRw K a b) h) (hq : kQv K a b) (hO : jOk B K) {p e : Int} (hp : -2147483648 ≤ p ∧ p ≤ 2147483647) (he : -2147483648 ≤ e ∧ e ≤ 2147483647) : jM mX1_stepUp 1 0 0 [] [.ref k, iv p, iv e] h (jRet (iv (fup K p e)) h) jno := c_stepUp (F := kRw K a b) hF.fam (hO.rw hq) hp he
theorem k_nextBelow (hF : jOb sF k (kRw K a b) h) (hq : kQv K a b) (hO : jOk B K) {t p : Int} (ht : -2147483648 ≤ t ∧ t ≤ 2147483647) (hp : -1 ≤ p ∧ p < 24) : jM mX1_nextBelow 2 0 0 [] [.ref k, iv t, iv p] h (jRet (iv (fnb K t p)) h) jno := c_nextBelow (F := kRw K a b) hF.fam (hO.rw hq) ht hp
theorem k_childrenOf (hF : jOb sF k (kRw K a b) h) (hq : kQv K a b) (hO : jOk B K) {p : Int} (hp : -2147483648 ≤ p ∧ p ≤ 2147483647) : jM mX1_childrenOf 1 0 0 [] [.ref k, iv p] h (jRet (iv (csum (fun c => bi (K 0 c = p)) (K 6 0).toNat)) h) jno := c_childrenOf (F := kRw K a b) hF.fam (hO.rw hq) hp
theorem k_richerThan (hF : jOb sF k (kRw K a b) h) (hq : kQv K a b) (hO : jOk B K) {p : Int} (hp : -2147483648 ≤ p ∧ p ≤ 2147483647) : jM mX1_richerThan 1 0 0 [] [.ref k, iv p] h (jRet (iv (csum (fun o => bi (K 2 o - K 2 p > 0 ∨ (K 2 o - K 2 p = 0 ∧ o < p))) (K 6 0).toNat)) h) jno := c_richerThan (F := kRw K a b) hF.fam (hO.rw hq) hp
theorem k_hasQuarrel (hF : jOb sF k (kRw K a b) h) (hq : kQv K a b) (hO : jOk B K) {p : Int} (hp : -2147483648 ≤ p ∧ p ≤ 2147483647) : jM mX1_hasQuarrel 0 0 0 [] [.ref k, iv p] h (jRet (iv (bi (0 ≤ p ∧ p < K 7 0))) h) jno := c_hasQuarrel (F := kRw K a b) hF.fam (hO.rw hq) hp
theorem k_quarrelerAt (hF : jOb sF k (kRw K a b) h) (hq : kQv K a b) (hO : jOk B K) {p : Int} (hp : 0 ≤ p ∧ p < K 7 0) : jM mX1_quarrelerAt 1 0 0 [] [.ref k, iv p] h (jRet (iv (K 4 p)) h) jno := by
  have hqn := hO.q
  have w := c_quarrelerAt hF.fam (hO.rw hq) (p := p) (by omega)
  have e : fqa (kRw K a b) p = K 4 p := (if_pos hp).trans (hq p hp.1 hp.2).1
  rw [e] at w
  exact w
theorem k_rivalAt (hF : jOb sF k (kRw K a b) h) (hq : kQv K a b) (hO : jOk B K) {p : Int} (hp : 0 ≤ p ∧ p < K 7 0) : jM mX1_rivalAt 1 0 0 [] [.ref k, iv p] h (jRet (iv (K 5 p)) h) jno := by
  have hqn := hO.q
  have w := c_rivalAt hF.fam (hO.rw hq) (p := p) (by omega)
  have e : fqb (kRw K a b) p = K 5 p := (if_pos hp).trans (hq p hp.1 hp.2).2
  rw [e] at w
  exact w
theorem k_quarrelsOf (hF : jOb sF k (kRw K a b) h) (hq : kQv K a b) (hO : jOk B K) {p : Int} (hp : -2147483648 ≤ p ∧ p ≤ 2147483647) : jM mX1_quarrelsOf 2 0 0 [] [.ref k, iv p] h (jRet (iv (csum (fun z => bi (K 4 z = p ∨ K 5 z = p)) (K 7 0).toNat)) h) jno := by
  have hqn := hO.q
  have w := c_quarrelsOf hF.fam (hO.rw hq) (p := p) hp
  have e : csum (fun z => bi (fqa (kRw K a b) z = p ∨ fqb (kRw K a b) z = p)) (K 7 0).toNat = csum (fun z => bi (K 4 z = p ∨ K 5 z = p)) (K 7 0).toNat := csum_eq _ fun i i0 i1 => by
    have e1 : fqa (kRw K a b) i = K 4 i := (if_pos (show 0 ≤ i ∧ i < K 7 0 by omega)).trans (hq i i0 (by omega)).1
    have e2 : fqb (kRw K a b) i = K 5 i := (if_pos (show 0 ≤ i ∧ i < K 7 0 by omega)).trans (hq i i0 (by omega)).2
    show bi (fqa (kRw K a b) i = p ∨ fqb (kRw K a b) i = p) = bi (K 4 i = p ∨ K 5 i = p)
    rw [e1, e2]
  rw [← e]
  exact w
theorem fdq_e {p o : Int} (hpo : p ≠ o) (hq : kQv K a b) : ∀ (n : Nat) (i : Int), 0 ≤ i → i + n = K 7 0 → fdq (kRw K a b) p o n i = mdq K p o n i
  | 0, _, _, _ => rfl
  | n + 1, i, h0, h1 => by
    have e1 : fqa (kRw K a b) i = K 4 i := (if_pos (show 0 ≤ i ∧ i < K 7 0 by omega)).trans (hq i h0 (by omega)).1
    have e2 : fqb (kRw K a b) i = K 5 i := (if_pos (show 0 ≤ i ∧ i < K 7 0 by omega)).trans (hq i h0 (by omega)).2
    by_cases hc : (K 4 i = p ∧ K 5 i = o) ∨ (K 4 i = o ∧ K 5 i = p)
    · rw [fdq_t (by rw [e1, e2]; exact hc), mdq_t (by omega) (by omega)]
    · rw [fdq_f (by rw [e1, e2]; exact hc), mdq_f (by omega)]
      exact fdq_e hpo hq n (i + 1) (by omega) (by omega)
theorem k_doQuarrel (hF : jOb sF k (kRw K a b) h) (hq : kQv K a b) (hO : jOk B K) {p o : Int} (hp : -2147483648 ≤ p ∧ p ≤ 2147483647) (ho : -2147483648 ≤ o ∧ o ≤ 2147483647) (hpo : p ≠ o) : jM mX1_doQuarrel 2 0 0 [] [.ref k, iv p, iv o] h (jRet (iv (bi (mdq K p o (K 7 0).toNat 0 = true))) h) jno := by
  have hqn := hO.q
  have w := c_doQuarrel hF.fam (hO.rw hq) (p := p) (o := o) hp ho
  have e : fdq (kRw K a b) p o (K 7 0).toNat 0 = mdq K p o (K 7 0).toNat 0 := fdq_e hpo hq _ 0 (Int.le_refl _) (by omega)
  rw [← e]
  exact w
theorem k_livingPersons (hF : jOb sF k (kRw K a b) h) (hq : kQv K a b) (hO : jOk B K)  : jM mX1_livingPersons 1 0 0 [] [.ref k] h (jRet (iv (csum (fun c => bi (K 3 c ≠ 0)) (K 6 0).toNat)) h) jno := c_livingPersons (F := kRw K a b) hF.fam (hO.rw hq) 
theorem k_oaks (hF : jOb sF k (kRw K a b) h) (hq : kQv K a b) (hO : jOk B K)  : jM mX1_oaks 1 0 0 [] [.ref k] h (jRet (iv (kOaks K)) h) jno := c_oaks (F := kRw K a b) hF.fam (hO.rw hq) 
theorem k_marriages (hF : jOb sF k (kRw K a b) h) (hq : kQv K a b) (hO : jOk B K)  : jM mX1_marriages 1 0 0 [] [.ref k] h (jRet (iv (csum (fun c => bi (K 1 c > c)) (K 6 0).toNat)) h) jno := c_marriages (F := kRw K a b) hF.fam (hO.rw hq) 
theorem k_sumOfDepths (hF : jOb sF k (kRw K a b) h) (hq : kQv K a b) (hO : jOk B K)  : jM mX1_sumOfDepths 2 0 0 [] [.ref k] h (jRet (iv (csum (fun c => fdep K c) (K 6 0).toNat)) h) jno := c_sumOfDepths (F := kRw K a b) hF.fam (hO.rw hq) 
theorem k_allCoins (hF : jOb sF k (kRw K a b) h) (hq : kQv K a b) (hO : jOk B K)  : jM mX1_allCoins 1 0 0 [] [.ref k] h (jRet (iv (csum (fun c => K 2 c) (K 6 0).toNat)) h) jno := c_allCoins (F := kRw K a b) hF.fam (hO.rw hq) 
theorem k_greatestDepth (hF : jOb sF k (kRw K a b) h) (hq : kQv K a b) (hO : jOk B K)  : jM mX1_greatestDepth 2 0 0 [] [.ref k] h (jRet (iv (cmax (fun c => fdep K c) (K 6 0).toNat)) h) jno := c_greatestDepth (F := kRw K a b) hF.fam (hO.rw hq) 
theorem dsl_cg {F F' : fS} (h0 : F' 0 = F 0) {D D' : Int → List Int} (hD : ∀ x, D' x = D x) {p : Int} : ∀ (m : Nat) (c : Int), dsl F' D' p m c = dsl F D p m c
  | 0, _ => rfl
  | m + 1, c => by
    show (if F' 0 c = p then c :: D' c else []) ++ dsl F' D' p m (c + 1) = (if F 0 c = p then c :: D c else []) ++ dsl F D p m (c + 1)
    rw [h0, hD, dsl_cg h0 hD m]
theorem des_cg {F F' : fS} (h0 : F' 0 = F 0) (h6 : F' 6 = F 6) : ∀ (k : Nat) (p : Int), des F' k p = des F k p
  | 0, _ => rfl
  | k + 1, p => by
    show dsl F' (des F' k) p (F' 6 0).toNat 0 = dsl F (des F k) p (F 6 0).toNat 0
    rw [h6]
    exact dsl_cg h0 (des_cg h0 h6 k) _ _
theorem fel_cg {F F' : fS} (h0 : F' 0 = F 0) (h3 : F' 3 = F 3) : ∀ (k : Nat) (x : Int), fel F' k x = fel F k x
  | 0, _ => rfl
  | k + 1, x => by
    show (if x = -1 ∨ F' 3 x ≠ 0 then x else fel F' k (F' 0 x)) = (if x = -1 ∨ F 3 x ≠ 0 then x else fel F k (F 0 x))
    rw [h0, h3, fel_cg h0 h3 k]
theorem fhe_cg {F F' : fS} (h0 : F' 0 = F 0) (h1 : F' 1 = F 1) (h3 : F' 3 = F 3) (h6 : F' 6 = F 6) {p : Int} : fhe F' p = fhe F p := by
  unfold fhe fne
  rw [des_cg h0 h6, h1, h3, h0, fel_cg h0 h3]
theorem k_descendantsOf (hF : jOb sF k (kRw K a b) h) (hq : kQv K a b) (hO : jOk B K) (hA : fAc K) {p : Int} (hp : 0 ≤ p ∧ p < K 6 0) : jM mX1_descendantsOf 3 0 0 [] [.ref k, iv p] h (jRet (iv ((des K 24 p).length : Int)) h) jno := by
  have hn := hO.n
  have w := c_descendantsOf hF.fam (hO.rw hq) (p := p) (by omega)
  have e : fde (kRw K a b) p = ((des K 24 p).length : Int) := by
    rw [fde_e (F := kRw K a b) (hO.rw hq) hA hp, des_cg (F := K) (F' := kRw K a b) rfl rfl]
  rw [e] at w
  exact w
theorem k_heirOf (hF : jOb sF k (kRw K a b) h) (hq : kQv K a b) (hO : jOk B K) (hA : fAc K) {p : Int} (hp : 0 ≤ p ∧ p < K 6 0) : jM mX1_heirOf 3 0 0 [] [.ref k, iv p] h (jRet (iv (fhe K p)) h) jno := by
  have hn := hO.n
  have w := c_heirOf hF.fam (hO.rw hq) (p := p) (by omega)
  have e : fhr (kRw K a b) p = fhe K p := by
    rw [fhr_e (F := kRw K a b) (hO.rw hq) hA hp, fhe_cg (F := K) (F' := kRw K a b) rfl rfl rfl rfl]
  rw [e] at w
  exact w
theorem k_commonByNotes (hF : jOb sF k (kRw K a b) h) (hq : kQv K a b) (hO : jOk B K) (hA : fAc K) {p o : Int} (hp : 0 ≤ p ∧ p < K 6 0) (ho : 0 ≤ o ∧ o < K 6 0) : jM mX1_commonByNotes 1 0 0 [] [.ref k, iv p, iv o] h (jRet (iv (flc K o p)) h) jno := c1_commonByNotes hF (hO.rw hq) hp ho hA
-- writers
theorem k_add (hF : jOb sF k (kRw K a b) h) (hq : kQv K a b) (hO : jOk B K) {v : Int} (hn : K 6 0 < 24) : jM mX1_add 1 0 0 [] [.ref k, iv v] h (jWv sF k (kRw (kAdd K v) a b) h) jno := by
  have h6 := hO.n
  have w := c1_add hF h6 (v := v)
  have e : f_add (kRw K a b) v = kRw (kAdd K v) a b := by
    unfold kAdd kliv kpar
    rw [kRw_n6, kRw_g3, kRw_g0]
    unfold f_add
    rw [if_neg (show ¬ kRw K a b 6 0 < 0 from (show ¬ K 6 0 < 0 by omega)), if_neg (show ¬ 24 ≤ kRw K a b 6 0 from (show ¬ 24 ≤ K 6 0 by omega))]
    rfl
  rw [e] at w
  exact w
theorem k_setParent (hF : jOb sF k (kRw K a b) h) (hq : kQv K a b) (hO : jOk B K) {p v : Int} (hp : 0 ≤ p ∧ p < K 6 0) : jM mX1_setParent 1 0 0 [] [.ref k, iv p, iv v] h (jWv sF k (kRw (kpar K p v) a b) h) jno := by
  have h6 := hO.n
  have w := c1_setParent hF h6 (p := p) (v := v) (by omega)
  have e : f_setParent (kRw K a b) p v = kRw (kpar K p v) a b := by
    unfold kpar f_setParent
    rw [kRw_g0, if_neg (bi_ne (show 0 ≤ p ∧ p < kRw K a b 6 0 from hp))]
    rfl
  rw [e] at w
  exact w
theorem fs_sp {K : fS} {a b : Int → Int} {p v : Int} (hp : 0 ≤ p ∧ p < K 6 0) : f_setSpouse (kRw K a b) p v = kRw (kspo K p v) a b := by
  unfold kspo f_setSpouse
  rw [kRw_g1, if_neg (bi_ne (show 0 ≤ p ∧ p < kRw K a b 6 0 from hp))]
  rfl
theorem k_setSpouse (hF : jOb sF k (kRw K a b) h) (hq : kQv K a b) (hO : jOk B K) {p v : Int} (hp : 0 ≤ p ∧ p < K 6 0) : jM mX1_setSpouse 1 0 0 [] [.ref k, iv p, iv v] h (jWv sF k (kRw (kspo K p v) a b) h) jno := by
  have h6 := hO.n
  have w := c1_setSpouse hF h6 (p := p) (v := v) (by omega)
  rw [fs_sp hp] at w
  exact w
theorem k_setDead (hF : jOb sF k (kRw K a b) h) (hq : kQv K a b) (hO : jOk B K) {p : Int} (hp : 0 ≤ p ∧ p < K 6 0) : jM mX1_setDead 1 0 0 [] [.ref k, iv p] h (jWv sF k (kRw (kliv K p 0) a b) h) jno := by
  have h6 := hO.n
  have w := c1_setDead hF h6 (p := p) (by omega)
  have e : f_setDead (kRw K a b) p = kRw (kliv K p 0) a b := by
    unfold kliv f_setDead
    rw [kRw_g3, if_neg (bi_ne (show 0 ≤ p ∧ p < kRw K a b 6 0 from hp))]
    rfl
  rw [e] at w
  exact w
theorem fs_ac {K : fS} {a b : Int → Int} {p v : Int} (hp : 0 ≤ p ∧ p < K 6 0) : f_addCoins (kRw K a b) p v = kRw (kcoi K p (K 2 p + v)) a b := by
  unfold kcoi f_addCoins
  rw [kRw_g2, if_neg (bi_ne (show 0 ≤ p ∧ p < kRw K a b 6 0 from hp))]
  rfl
theorem k_addCoins (hF : jOb sF k (kRw K a b) h) (hq : kQv K a b) (hO : jOk B K) {p v : Int} (hp : 0 ≤ p ∧ p < K 6 0) : jM mX1_addCoins 1 0 0 [] [.ref k, iv p, iv v] h (jWv sF k (kRw (kcoi K p (K 2 p + v)) a b) h) jno := by
  have h6 := hO.n
  have w := c1_addCoins hF h6 (p := p) (v := v) (by omega)
  rw [fs_ac hp] at w
  exact w
theorem k_endMarriage (hF : jOb sF k (kRw K a b) h) (hq : kQv K a b) (hO : jOk B K) {p : Int} (hp : 0 ≤ p ∧ p < K 6 0) : jM mX1_endMarriage 2 0 0 [] [.ref k, iv p] h (jWv sF k (kRw (if K 1 p < 0 then K else kPart K p) a b) h) jno := by
  have h6 := hO.n
  have hs := hO.s p
  have w := c1_endMarriage hF (hO.rw hq) (p := p) (by omega)
  have e : f_endMarriage (kRw K a b) p = kRw (if K 1 p < 0 then K else kPart K p) a b := by
    unfold f_endMarriage
    show f_setSpouse (f_setSpouse (kRw K a b) (K 1 p) (-1)) p (-1) = _
    by_cases h1 : K 1 p < 0
    · rw [if_pos h1]
      have e1 : f_setSpouse (kRw K a b) (K 1 p) (-1) = kRw K a b := by
        unfold f_setSpouse
        rw [if_pos (bi_f (show ¬ (0 ≤ K 1 p ∧ K 1 p < kRw K a b 6 0) from (show ¬ (0 ≤ K 1 p ∧ K 1 p < K 6 0) by omega)))]
      rw [e1, fs_sp hp]
      have e2 : kspo K p (-1) = K := by
        unfold kspo
        rw [jfu_id (by omega), gs_id rfl]
      rw [e2]
    · rw [if_neg h1, fs_sp (by omega), fs_sp (K := kspo K (K 1 p) (-1)) hp]
      rfl
  rw [e] at w
  exact w
theorem k_passCoins (hF : jOb sF k (kRw K a b) h) (hq : kQv K a b) (hO : jOk B K) {p e : Int} (hp : 0 ≤ p ∧ p < K 6 0) (he : -1 ≤ e ∧ e < K 6 0) : jM mX1_passCoins 2 0 0 [] [.ref k, iv p, iv e] h (jWv sF k (kRw (kPass K p e) a b) h) jno := by
  have h6 := hO.n
  have w := c1_passCoins hF (hO.rw hq) (p := p) (e := e) (by omega) (by omega)
  have e9 : f_passCoins (kRw K a b) p e = kRw (kPass K p e) a b := by
    unfold f_passCoins kPass
    have e0 : f_addCoins (kRw K a b) p (-(kRw K a b 2 p)) = kRw (kcoi K p 0) a b := by
      rw [fs_ac hp]
      show kRw (kcoi K p (K 2 p + -(K 2 p))) a b = _
      rw [show K 2 p + -(K 2 p) = 0 by omega]
    rw [e0]
    by_cases h1 : e = -1
    · rw [if_pos h1, if_pos (by omega)]
      have e1 : f_addCoins (kRw (kcoi K p 0) a b) e (kRw K a b 2 p) = kRw (kcoi K p 0) a b := by
        unfold f_addCoins
        rw [if_pos (bi_f (show ¬ (0 ≤ e ∧ e < kRw (kcoi K p 0) a b 6 0) from (show ¬ (0 ≤ e ∧ e < K 6 0) by omega)))]
      rw [e1, kRw_n10]
      rfl
    · rw [if_neg h1, if_neg (by omega), fs_ac (K := kcoi K p 0) (show 0 ≤ e ∧ e < K 6 0 by omega)]
      rfl
  rw [e9] at w
  exact w
theorem k_addQuarrel (hF : jOb sF k (kRw K a b) h) (hq : kQv K a b) (hO : jOk B K) {p o : Int} (hn : K 7 0 < 20) : jM mX1_addQuarrel 1 0 0 [] [.ref k, iv p, iv o] h (jWv sF k (kRw (kAddQ K p o) (jfu a (K 7 0) p) (jfu b (K 7 0) o)) h) jno := by
  have h7 := hO.q
  have w := c1_addQuarrel hF hO.n (p := p) (o := o) h7
  have e : f_addQuarrel (kRw K a b) p o = kRw (kAddQ K p o) (jfu a (K 7 0) p) (jfu b (K 7 0) o) := by
    unfold kAddQ
    rw [kRw_n7, kRw_45]
    unfold f_addQuarrel
    rw [if_neg (show ¬ kRw K a b 7 0 < 0 from (show ¬ K 7 0 < 0 by omega)), if_neg (show ¬ 20 ≤ kRw K a b 7 0 from (show ¬ 20 ≤ K 7 0 by omega))]
    show gn (kRw (kRw K a b) (jfu a (K 7 0) p) (jfu b (K 7 0) o)) 7 (K 7 0 + 1) = _
    unfold kRw
    rw [gs_cm (i := 5) (j := 4) (by decide), gs_gs, gs_gs]
  rw [e] at w
  exact w
theorem kQv_add (hO : jOk B K) (hq : kQv K a b) {p o : Int} : kQv (kAddQ K p o) (jfu a (K 7 0) p) (jfu b (K 7 0) o) := fun q q0 q1 => by
  have q1 : q < K 7 0 + 1 := q1
  show jfu a (K 7 0) p q = jfu (K 4) (K 7 0) p q ∧ jfu b (K 7 0) o q = jfu (K 5) (K 7 0) o q
  by_cases e : q = K 7 0
  · rw [e, jfu_s, jfu_s, jfu_s, jfu_s]; exact ⟨rfl, rfl⟩
  · rw [jfu_n e, jfu_n e, jfu_n e, jfu_n e]; exact hq q q0 (by omega)
end KRW
/-- a copy, whatever stood there -/
theorem k_copyFrom {k : Nat} {F : fS} {h : jH} (hF : jOb sF k F h) {k2 : Nat} {K : fS} {B : Int} {a b : Int → Int} (hd : k + 7 ≤ k2 ∨ k2 + 7 ≤ k) (h2 : jOb sF k2 (kRw K a b) h) (hO : jOk B K) : jM mX1_copyFrom 1 0 0 [] [.ref k, .ref k2] h (fun r h' => r = none ∧ jOb sF k (kRw K a b) h' ∧ jEx k 7 h h') jno := by
  have hF' : jOb sF k (fun i => if i < 11 then F i else kRw K a b i) h := ⟨(show h k = some (jO 1 [.ref (k + 1), .ref (k + 2), .ref (k + 3), .ref (k + 4), .ref (k + 5), .ref (k + 6), iv (F 6 0), iv (F 7 0), iv (F 8 0), iv (F 9 0), iv (F 10 0)]) from hF.1), fun i p t n hi => by
    match i, hi with
    | 0, hi => cases hi; exact hF.a 0 1 0 24 rfl
    | 1, hi => cases hi; exact hF.a 1 2 0 24 rfl
    | 2, hi => cases hi; exact hF.a 2 3 0 24 rfl
    | 3, hi => cases hi; exact hF.a 3 4 1 24 rfl
    | 4, hi => cases hi; exact hF.a 4 5 0 20 rfl
    | 5, hi => cases hi; exact hF.a 5 6 0 20 rfl
    | 6, hi => cases hi
    | 7, hi => cases hi
    | 8, hi => cases hi
    | 9, hi => cases hi
    | 10, hi => cases hi
    | m + 11, hi => simp at hi⟩
  exact c1_copyFrom hF' hd h2 hO.l (fun m x => by show (if m + 11 < 11 then F (m + 11) else kRw K a b (m + 11)) x = _; rw [if_neg (by omega)])
/-- the quarrels from i on that are not within a house -/
noncomputable def qF (K : fS) (i : Int) : List (Int × Int) := (qL (K 4) (K 5) (K 7 0 - i).toNat i).filter (hne (fho K))
theorem qF_0 (K : fS) : qF K 0 = kfl K := by
  unfold qF kfl
  rw [Int.sub_zero]
theorem qF_n {K : fS} : qF K (K 7 0) = [] := by
  unfold qF
  rw [show (K 7 0 - K 7 0).toNat = 0 by omega]
  rfl
theorem qF_t {K : fS} {i : Int} (h : i < K 7 0) (e : fho K (K 4 i) = fho K (K 5 i)) : qF K i = qF K (i + 1) := by
  unfold qF
  rw [fsuc h]
  show List.filter (hne (fho K)) ((K 4 i, K 5 i) :: qL (K 4) (K 5) (K 7 0 - (i + 1)).toNat (i + 1)) = _
  rw [List.filter_cons_of_neg]
  rw [hne_f e]
  decide
theorem qF_f {K : fS} {i : Int} (h : i < K 7 0) (e : ¬ fho K (K 4 i) = fho K (K 5 i)) : qF K i = (K 4 i, K 5 i) :: qF K (i + 1) := by
  unfold qF
  rw [fsuc h]
  show List.filter (hne (fho K)) ((K 4 i, K 5 i) :: qL (K 4) (K 5) (K 7 0 - (i + 1)).toNat (i + 1)) = _
  rw [List.filter_cons_of_pos]
  exact hne_t e
/-- what the rows hold when all from i on have been looked at -/
def qSt (K : fS) (i m : Int) (a b : Int → Int) : Prop :=
  m = i + ((qF K i).length : Int) ∧ (∀ q, 0 ≤ q → q < i → a q = K 4 q ∧ b q = K 5 q) ∧ ∀ (t : Nat) (z : Int × Int), (qF K i)[t]? = some z → a (i + t) = z.1 ∧ b (i + t) = z.2
theorem qSt_0 {K : fS} {a b : Int → Int} (hq : kQv K a b) : qSt K (K 7 0) (K 7 0) a b := by
  refine ⟨by rw [qF_n]; show K 7 0 = K 7 0 + ((0 : Nat) : Int); omega, hq, fun t z hz => ?_⟩
  rw [qF_n] at hz
  simp at hz
theorem qSt_f {K : fS} {i m : Int} {a b : Int → Int} (h : qSt K (i + 1) m a b) (h0 : 0 ≤ i) (hi : i < K 7 0) (e : ¬ fho K (K 4 i) = fho K (K 5 i)) : qSt K i m a b := by
  obtain ⟨h1, h2, h3⟩ := h
  refine ⟨by rw [qF_f hi e, List.length_cons]; omega, fun q q0 q1 => h2 q q0 (by omega), fun t z hz => ?_⟩
  rw [qF_f hi e] at hz
  cases t with
  | zero =>
    have e9 : (K 4 i, K 5 i) = z := by simpa using hz
    have := h2 i h0 (by omega)
    rw [show i + ((0 : Nat) : Int) = i by omega, ← e9]
    exact this
  | succ t =>
    have := h3 t z (by simpa using hz)
    rw [show i + ((t + 1 : Nat) : Int) = i + 1 + (t : Int) by omega]
    exact this
theorem qSt_t {K : fS} {i m : Int} {a b : Int → Int} (h : qSt K (i + 1) m a b) (h0 : 0 ≤ i) (hi : i < K 7 0) (e : fho K (K 4 i) = fho K (K 5 i)) : qSt K i (m - 1) (shf a i m) (shf b i m) := by
  obtain ⟨h1, h2, h3⟩ := h
  refine ⟨by rw [qF_t hi e]; omega, fun q q0 q1 => ?_, fun t z hz => ?_⟩
  · show (if i ≤ q ∧ q + 1 < m then a (q + 1) else a q) = K 4 q ∧ (if i ≤ q ∧ q + 1 < m then b (q + 1) else b q) = K 5 q
    rw [if_neg (by omega), if_neg (by omega)]
    exact h2 q q0 (by omega)
  · rw [qF_t hi e] at hz
    have ht := (List.getElem?_eq_some_iff.mp hz).1
    have := h3 t z hz
    show (if i ≤ i + t ∧ i + (t : Int) + 1 < m then a (i + t + 1) else a (i + t)) = z.1 ∧ (if i ≤ i + t ∧ i + (t : Int) + 1 < m then b (i + t + 1) else b (i + t)) = z.2
    rw [if_pos (by omega), if_pos (by omega), show i + (t : Int) + 1 = i + 1 + (t : Int) by omega]
    exact this
theorem qSt_end {K : fS} {m : Int} {a b : Int → Int} (h : qSt K 0 m a b) : m = ((kfl K).length : Int) ∧ kQv (kEnd K) a b := by
  obtain ⟨h1, h2, h3⟩ := h
  rw [qF_0] at h1 h3
  refine ⟨by omega, fun q q0 q1 => ?_⟩
  have q1 : q < ((kfl K).length : Int) := q1
  have hz : (kfl K)[q.toNat]? = some (kfl K)[q.toNat] := List.getElem?_eq_getElem (by omega)
  obtain ⟨e1, e2⟩ := qA_at q0 hz
  have := h3 q.toNat _ hz
  rw [show (0 : Int) + (q.toNat : Int) = q by omega] at this
  show a q = qA (kfl K) q ∧ b q = qB (kfl K) q
  rw [e1, e2]
  exact this
theorem kEnd_rw {K : fS} {a b : Int → Int} {m e : Int} (hm : m = ((kfl K).length : Int)) (he : e = K 7 0 - ((kfl K).length : Int)) : gn (kRw (gn K 7 m) a b) 8 (K 8 0 + e) = kRw (kEnd K) a b := by
  unfold kEnd kq
  rw [kRw_n8, kRw_n7, kRw_n7, kRw_45, hm, he]
theorem k_rem {K : fS} {a b : Int → Int} {m q : Int} : f_rem (kRw (gn K 7 m) a b) q = kRw (gn K 7 (m - 1)) (shf a q m) (shf b q m) := by
  have e : f_rem (kRw (gn K 7 m) a b) q = gn (gs (gs (kRw (gn K 7 m) a b) 4 (shf a q m)) 5 (shf b q m)) 7 (m - 1) := rfl
  rw [e, kRw_n7, kRw_n7]
  unfold gn kRw
  rw [gs_cm (i := 7) (j := 4) (by decide), gs_cm (i := 7) (j := 5) (by decide), gs_gs, gs_cm (i := 5) (j := 4) (by decide), gs_gs, gs_gs]
