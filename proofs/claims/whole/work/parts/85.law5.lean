/-! DOUBLES -/
theorem fp_e0 : ∀ b : Fin 24, ∀ a : Fin 577, FP.dcmp (FP.ddiv (FP.i2d (Int32.ofInt ((a.val : Nat) : Int))) (FP.i2d (Int32.ofInt ((b.val + 1 : Nat) : Int)))) (FP.ddiv (FP.i2d (Int32.ofInt ((a.val : Nat) : Int))) (FP.i2d (Int32.ofInt ((b.val + 1 : Nat) : Int)))) = some .eq := by decide +kernel
theorem fp_g0 : ∀ b : Fin 24, ∀ a : Fin 25, FP.dcmp (FP.f2d (FP.fdiv (FP.i2f (Int32.ofInt ((a.val : Nat) : Int))) (FP.i2f (Int32.ofInt ((b.val + 1 : Nat) : Int))))) (FP.f2d (FP.fdiv (FP.i2f (Int32.ofInt ((a.val : Nat) : Int))) (FP.i2f (Int32.ofInt ((b.val + 1 : Nat) : Int))))) = some .eq := by decide +kernel
theorem fp_e {a b : Int} (ha : 0 ≤ a ∧ a < 577) (hb : 1 ≤ b ∧ b ≤ 24) : FP.dcmp (FP.ddiv (FP.i2d (Int32.ofInt a)) (FP.i2d (Int32.ofInt b))) (FP.ddiv (FP.i2d (Int32.ofInt a)) (FP.i2d (Int32.ofInt b))) = some .eq := by
  have e := fp_e0 ⟨(b - 1).toNat, by omega⟩ ⟨a.toNat, by omega⟩
  dsimp only at e
  rw [Int.toNat_of_nonneg ha.1, show (((b - 1).toNat + 1 : Nat) : Int) = b by omega] at e
  exact e
theorem fp_g {a b : Int} (ha : 0 ≤ a ∧ a < 25) (hb : 1 ≤ b ∧ b ≤ 24) : FP.dcmp (FP.f2d (FP.fdiv (FP.i2f (Int32.ofInt a)) (FP.i2f (Int32.ofInt b)))) (FP.f2d (FP.fdiv (FP.i2f (Int32.ofInt a)) (FP.i2f (Int32.ofInt b)))) = some .eq := by
  have e := fp_g0 ⟨(b - 1).toNat, by omega⟩ ⟨a.toNat, by omega⟩
  dsimp only at e
  rw [Int.toNat_of_nonneg ha.1, show (((b - 1).toNat + 1 : Nat) : Int) = b by omega] at e
  exact e
theorem ofn_id (x : UInt64) : UInt64.ofNat ((x.toNat : Int)).toNat = x := by
  rw [Int.toNat_natCast]
  exact UInt64.ofNat_toNat
def lD (B : Int) (r : Option Value) (G' : fS) (h2 : jH) (A : UInt64 → Prop) : Prop := ∃ k f, r = some (iv k) ∧ (k = 0 ∨ k = 1) ∧ G' 6 0 = k ∧ h2 221 = some (jA 5 1 f) ∧ (k = 0 → A (UInt64.ofNat (f 0).toNat)) ∧ lW B h2
theorem fdep_s {B : Int} {K : fS} (hO : jOk B K) : 0 ≤ csum (fun c => fdep K c) (K 6 0).toNat ∧ csum (fun c => fdep K c) (K 6 0).toNat < 577 := by
  have hn := hO.n
  have w := csum_big (f := fun c => fdep K c) (b := 24) (fun i => fdep_rg K i) (by decide) (K 6 0).toNat
  omega
theorem liv_s {B : Int} {K : fS} (hO : jOk B K) : 0 ≤ csum (fun c => bi (K 3 c ≠ 0)) (K 6 0).toNat ∧ csum (fun c => bi (K 3 c ≠ 0)) (K 6 0).toNat < 25 := by
  have hn := hO.n
  have w := csum_bi (P := fun c => K 3 c ≠ 0) (K 6 0).toNat
  omega
set_option maxHeartbeats 2000000 in
theorem o_meanDepth {B : Int} {K Ks : fS} {P : Int → fS} {X I : fS} {c : Int} {t : Int → Int} {G : fS} {h : jH} (hI : lI B K Ks P X I c t G h) (hB : B + 31000 ≤ 20000000) (hb : 0 ≤ B) (h220 : ∃ f, h 220 = some (jA 4 1 f)) : jM mL_meanDepth 7 1 6 [300] [.ref 0, .ref 221] h (fun r h1 => (∀ j, 120 ≤ j → j ≠ 221 → h1 j = h j) ∧ (∃ k, r = some (iv k)) ∧ ∃ z, (m_meanDepth G).1 = .double z ∧ ∀ h2, jOb sM 200 (m_meanDepth G).2 h2 → jEx 200 10 h1 h2 → lD (B + 31000) r (m_meanDepth G).2 h2 (fun y => y = z ∧ FP.dcmp z z = some .eq)) jno := by
  obtain ⟨hK, hKI⟩ := hI.k
  obtain ⟨fs, h0⟩ := hI.1.o
  have h300 := hI.2.2.2.2
  obtain ⟨f4, h220⟩ := h220
  have hup : B ≤ B + 31000 ∧ B + 31000 ≤ 20000000 := ⟨by omega, hB⟩
  have hR := hI.2.2.1
  have hC := hI.1
  obtain ⟨f5, h221⟩ := hI.2.2.2.1
  subst hK
  have hO := hKI.1
  have hn := mK_n hO
  have e6 : mK (G 0) 6 0 = G 0 0 := rfl
  refine (w_meanDepth (f := f5) (x_meanDepth hC hKI) h0 (fun r h' z => ?_) (fun E h' z => ?_)).mo fun r h1 w => ?_
  · obtain ⟨rfl, z2, rfl⟩ := z
    exact ⟨⟨_, rfl⟩, h221⟩
  · obtain ⟨rfl, _, rfl⟩ := z; exact ⟨h300, rfl⟩
  · have hu := (hR.rd2 (G' := gn G 6 0) (fun i hi => gs_n (by omega)) rfl rfl).up hup
    have hu1 := (hR.rd2 (G' := gn G 6 1) (fun i hi => gs_n (by omega)) rfl rfl).up hup
    rcases w with ⟨x, v, h', rfl, ⟨z1, z2, rfl⟩, hv, rfl⟩ | ⟨k, E, rfl, hm, ⟨_, z2, rfl⟩⟩
    · have em : m_meanDepth G = (.double (FP.ddiv (FP.i2d (Int32.ofInt (csum (fun c => fdep (mK (G 0)) c) (mK (G 0) 6 0).toNat))) (FP.i2d (Int32.ofInt (mK (G 0) 6 0)))), gn G 6 0) := by unfold m_meanDepth; rw [if_neg (show ¬ G 0 0 = 0 from z2)]; rfl
      have hx : x = FP.ddiv (FP.i2d (Int32.ofInt (csum (fun c => fdep (mK (G 0)) c) (mK (G 0) 6 0).toNat))) (FP.i2d (Int32.ofInt (mK (G 0) 6 0))) := by
        rcases hv with q | ⟨y, q, q2⟩
        · rw [q] at z1; exact (Value.double.inj (Option.some.inj z1))
        · rw [q] at z1; exact absurd (Option.some.inj z1) (fun w => by cases w)
      rw [em]
      refine ⟨fun j j0 j1 => jup_n j1 rfl, ⟨_, rfl⟩, _, rfl, fun h2 hG hE => ?_⟩
      have g : ∀ j, j < 200 ∨ (210 ≤ j ∧ j ≠ 221) → h2 j = h j := fun j hj => (hE j (by omega)).trans (jup_n (by omega) rfl)
      have g1 := (hE 221 (by decide)).trans (jup_s (h := h) (k := 221))
      refine ⟨0, _, rfl, .inl rfl, rfl, g1, fun _ => ?_, _, _, _, _, _, _, _, _, ⟨hC.eq fun j j0 => g j (by omega), hG, hu, ⟨_, g1⟩, (g 300 (by decide)).trans h300⟩, _, (g 220 (by decide)).trans h220⟩
      show (fun y => y = (FP.ddiv (FP.i2d (Int32.ofInt (csum (fun c => fdep (mK (G 0)) c) (mK (G 0) 6 0).toNat))) (FP.i2d (Int32.ofInt (mK (G 0) 6 0)))) ∧ FP.dcmp (FP.ddiv (FP.i2d (Int32.ofInt (csum (fun c => fdep (mK (G 0)) c) (mK (G 0) 6 0).toNat))) (FP.i2d (Int32.ofInt (mK (G 0) 6 0)))) (FP.ddiv (FP.i2d (Int32.ofInt (csum (fun c => fdep (mK (G 0)) c) (mK (G 0) 6 0).toNat))) (FP.i2d (Int32.ofInt (mK (G 0) 6 0)))) = some .eq) (UInt64.ofNat (jfu f5 0 (x.toNat : Int) 0).toNat)
      rw [jfu_s, ofn_id, hx]
      have w := fdep_s hO
      exact ⟨rfl, fp_e w (by omega)⟩
    · simp only [List.mem_singleton, Prod.mk.injEq] at hm
      have em : m_meanDepth G = (.double FP.dconst0, gn G 6 1) := by unfold m_meanDepth; rw [if_pos (show G 0 0 = 0 from z2)]
      rw [em, hm.1]
      refine ⟨fun _ _ _ => rfl, ⟨_, rfl⟩, _, rfl, fun h2 hG hE => ?_⟩
      have g : ∀ j, j < 200 ∨ 210 ≤ j → h2 j = h j := fun j hj => hE j (by omega)
      exact ⟨1, f5, rfl, .inr rfl, rfl, (g 221 (by decide)).trans h221, fun q => absurd q (by decide), _, _, _, _, _, _, _, _, ⟨hC.eq fun j j0 => g j (by omega), hG, hu1, ⟨_, (g 221 (by decide)).trans h221⟩, (g 300 (by decide)).trans h300⟩, _, (g 220 (by decide)).trans h220⟩
set_option maxHeartbeats 2000000 in
theorem o_livingShare {B : Int} {K Ks : fS} {P : Int → fS} {X I : fS} {c : Int} {t : Int → Int} {G : fS} {h : jH} (hI : lI B K Ks P X I c t G h) (hB : B + 31000 ≤ 20000000) (hb : 0 ≤ B) (h220 : ∃ f, h 220 = some (jA 4 1 f)) : jM mL_livingShare 7 1 6 [300] [.ref 0, .ref 221] h (fun r h1 => (∀ j, 120 ≤ j → j ≠ 221 → h1 j = h j) ∧ (∃ k, r = some (iv k)) ∧ ∃ z, (m_livingShare G).1 = .float z ∧ ∀ h2, jOb sM 200 (m_livingShare G).2 h2 → jEx 200 10 h1 h2 → lD (B + 31000) r (m_livingShare G).2 h2 (fun y => y = FP.f2d z ∧ vf_n64 (FP.f2d z) ∧ FP.dcmp (FP.f2d z) (FP.f2d z) = some .eq)) jno := by
  obtain ⟨hK, hKI⟩ := hI.k
  obtain ⟨fs, h0⟩ := hI.1.o
  have h300 := hI.2.2.2.2
  obtain ⟨f4, h220⟩ := h220
  have hup : B ≤ B + 31000 ∧ B + 31000 ≤ 20000000 := ⟨by omega, hB⟩
  have hR := hI.2.2.1
  have hC := hI.1
  obtain ⟨f5, h221⟩ := hI.2.2.2.1
  subst hK
  have hO := hKI.1
  have hn := mK_n hO
  have e6 : mK (G 0) 6 0 = G 0 0 := rfl
  refine (w_livingShare (f := f5) (x_livingShare hC hKI) h0 (fun r h' z => ?_) (fun E h' z => ?_)).mo fun r h1 w => ?_
  · obtain ⟨rfl, z2, rfl⟩ := z
    exact ⟨⟨_, rfl⟩, h221, fun x hx => by cases hx; exact (fp_f (liv_s hO) (by omega)).2⟩
  · obtain ⟨rfl, _, rfl⟩ := z; exact ⟨h300, rfl⟩
  · have hu := (hR.rd2 (G' := gn G 6 0) (fun i hi => gs_n (by omega)) rfl rfl).up hup
    have hu1 := (hR.rd2 (G' := gn G 6 1) (fun i hi => gs_n (by omega)) rfl rfl).up hup
    rcases w with ⟨x, v, h', rfl, ⟨z1, z2, rfl⟩, hv, rfl⟩ | ⟨k, E, rfl, hm, ⟨_, z2, rfl⟩⟩
    · have em : m_livingShare G = (.float (FP.fdiv (FP.i2f (Int32.ofInt (csum (fun c => bi (mK (G 0) 3 c ≠ 0)) (mK (G 0) 6 0).toNat))) (FP.i2f (Int32.ofInt (mK (G 0) 6 0)))), gn G 6 0) := by unfold m_livingShare; rw [if_neg (show ¬ G 0 0 = 0 from z2), csum_3 hO]; rfl
      have hx : x = FP.f2d (FP.fdiv (FP.i2f (Int32.ofInt (csum (fun c => bi (mK (G 0) 3 c ≠ 0)) (mK (G 0) 6 0).toNat))) (FP.i2f (Int32.ofInt (mK (G 0) 6 0)))) := by
        rcases hv with q | ⟨y, q, q2⟩
        · rw [q] at z1; exact absurd (Option.some.inj z1) (fun w => by cases w)
        · rw [q] at z1; rw [q2, Value.float.inj (Option.some.inj z1)]
      rw [em]
      refine ⟨fun j j0 j1 => jup_n j1 rfl, ⟨_, rfl⟩, _, rfl, fun h2 hG hE => ?_⟩
      have g : ∀ j, j < 200 ∨ (210 ≤ j ∧ j ≠ 221) → h2 j = h j := fun j hj => (hE j (by omega)).trans (jup_n (by omega) rfl)
      have g1 := (hE 221 (by decide)).trans (jup_s (h := h) (k := 221))
      refine ⟨0, _, rfl, .inl rfl, rfl, g1, fun _ => ?_, _, _, _, _, _, _, _, _, ⟨hC.eq fun j j0 => g j (by omega), hG, hu, ⟨_, g1⟩, (g 300 (by decide)).trans h300⟩, _, (g 220 (by decide)).trans h220⟩
      show (fun y => y = FP.f2d (FP.fdiv (FP.i2f (Int32.ofInt (csum (fun c => bi (mK (G 0) 3 c ≠ 0)) (mK (G 0) 6 0).toNat))) (FP.i2f (Int32.ofInt (mK (G 0) 6 0)))) ∧ vf_n64 (FP.f2d (FP.fdiv (FP.i2f (Int32.ofInt (csum (fun c => bi (mK (G 0) 3 c ≠ 0)) (mK (G 0) 6 0).toNat))) (FP.i2f (Int32.ofInt (mK (G 0) 6 0))))) ∧ FP.dcmp (FP.f2d (FP.fdiv (FP.i2f (Int32.ofInt (csum (fun c => bi (mK (G 0) 3 c ≠ 0)) (mK (G 0) 6 0).toNat))) (FP.i2f (Int32.ofInt (mK (G 0) 6 0))))) (FP.f2d (FP.fdiv (FP.i2f (Int32.ofInt (csum (fun c => bi (mK (G 0) 3 c ≠ 0)) (mK (G 0) 6 0).toNat))) (FP.i2f (Int32.ofInt (mK (G 0) 6 0))))) = some .eq) (UInt64.ofNat (jfu f5 0 (x.toNat : Int) 0).toNat)
      rw [jfu_s, ofn_id, hx]
      have w := liv_s hO
      exact ⟨rfl, (fp_f w (by omega)).2, fp_g w (by omega)⟩
    · simp only [List.mem_singleton, Prod.mk.injEq] at hm
      have em : m_livingShare G = (.float FP.fconst0, gn G 6 1) := by unfold m_livingShare; rw [if_pos (show G 0 0 = 0 from z2)]
      rw [em, hm.1]
      refine ⟨fun _ _ _ => rfl, ⟨_, rfl⟩, _, rfl, fun h2 hG hE => ?_⟩
      have g : ∀ j, j < 200 ∨ 210 ≤ j → h2 j = h j := fun j hj => hE j (by omega)
      exact ⟨1, f5, rfl, .inr rfl, rfl, (g 221 (by decide)).trans h221, fun q => absurd q (by decide), _, _, _, _, _, _, _, _, ⟨hC.eq fun j j0 => g j (by omega), hG, hu1, ⟨_, (g 221 (by decide)).trans h221⟩, (g 300 (by decide)).trans h300⟩, _, (g 220 (by decide)).trans h220⟩
