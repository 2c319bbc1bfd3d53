theorem goodIn_r {big : List Cond} (ws : List Cond) (ps : List Nat) (hp : ws = ps.filterMap (fun i => big[i]?)) (h : ws.all goodWord = true) : GoodIn big ws := by
  intro w hw
  have h1 := List.all_eq_true.mp h w hw
  rw [hp] at hw
  obtain ⟨i, -, hi⟩ := List.mem_filterMap.mp hw
  have hm : w ∈ big := by first | exact List.mem_of_getElem? hi | exact List.getElem?_mem hi
  exact ⟨hm, good_of_word h1⟩
section JH1
theorem jin_0 : GoodIn lw_tbl (u_ws RX0 TX0 2) := goodIn_r _ [143, 145] (by decide +kernel) (by decide +kernel)
theorem jin_1 : GoodIn lw_tbl (u_ws RX1 TX1 11) := goodIn_r _ [109, 111, 113, 115, 117, 119, 121, 123, 125, 127, 129] (by decide +kernel) (by decide +kernel)
theorem jin_2 : GoodIn lw_tbl (u_ws RX2 TX2 2) := goodIn_r _ [156, 158] (by decide +kernel) (by decide +kernel)
theorem jin_3 : GoodIn lw_tbl (u_ws RX3 TX3 7) := goodIn_r _ [176, 178, 180, 182, 184, 186, 188] (by decide +kernel) (by decide +kernel)
theorem jin_4 : GoodIn lw_tbl (u_ws RX4 TX4 13) := goodIn_r _ [238, 240, 242, 244, 246, 248, 250, 252, 254, 256, 258, 260, 262] (by decide +kernel) (by decide +kernel)
theorem jin_5 : GoodIn lw_tbl (u_ws RJ0 TJ0 4) := goodIn_r _ [672, 674, 1104, 1106] (by decide +kernel) (by decide +kernel)
theorem jin_6 : GoodIn lw_tbl (u_ws RJ4 TJ4 4) := goodIn_r _ [215, 217, 219, 221] (by decide +kernel) (by decide +kernel)
theorem jw_in {ws : List Cond} (hg : GoodIn lw_tbl ws) (hw : ws.all goodWord = true) : ∀ w ∈ ws, w ∈ jWL := fun w h => List.mem_filter.mpr ⟨List.mem_append_left _ (hg w h).1, List.all_eq_true.mp hw w h⟩
/-- of each class: its layout's words, its fields' types and names -/
theorem jcl_ok : ∀ (ci : Nat) (q : vw_C), jcl[ci]? = some q → (∀ w ∈ u_ws q.1 q.2.1 q.2.2, w ∈ jWL) ∧ (∃ ty : Nat → FieldType, ∀ k, k < q.2.2 → parseFieldDescriptor (q.2.1 k).2.2.1 = some (ty k)) ∧ ∀ a, a < q.2.2 → ∀ b, b < q.2.2 → a ≠ b → (q.2.1 a).2.1 ≠ (q.2.1 b).2.1
  | 0, q, hq => by cases hq; exact ⟨jw_in jin_0 (by decide +kernel), ⟨tyX0, tyX0_ok⟩, nmX0⟩
  | 1, q, hq => by cases hq; exact ⟨jw_in jin_1 (by decide +kernel), ⟨tyX1, tyX1_ok⟩, nmX1⟩
  | 2, q, hq => by cases hq; exact ⟨jw_in jin_2 (by decide +kernel), ⟨tyX2, tyX2_ok⟩, nmX2⟩
  | 3, q, hq => by cases hq; exact ⟨jw_in jin_3 (by decide +kernel), ⟨tyX3, tyX3_ok⟩, nmX3⟩
  | 4, q, hq => by cases hq; exact ⟨jw_in jin_4 (by decide +kernel), ⟨tyX4, tyX4_ok⟩, nmX4⟩
  | 5, q, hq => by cases hq; exact ⟨jw_in jin_5 (by decide +kernel), ⟨tyJ0, tyJ0_ok⟩, nmJ0⟩
  | 6, q, hq => by cases hq; exact ⟨jw_in jin_6 (by decide +kernel), ⟨tyJ4, tyJ4_ok⟩, nmJ4⟩
  | n + 7, q, hq => by simp at hq
/-- the pool's entry idx of own is the field k of the class ci -/
def jF (own : String) (idx ci k : Nat) : Prop := ∃ q : vw_C, jcl[ci]? = some q ∧ k < q.2.2 ∧ Cond.fieldLink own idx (q.2.1 k).1 (q.2.1 k).2.1 (q.2.1 k).2.2.1 ∈ jWL
theorem jW.set {D : va_G} {cy : Nat → ClassId} {ad : Nat → Nat} {bs k : Nat} {h : jH} {H H1 : Heap} {c0 c : jC} (hW : jW D cy ad bs h H) (hk : h k = some c0) (hz : H1.size = H.size) (he : va_at D jcl (ad k, jE cy ad c) H1) (oq : ∀ q : Nat, q ≠ ad k → H1[q]? = H[q]?) (hcl : ∀ k' : Nat, jref c k' → h k' ≠ none) : jW D cy ad bs (jup h k c) H1 := by
  obtain ⟨h1, h2, h3, h4, h5⟩ := hW
  have hne2 : ∀ j, h j ≠ none → jup h k c j ≠ none := by
    intro j hj
    by_cases hjk : j = k
    · rw [hjk, jup_s]; exact fun q => by cases q
    · rw [jup_n hjk rfl]; exact hj
  have hne : ∀ j, jup h k c j ≠ none → h j ≠ none := by
    intro j hj
    by_cases hjk : j = k
    · rw [hjk, hk]; exact fun q => by cases q
    · rw [jup_n hjk rfl] at hj; exact hj
  refine ⟨by rw [hz]; exact h1, fun j cj hj => ?_, fun i j hi hj => h3 i j (hne i hi) (hne j hj), fun j hj => h4 j (hne j hj), fun j cj hj k' hr => hne2 k' ?_⟩
  by_cases hjk : j = k
  · subst hjk
    rw [jup_s] at hj
    cases hj
    exact he
  · have hj' : h j = some cj := by rw [jup_n hjk rfl] at hj; exact hj
    exact (h2 j cj hj').kept (oq _ (fun q => hjk (h3 j k (by rw [hj']; exact fun z => by cases z) (by rw [hk]; exact fun z => by cases z) q)))
  · by_cases hjk : j = k
    · subst hjk
      rw [jup_s] at hj
      cases hj
      exact hcl k' hr
    · exact h5 j cj (by rw [jup_n hjk rfl] at hj; exact hj) k' hr
/-- an int beside the others points at nothing -/
theorem jref_set {fs : List Value} {k k' : Nat} {v : Value} (hr : Value.ref k' ∈ fs.set k v) : Value.ref k' ∈ fs ∨ v = .ref k' := by
  rcases List.mem_or_eq_of_mem_set hr with h1 | h1
  · exact Or.inl h1
  · exact Or.inr h1.symm
variable {M : jMe} {R : Room} {nw : List Nat} {Z : jFin} {pc pc' : Nat} {L L' : List (Nat × Value)} {st st' : List Value} {h h' : jH} {nc ns nc' ns' : Nat}
/-- rows that write a cell -/
theorem J.ofH {k : Nat} {c0 c : jC} (hk : h k = some c0) (hcl : jCl h → ∀ k' : Nat, jref c k' → h k' ≠ none) (kk : J M R nw Z pc' L st' (jup h k c) nc ns)
    (f : ∀ (p : Program) (l : Launch) (e : Env) (s : State) (m : MethodId) (args : Array Value) (below : List Frame) (meth : Method) (c9 : Code) (H : Heap) (locs : List Loc) (ls : Array Slot) (D : va_G) (cy : Nat → ClassId) (ad ad0 : Nat → Nat) (bs : Nat) (Q : State → Prop), jX M nw L h p l s m args meth c9 H locs ls D cy ad ad0 bs →
      va_at D jcl (ad k, jE cy ad c0) H →
      (∀ (H1 : Heap) (sl : Nat), va_at D jcl (ad k, jE cy ad c) H1 → H1.size = H.size → (∀ q : Nat, q ≠ ad k → H1[q]? = H[q]?) → W p l e R s m args below meth c9 H1 (locs ++ [⟨ad k, sl⟩]) nc ns Q (F0 m pc' ls (st'.map (jv ad)))) →
      W p l e R s m args below meth c9 H locs nc ns Q (F0 m pc ls (st.map (jv ad)))) : J M R nw Z pc L st h nc ns := by
  intro p l e s m args below meth c9 H locs ls D cy ad ad0 bs hX
  obtain ⟨x1, x2, x3, x4, x5, x6, x7, x8, x9⟩ := id hX
  refine f p l e s m args below meth c9 H locs ls D cy ad ad0 bs _ hX (x6.2.1 k c0 hk) fun H1 sl he hz oq => ?_
  exact kk p l e s m args below meth c9 H1 _ ls D cy ad ad0 bs ⟨x1, x2, x3, x4, x5.put hz oq (x6.2.2.2.1 k (by rw [hk]; exact fun z => by cases z)), x6.set hk hz he oq (hcl x6.2.2.2.2), x7, x8, x9⟩
theorem jE_o (cy : Nat → ClassId) (ad : Nat → Nat) (ci : Nat) (fs : List Value) : jE cy ad (jO ci fs) = .inr (ci, fs.map (jv ad)) := rfl
theorem j_fd {own : String} {idx ci k : Nat} (hF : jF own idx ci k) : ∃ q : vw_C, jcl[ci]? = some q ∧ k < q.2.2 ∧ Cond.fieldLink own idx (q.2.1 k).1 (q.2.1 k).2.1 (q.2.1 k).2.2.1 ∈ jWL := hF
theorem j_getfield {a idx ci k : Nat} {fs : List Value} {v : Value} (hd : decode M.2.1 pc = .ok (.getfield idx, 3)) (hF : jF M.1.cls idx ci k) (ha : h a = some (jO ci fs)) (hv : fs[k]? = some v) (kk : J M R nw Z (pc + 3) L (v :: st) h nc ns) : J M R nw Z pc L (.ref a :: st) h nc ns := by
  intro p l e s m args below meth c H locs ls D cy ad ad0 bs hX
  have w := kk p l e s m args below meth c H locs ls D cy ad ad0 bs hX
  obtain ⟨⟨y1, y2, y3, y4, y5⟩, x2, x3, x4, x5, x6, -⟩ := hX
  obtain ⟨⟨C, T, N⟩, hq, hkN, hl⟩ := j_fd hF
  have hP : va_P D jcl [(ad a, jE cy ad (jO ci fs))] H := fun k9 q9 h9 => by
    have : k9 = 0 := by
      have := (List.getElem?_eq_some_iff.mp h9).1
      simp at this; omega
    subst this
    cases h9
    exact x6.2.1 a _ ha
  exact va_get (D := D) (cl := jcl) (tys := jtys cy) (ws := [(ad a, jE cy ad (jO ci fs))]) y1 y2 y5 (jcl_ok ci _ hq).1 y4 x4 hP 0 rfl hq k hkN (y5 _ hl) (fun _ h9 => h9) (v := jv ad v) (by rw [List.getElem?_map, hv]; rfl) hd w
theorem jfits_int (x : Int) : narrow .int (iv x) = iv x ∧ fits .int (iv x) = true := ⟨rfl, rfl⟩
/-- what a field of this type can hold -/
def jHold (ty : FieldType) (v : Value) : Prop := ∀ ad : Nat → Nat, narrow ty (jv ad v) = jv ad v ∧ fits ty (jv ad v) = true
theorem jHold_int (x : Int) : jHold .int (iv x) := fun _ => ⟨rfl, rfl⟩
theorem jHold_bool {x : Int} (hx : x = 0 ∨ x = 1) : jHold .boolean (iv x) := by
  rcases hx with rfl | rfl <;> exact fun _ => ⟨rfl, rfl⟩
theorem jHold_obj (C : String) (a : Nat) : jHold (.object C) (.ref a) := fun _ => ⟨rfl, rfl⟩
theorem jHold_arr (t : FieldType) (a : Nat) : jHold (.array t) (.ref a) := fun _ => ⟨rfl, rfl⟩
theorem j_putfield {a idx ci k : Nat} {fs fs' : List Value} {v : Value} {ty : FieldType} (hd : decode M.2.1 pc = .ok (.putfield idx, 3)) (hF : jF M.1.cls idx ci k) (hT : ∀ q : vw_C, jcl[ci]? = some q → (q.2.1 k).2.2.2 = false ∧ parseFieldDescriptor (q.2.1 k).2.2.1 = some ty) (hv : jHold ty v) (hvr : ∀ k' : Nat, v = .ref k' → h k' ≠ none) (ha : h a = some (jO ci fs)) (hk : k < fs.length) (hs : fs.set k v = fs') (kk : J M R nw Z (pc + 3) L st (jup h a (jO ci fs')) nc ns) : J M R nw Z pc L (v :: .ref a :: st) h nc ns := by
  refine J.ofH ha (fun hC k' hr => by
    subst hs
    rcases jref_set (show Value.ref k' ∈ fs.set k v from hr) with h1 | h1
    · exact hC a _ ha k' h1
    · exact hvr k' h1) kk fun p l e s m args below meth c H locs ls D cy ad ad0 bs Q hX hat w => ?_
  subst hs
  obtain ⟨⟨y1, y2, y3, y4, y5⟩, x2, x3, x4, x5, x6, -⟩ := hX
  obtain ⟨⟨C, T, N⟩, hq, hkN, hl⟩ := j_fd hF
  obtain ⟨hin, ⟨ty0, hty⟩, hnm⟩ := jcl_ok ci _ hq
  obtain ⟨hfin, hd0⟩ := hT _ hq
  have hap := va_apart (own := M.1.cls) (cl := jcl) (tys := jtys cy) y5 hin ty0 hty hnm x4 hq
  obtain ⟨r, h1, cell, q1, q2, q3, q4⟩ := hat
  have hr : r = (C, T, N) := Option.some.inj (h1.symm.trans hq)
  subst hr
  obtain ⟨hS, hfc, kC, hkC, hkind⟩ := x4.1 ci _ hq
  obtain ⟨cf, kf, fi, f, hi, hsl⟩ := hS k hkN
  have hlay := y5 _ (hin _ (u_in_lay hkN))
  unfold u_lay at hlay
  rw [if_neg (by rw [hfin]; decide)] at hlay
  have hst := (u_facts hfc hkC (u_lays y5 hin hkN) hi).1
  have h6 := u_store hfc hkC hkind hlay hi hd0 (hv ad).1 (hv ad).2
  refine W.putK y1 y2 (f := f) ⟨y4, y5 _ hl, ⟨_, _, _, hi⟩, hst⟩ (by rw [q2]; exact h6) q1 q3 (by rw [hsl]; exact k2_hasslot (q4 k hkN)) rfl rfl hd fun H' e1 e2 e3 => ?_
  rw [hsl] at e1
  refine w H' f.slot ?_ e2 e3
  show va_at D jcl (ad a, .inr (ci, (fs.set k v).map (jv ad))) H'
  refine ⟨_, hq, t_OB.to (V := updV (vp_V (fs.map (jv ad))) k (jv ad v)) ⟨_, e1, q2, q3, t_set q4 hap hkN _⟩ (fun j _ => ?_)⟩
  rw [List.map_set]
  exact vp_updV_set (by rw [List.length_map]; exact hk) _ j
theorem j_putfieldF {a idx ci k : Nat} {fs fs' : List Value} {v : Value} {ty : FieldType} (hd : decode M.2.1 pc = .ok (.putfield idx, 3)) (hF : jF M.1.cls idx ci k) (hT : ∀ q : vw_C, jcl[ci]? = some q → (q.2.1 k).2.2.2 = true ∧ (q.2.1 k).1 = M.1.cls ∧ parseFieldDescriptor (q.2.1 k).2.2.1 = some ty) (hini : M.1.name = "<init>") (hv : jHold ty v) (hvr : ∀ k' : Nat, v = .ref k' → h k' ≠ none) (ha : h a = some (jO ci fs)) (hk : k < fs.length) (hs : fs.set k v = fs') (kk : J M R nw Z (pc + 3) L st (jup h a (jO ci fs')) nc ns) : J M R nw Z pc L (v :: .ref a :: st) h nc ns := by
  refine J.ofH ha (fun hC k' hr => by
    subst hs
    rcases jref_set (show Value.ref k' ∈ fs.set k v from hr) with h1 | h1
    · exact hC a _ ha k' h1
    · exact hvr k' h1) kk fun p l e s m args below meth c H locs ls D cy ad ad0 bs Q hX hat w => ?_
  subst hs
  obtain ⟨⟨y1, y2, y3, y4, y5⟩, ⟨-, -, x2, -⟩, x3, x4, x5, x6, -⟩ := hX
  obtain ⟨⟨C, T, N⟩, hq, hkN, hl⟩ := j_fd hF
  obtain ⟨hin, ⟨ty0, hty⟩, hnm⟩ := jcl_ok ci _ hq
  obtain ⟨hfin, hdecl, hd0⟩ := hT _ hq
  have hap := va_apart (own := M.1.cls) (cl := jcl) (tys := jtys cy) y5 hin ty0 hty hnm x4 hq
  obtain ⟨r, h1, cell, q1, q2, q3, q4⟩ := hat
  have hr : r = (C, T, N) := Option.some.inj (h1.symm.trans hq)
  subst hr
  obtain ⟨hS, hfc, kC, hkC, hkind⟩ := x4.1 ci _ hq
  obtain ⟨cf, kf, fi, f, hi, hsl⟩ := hS k hkN
  have hlay := y5 _ (hin _ (u_in_lay hkN))
  unfold u_lay at hlay
  rw [if_pos hfin] at hlay
  have hst := (u_facts hfc hkC (u_lays y5 hin hkN) hi).1
  have hcf : m.cls = cf := by
    obtain ⟨_, _, c', _, _, _, -, -, hf', -, -, -, hown2, -⟩ := Cond.laysFinal_spec hlay
    have e1 : c' = cf := by have := hi.symm.trans hf'; simp at this; exact this.1.symm
    rw [hdecl] at hown2
    rw [← e1]; exact Option.some.inj (y4.symm.trans hown2)
  have h6 := u_fits hfc hkC hkind (Or.inr hlay) hi hd0 (hv ad).1 (hv ad).2
  refine W.putFinK y1 y2 y4 (y5 _ hl) hi hst hcf (by rw [x2]; exact hini) (by rw [q2]; exact h6) q1 q3 (by rw [hsl]; exact k2_hasslot (q4 k hkN)) rfl rfl hd fun H' e1 e2 e3 => ?_
  rw [hsl] at e1
  refine w H' f.slot ?_ e2 e3
  show va_at D jcl (ad a, .inr (ci, (fs.set k v).map (jv ad))) H'
  refine ⟨_, hq, t_OB.to (V := updV (vp_V (fs.map (jv ad))) k (jv ad v)) ⟨_, e1, q2, q3, t_set q4 hap hkN _⟩ (fun j _ => ?_)⟩
  rw [List.map_set]
  exact vp_updV_set (by rw [List.length_map]; exact hk) _ j
theorem iv_ref {x : Int} {k' : Nat} (q : iv x = .ref k') : False := by cases q
theorem j_putI {a idx ci k : Nat} {fs fs' : List Value} {x : Int} {ty : FieldType} (hd : decode M.2.1 pc = .ok (.putfield idx, 3)) (hF : jF M.1.cls idx ci k) (hT : ∀ q : vw_C, jcl[ci]? = some q → (q.2.1 k).2.2.2 = false ∧ parseFieldDescriptor (q.2.1 k).2.2.1 = some ty) (hv : jHold ty (iv x)) (ha : h a = some (jO ci fs)) (hk : k < fs.length) (hs : fs.set k (iv x) = fs') (kk : J M R nw Z (pc + 3) L st (jup h a (jO ci fs')) nc ns) : J M R nw Z pc L (iv x :: .ref a :: st) h nc ns :=
  j_putfield hd hF hT hv (fun _ q => (iv_ref q).elim) ha hk hs kk
end JH1
