section JE1
variable {M : jMe} {R : Room} {nw : List Nat} {Z : jFin} {pc pc' : Nat} {L L' : List (Nat × Value)} {st st' : List Value} {h h' : jH} {nc ns nc' ns' mc ms : Nat} {Pn : jPn} {Px : jPx}
/-- the end of a method, with r to hand back -/
theorem J.ofR {r : Option Value} {lsT : List Value} (hp : Pn r h) (hc : nc ≤ mc) (hs : ns ≤ ms)
    (f : ∀ (p : Program) (l : Launch) (e : Env) (s : State) (m : MethodId) (args : Array Value) (below : List Frame) (meth : Method) (c : Code) (H : Heap) (locs : List Loc) (ls : Array Slot) (ad : Nat → Nat) (Qc : Array Value → State → Outcome → State → Prop) (free : Addr → Prop), p.tables.exec = Jvm.exec → c.code = M.2.1 → meth.sig.returnType = M.2.2.2.1 → meth.locks = false →
      (∀ t : State, t.heap = H → s.WarmedH t.vm → Qc args s (.returned (r.map (jv ad))) t) → (∀ q ∈ locs, free q.base) → W p l e R s m args below meth c H locs mc ms (MQ below Qc args s mc ms free) (F0 m pc ls (lsT.map (jv ad)))) :
    J M R nw (jZ nw mc ms Pn Px) pc L lsT h nc ns := by
  intro p l e s m args below meth c H locs ls D cy ad ad0 bs hX
  obtain ⟨⟨y1, y2, y3, y4, y5⟩, ⟨z1, z2, z3, z4, z5⟩, x3, x4, x5, x6, x7, x8, x9, x10⟩ := hX
  refine vx_ret (W.widen hc hs (f p l e s m args below meth c H locs ls ad _ _ y1 y2 z1 z2 (fun t ht hW => ?_) (fun q hq => x5.2.2 q hq)))
  exact ⟨r, h, ad, rfl, hp, by rw [ht]; exact x6, x7, x5.F ht⟩
theorem j_ireturn {x : Int} {ty : FieldType} (hd : decode M.2.1 pc = .ok (.ireturn, 1)) (hr : M.2.2.2.1 = some ty) (hn : narrow ty (iv x) = iv x) (hp : Pn (some (iv x)) h) (hc : nc ≤ mc) (hs : ns ≤ ms) : J M R nw (jZ nw mc ms Pn Px) pc L [iv x] h nc ns :=
  J.ofR hp hc hs fun _ _ _ _ _ _ _ _ _ _ _ _ _ _ _ hx hb ht hl q1 q2 => W.zret hx hb (ht.trans hr) hn q1 q2 hd hl
theorem j_return (hd : decode M.2.1 pc = .ok (.return_, 1)) (hr : M.2.2.2.1 = none) (hp : Pn none h) (hc : nc ≤ mc) (hs : ns ≤ ms) : J M R nw (jZ nw mc ms Pn Px) pc L [] h nc ns :=
  J.ofR hp hc hs fun _ _ _ _ _ _ _ _ _ _ _ _ _ _ _ hx hb ht hl q1 q2 => W.vret hx hb (ht.trans hr) q1 q2 hd hl
theorem j_areturn {k : Nat} {ty : FieldType} (hd : decode M.2.1 pc = .ok (.areturn, 1)) (hr : M.2.2.2.1 = some ty) (hty : (∃ n, ty = .object n) ∨ ∃ t, ty = .array t) (hp : Pn (some (.ref k)) h) (hc : nc ≤ mc) (hs : ns ≤ ms) : J M R nw (jZ nw mc ms Pn Px) pc L [.ref k] h nc ns :=
  J.ofR hp hc hs fun _ _ _ _ _ _ _ _ _ _ _ _ ad _ _ hx hb ht hl q1 q2 => W.aret (v := .ref (ad k)) hx hb (ht.trans hr) hty (Or.inr ⟨_, rfl⟩) q1 q2 hd hl
theorem j_areturnN {ty : FieldType} (hd : decode M.2.1 pc = .ok (.areturn, 1)) (hr : M.2.2.2.1 = some ty) (hty : (∃ n, ty = .object n) ∨ ∃ t, ty = .array t) (hp : Pn (some .null) h) (hc : nc ≤ mc) (hs : ns ≤ ms) : J M R nw (jZ nw mc ms Pn Px) pc L [.null] h nc ns :=
  J.ofR hp hc hs fun _ _ _ _ _ _ _ _ _ _ _ _ _ _ _ hx hb ht hl q1 q2 => W.aret (v := .null) hx hb (ht.trans hr) hty (Or.inl rfl) q1 q2 hd hl
theorem j_dreturn {x : UInt64} (hd : decode M.2.1 pc = .ok (.dreturn, 1)) (hr : M.2.2.2.1 = some .double) (hp : Pn (some (.double x)) h) (hc : nc ≤ mc) (hs : ns ≤ ms) : J M R nw (jZ nw mc ms Pn Px) pc L [.double x] h nc ns :=
  J.ofR hp hc hs fun _ _ _ _ _ _ _ _ _ _ _ _ _ _ _ hx hb ht hl q1 q2 => W.dret hx hb (ht.trans hr) q1 q2 hd hl
theorem j_freturn {x : UInt32} (hd : decode M.2.1 pc = .ok (.freturn, 1)) (hr : M.2.2.2.1 = some .float) (hp : Pn (some (.float x)) h) (hc : nc ≤ mc) (hs : ns ≤ ms) : J M R nw (jZ nw mc ms Pn Px) pc L [.float x] h nc ns :=
  J.ofR hp hc hs fun _ _ _ _ _ _ _ _ _ _ _ _ _ _ _ hx hb ht hl q1 q2 => W.fret hx hb (ht.trans hr) q1 q2 hd hl
/-- not caught here -/
theorem j_out {E : String} (ht : M.2.2.2.2.1 = []) (hp : Px E h) (hc : nc ≤ mc) (hs : ns ≤ ms) : JT M R nw (jZ nw mc ms Pn Px) pc L h nc ns E := by
  intro p l e s m args below meth c H locs ls D cy ad ad0 bs hX rest q ce h1 h2 h3
  obtain ⟨⟨y1, y2, y3, y4, y5⟩, ⟨z1, z2, z3, z4, z5⟩, x3, x4, x5, x6, x7, x8, x9, x10⟩ := hX
  refine vx_out (E := E) (ce := ce) (fun x hx => ?_) z2 h1 h2 h3 (fun t ht hW => ⟨h, ad, hp, by rw [ht]; exact x6, x7, x5.F ht⟩) (fun z hz => x5.2.2 z hz) hc hs
  rw [z5, ht] at hx
  cases hx
/-- 'throw new E("text")' -/
def jTh (own : String) (ik is ic : Nat) (cls text : String) : Prop :=
  Bundle.fit cls = true ∧ ((cls, cls) ∈ jCst ∧ ∀ w ∈ (vx_atS own ic cls ["java/lang/RuntimeException", "java/lang/Exception"]).filter (fun w => decide (w ≠ .castable cls cls)), w ∈ jWL) ∧ (own, is, text) ∈ jStrs ∧ Cond.classLink own ik cls ∈ jWL ∧ Cond.initialized cls ∈ jWL ∧
  ∀ w ∈ Cond.classLink own ik cls :: Cond.initialized cls :: vx_atS own ic cls ["java/lang/RuntimeException", "java/lang/Exception"], vx_ot w = true
theorem jth_hat {args : Array Value} {s : State} {l : List Cond} {w0 : Cond} (h : ∀ w ∈ l.filter (fun w => decide (w ≠ w0)), w.before args s = true) (h0 : w0.before args s = true) : ∀ w ∈ l, w.before args s = true := fun w hw => by
  by_cases hq : w = w0
  · rw [hq]; exact h0
  · exact h w (List.mem_filter.mpr ⟨hw, decide_eq_true hq⟩)
theorem j_throw {ik is ic : Nat} {cls text : String} (hT : jTh M.1.cls ik is ic cls text) (ht : M.2.2.2.2.1 = []) (d0 : decode M.2.1 pc = .ok (.new ik, 3)) (d3 : decode M.2.1 (pc + 3) = .ok (.dup, 1)) (d4 : decode M.2.1 (pc + 4) = .ok (.ldc is, 2)) (d6 : decode M.2.1 (pc + 6) = .ok (.invokespecial ic, 3)) (d9 : decode M.2.1 (pc + 9) = .ok (.athrow, 1))
    (hR : 6 ≤ R.frames ∧ 8 + 82 ≤ R.locals ∧ nc + 1 ≤ R.cells ∧ ns + 6 ≤ R.slots) (hcat : (st.map fun v => v.category).sum ≤ 8) (hp : Px cls h) (hc : nc + 1 ≤ mc) (hs : ns + 6 ≤ ms) : J M R nw (jZ nw mc ms Pn Px) pc L st h nc ns := by
  intro p l e s m args below meth c H locs ls D cy ad ad0 bs hX
  obtain ⟨⟨y1, y2, y3, y4, y5⟩, ⟨z1, z2, z3, z4, z5⟩, x3, x4, x5, x6, x7, x8, x9, x10⟩ := hX
  obtain ⟨t1, ⟨t7, t2⟩, t3, t4, t5, t6⟩ := hT
  obtain ⟨⟨s1, s2, -⟩, s3, -, -, s4, -⟩ := x3
  obtain ⟨sa, hsa⟩ := s3 _ t3
  refine vx_throwS (A := jB bs) (names := ["java/lang/RuntimeException", "java/lang/Exception"]) y1 y2 z4 y4 t1 (by decide +kernel) (y5 _ t4) (y5 _ t5) hsa (jth_hat (fun w hw => y5 _ (t2 w hw)) (va_Nw.use rfl (s4 _ t7))) t6 s1 s2 x5 (x8.1.trans y3.symm) d0 d3 d4 d6 d9 (fun x hx => ?_) (by show 2 + 3 < _; omega) (by show _ + (13 * (2 + 1) + 43) ≤ _; rw [j_cats]; omega) hR.2.2.1 hR.2.2.2 z2 (fun t hW hz hk => ?_) (fun z hz => x5.2.2 z hz) hc hs
  · rw [z5, ht] at hx
    cases hx
  · refine ⟨h, ad, hp, ⟨Nat.le_trans x6.1 hz, fun k c hk9 => ?_, x6.2.2⟩, x7, ⟨Nat.le_trans x5.1 hz, fun q h1 h2 => (hk q (Nat.lt_of_lt_of_le h1 x5.1)).trans (x5.2.1 q h1 h2)⟩⟩
    have ha := x6.2.1 k c hk9
    exact ha.kept (hk _ ha.lt)
theorem j_throwW {ik is ic : Nat} {cls text : String} (hT : jTh M.1.cls ik is ic cls text) (ht : M.2.2.2.2.1 = []) (d0 : decode M.2.1 pc = .ok (.new ik, 3)) (d3 : decode M.2.1 (pc + 3) = .ok (.dup, 1)) (d4 : decode M.2.1 (pc + 4) = .ok (.ldc_w is, 3)) (d7 : decode M.2.1 (pc + 7) = .ok (.invokespecial ic, 3)) (d10 : decode M.2.1 (pc + 10) = .ok (.athrow, 1))
    (hR : 6 ≤ R.frames ∧ 8 + 82 ≤ R.locals ∧ nc + 1 ≤ R.cells ∧ ns + 6 ≤ R.slots) (hcat : (st.map fun v => v.category).sum ≤ 8) (hp : Px cls h) (hc : nc + 1 ≤ mc) (hs : ns + 6 ≤ ms) : J M R nw (jZ nw mc ms Pn Px) pc L st h nc ns := by
  intro p l e s m args below meth c H locs ls D cy ad ad0 bs hX
  obtain ⟨⟨y1, y2, y3, y4, y5⟩, ⟨z1, z2, z3, z4, z5⟩, x3, x4, x5, x6, x7, x8, x9, x10⟩ := hX
  obtain ⟨t1, ⟨t7, t2⟩, t3, t4, t5, t6⟩ := hT
  obtain ⟨⟨s1, s2, -⟩, s3, -, -, s4, -⟩ := x3
  obtain ⟨sa, hsa⟩ := s3 _ t3
  refine vx_throwSW (A := jB bs) (names := ["java/lang/RuntimeException", "java/lang/Exception"]) y1 y2 z4 y4 t1 (by decide +kernel) (y5 _ t4) (y5 _ t5) hsa (jth_hat (fun w hw => y5 _ (t2 w hw)) (va_Nw.use rfl (s4 _ t7))) t6 s1 s2 x5 (x8.1.trans y3.symm) d0 d3 d4 d7 d10 (fun x hx => ?_) (by show 2 + 3 < _; omega) (by show _ + (13 * (2 + 1) + 43) ≤ _; rw [j_cats]; omega) hR.2.2.1 hR.2.2.2 z2 (fun t hW hz hk => ?_) (fun z hz => x5.2.2 z hz) hc hs
  · rw [z5, ht] at hx
    cases hx
  · refine ⟨h, ad, hp, ⟨Nat.le_trans x6.1 hz, fun k c hk9 => ?_, x6.2.2⟩, x7, ⟨Nat.le_trans x5.1 hz, fun q h1 h2 => (hk q (Nat.lt_of_lt_of_le h1 x5.1)).trans (x5.2.1 q h1 h2)⟩⟩
    have ha := x6.2.1 k c hk9
    exact ha.kept (hk _ ha.lt)
theorem jE_up {cy : Nat → ClassId} {ad : Nat → Nat} {k a : Nat} {c : jC} (hr : ¬ jref c k) : jE cy (va_up ad k a) c = jE cy ad c := by
  have hu : ∀ j, j ≠ k → va_up ad k a j = ad j := fun j hj => if_neg hj
  match c, hr with
  | .inl q, _ => rfl
  | .inr (.inl (n, g)), hr =>
    have : (fun j : Nat => (g j).map (va_up ad k a)) = fun j : Nat => (g j).map ad := by
      funext j
      cases hg : g j with
      | none => rfl
      | some z => exact congrArg some (hu z fun e => hr ⟨j, by show g j = some k; rw [hg, e]⟩)
    show (Sum.inl (cy 6, n, .inr (.inr (.inr (.inr fun j : Nat => (g j).map (va_up ad k a))))) : va_E) = .inl (cy 6, n, .inr (.inr (.inr (.inr fun j : Nat => (g j).map ad))))
    rw [this]
  | .inr (.inr (ci, fs)), hr =>
    show (Sum.inr (ci, fs.map (jv (va_up ad k a))) : va_E) = .inr (ci, fs.map (jv ad))
    have : fs.map (jv (va_up ad k a)) = fs.map (jv ad) := List.map_congr_left fun v hv => by
      cases v with
      | ref z =>
        show Value.ref (va_up ad k a z) = Value.ref (ad z)
        rw [hu z fun e => hr (show Value.ref k ∈ fs by rw [← e]; exact hv)]
      | _ => rfl
    rw [this]
/-- new cells -/
theorem jW.grow {D : va_G} {cy : Nat → ClassId} {ad : Nat → Nat} {bs k : Nat} {H H1 : Heap} {c : jC} (hW : jW D cy ad bs h H) (hk : h k = none) (hz : H1.size = H.size + 1) (oq : ∀ q : Nat, q < H.size → H1[q]? = H[q]?) (hc0 : ∀ k', ¬ jref c k') (he : va_at D jcl (H.size, jE cy ad c) H1) : jW D cy (va_up ad k H.size) bs (jup h k c) H1 := by
  obtain ⟨h1, h2, h3, h4, h5⟩ := hW
  have hu : va_up ad k H.size k = H.size := if_pos rfl
  have hun : ∀ j, j ≠ k → va_up ad k H.size j = ad j := fun j hj => if_neg hj
  have hlt : ∀ j, h j ≠ none → ad j < H.size := by
    intro j hj
    obtain ⟨c', hc'⟩ := Option.ne_none_iff_exists'.mp hj
    exact (h2 j c' hc').lt
  have hne : ∀ j, j ≠ k → jup h k c j ≠ none → h j ≠ none := by
    intro j hjk hj
    rw [jup_n hjk rfl] at hj; exact hj
  refine ⟨by omega, fun j cj hj => ?_, fun i j hi hj e => ?_, fun j hj => ?_, fun j cj hj k' hr => ?_⟩
  · by_cases hjk : j = k
    · subst hjk
      rw [jup_s] at hj
      cases hj
      rw [hu, jE_up (hc0 _)]
      exact he
    · have hj' : h j = some cj := by rw [jup_n hjk rfl] at hj; exact hj
      rw [hun j hjk, jE_up (fun hr => h5 j cj hj' k hr hk)]
      exact (h2 j cj hj').kept (oq _ (h2 j cj hj').lt)
  · by_cases hik : i = k
    · by_cases hjk : j = k
      · rw [hik, hjk]
      · rw [hik, hu, hun j hjk] at e
        have := hlt j (hne j hjk hj)
        omega
    · by_cases hjk : j = k
      · rw [hjk, hu, hun i hik] at e
        have := hlt i (hne i hik hi)
        omega
      · rw [hun i hik, hun j hjk] at e
        exact h3 i j (hne i hik hi) (hne j hjk hj) e
  · by_cases hjk : j = k
    · rw [hjk, hu]; exact h1
    · rw [hun j hjk]; exact h4 j (hne j hjk hj)
  · by_cases hjk : j = k
    · subst hjk
      rw [jup_s] at hj
      cases hj
      exact (hc0 k' hr).elim
    · have hj' : h j = some cj := by rw [jup_n hjk rfl] at hj; exact hj
      have hn := h5 j cj hj' k' hr
      by_cases hk' : k' = k
      · rw [hk', jup_s]; exact fun z => by cases z
      · rw [jup_n hk' rfl]; exact hn
end JE1
