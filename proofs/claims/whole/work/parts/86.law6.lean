/-! THE LAW -/
/-- the places that the law takes -/
def lnw : List Nat := List.range 119 ++ (List.range 10).map (fun i => i + 200) ++ [220, 221, 300]
/-- the law; its walk knows the script, and the class of rows of Families -/
abbrev mLaw (L : Nat) (xs : Nat → Int32) (nm : String) (tab : List (Nat × Nat × Nat × Nat)) : jMe := (⟨RL, nm, "([I)Z"⟩, cL_law, 9, some .boolean, tab, fun s ad bs => va_AO RX1 s ∧ va_X (ad 150) L xs s s.heap ∧ ad 150 < s.heap.size ∧ ¬ jB bs (ad 150))
/-- the script's numbers -/
def sc (xs : Nat → Int32) (x : Int) : Int := (xs x.toNat).toInt
theorem sc_r (xs : Nat → Int32) (x : Int) : -2147483648 ≤ sc xs x ∧ sc xs x ≤ 2147483647 := by
  have h1 := Int32.le_toInt (xs x.toNat)
  have h2 := Int32.toInt_lt (xs x.toNat)
  unfold sc
  omega
section JL6
variable {L : Nat} {xs : Nat → Int32} {nm : String} {tab : List (Nat × Nat × Nat × Nat)} {R : Room} {Z : jFin} {pc pc' : Nat} {Ls : List (Nat × Value)} {st st' : List Value} {h h' : jH} {nc ns nc' ns' mc ms : Nat}
theorem j_sarr {x : Int} (hd : decode (mLaw L xs nm tab).2.1 pc = .ok (.iaload, 1)) (hx : 0 ≤ x ∧ x < L) (hL : L ≤ 2048) (kk : J (mLaw L xs nm tab) R lnw Z (pc + 1) Ls (iv (sc xs x) :: st) h nc ns) : J (mLaw L xs nm tab) R lnw Z pc Ls (iv x :: .ref 150 :: st) h nc ns := by
  intro p l e s m args below meth c H locs ls D cy ad ad0 bs hX
  have w := kk p l e s m args below meth c H locs ls D cy ad ad0 bs hX
  obtain ⟨⟨y1, y2, y3, y4, y5⟩, x2, x3, x4, x5, x6, x7, x8, x9, -, x11, x12, x13⟩ := hX
  have ea := x7 150 (by decide)
  rw [← ea] at x11 x12 x13
  refine va_sld (A := jB bs) (H0 := s.heap) (i := Int32.ofInt x) y1 y2 x11 x12 x13 x5 (j_vin hx (by omega)) hd ?_
  have e2 : Value.int (xs (Int32.ofInt x).toNatClampNeg) = iv (sc xs x) := by
    rw [j_nat hx.1 (by omega)]
    unfold iv sc
    rw [Int32.ofInt_toInt]
  rw [e2]
  exact w
theorem j_sarl (hd : decode (mLaw L xs nm tab).2.1 pc = .ok (.arraylength, 1)) (kk : J (mLaw L xs nm tab) R lnw Z (pc + 1) Ls (iv L :: st) h nc ns) : J (mLaw L xs nm tab) R lnw Z pc Ls (.ref 150 :: st) h nc ns := by
  intro p l e s m args below meth c H locs ls D cy ad ad0 bs hX
  have w := kk p l e s m args below meth c H locs ls D cy ad ad0 bs hX
  obtain ⟨⟨y1, y2, y3, y4, y5⟩, x2, x3, x4, x5, x6, x7, x8, x9, -, x11, x12, x13⟩ := hX
  have ea := x7 150 (by decide)
  rw [← ea] at x11 x12 x13
  exact va_slen (A := jB bs) (H0 := s.heap) y1 y2 x11 x12 x13 x5 hd w
end JL6
theorem i2c_r (w : UInt32) : 0 ≤ (w % 65536).toInt32.toInt ∧ (w % 65536).toInt32.toInt < 65536 := by
  have e : (w % 65536).toInt32.toInt = ((w.toNat % 65536 : Nat) : Int) := by
    show (w % 65536).toBitVec.toInt = _
    rw [BitVec.toInt_eq_toNat_of_lt (by show 2 * (w % 65536).toNat < 2 ^ 32; rw [UInt32.toNat_mod]; have : w.toNat % (65536 : UInt32).toNat < 65536 := Nat.mod_lt _ (by decide); omega)]
    show (((w % 65536).toNat : Nat) : Int) = _
    rw [UInt32.toNat_mod]
    rfl
  rw [e]
  omega
/-- a char out of an int -/
def ch9 (x : Int) : Int := ((Int32.ofInt x).toUInt32 % 65536).toInt32.toInt
theorem ch9_r (x : Int) : 0 ≤ ch9 x ∧ ch9 x < 65536 := i2c_r _
theorem ch9_e (x : Int) : ((Int32.ofInt x).toUInt32 % 65536).toInt32 = Int32.ofInt (ch9 x) := (Int32.ofInt_toInt _).symm
set_option maxHeartbeats 4000000 in
theorem lc_found {L : Nat} {xs : Nat → Int32} {nm : String} {tab : List (Nat × Nat × Nat × Nat)} {Z : jFin} {i B : Int} {nc ns : Nat} {K Ks : fS} {P : Int → fS} {X I : fS} {c : Int} {t : Int → Int} {G : fS} {h : jH} {f : Int → Int} (hL : L ≤ 2048) (hi : 0 ≤ i ∧ i + 4 ≤ L) (hI : lI B K Ks P X I c t G h) (h220 : h 220 = some (jA 4 1 f)) (hB : B + 31000 ≤ 20000000) (hb : 0 ≤ B) (hnc : nc + 11 ≤ 603072 ∧ ns + 346 ≤ 7211113) (htail : ∀ (h' : jH) (nc' ns' : Nat), lW (B + 31000) h' → nc' ≤ nc + 11 → ns' ≤ ns + 346 → J (mLaw L xs nm tab) room_1 lnw Z 2150 [(0, .ref 150), (1, .ref 0), (2, .ref 200), (3, .ref 220), (4, .ref 221), (5, iv i)] [] h' nc' ns') : J (mLaw L xs nm tab) room_1 lnw Z 200 [(0, .ref 150), (1, .ref 0), (2, .ref 200), (3, .ref 220), (4, .ref 221), (5, iv i)] [] h nc ns := by
  refine j_aload_n dL_law_200 rfl rfl ?_
  refine j_aload_n dL_law_201 rfl rfl ?_
  refine j_callSW (o_found hI hB hb h220  ) dL_law_202 jc_L_125 jmS_L_found (fun q => by cases q) rfl rfl (by decide) (jfr_of rfl rfl) (Nat.le_of_ble_eq_true rfl) ⟨Nat.le_of_ble_eq_true rfl, Nat.le_of_ble_eq_true rfl⟩ ⟨by show _ ≤ 603072; omega, by show _ ≤ 7211113; omega⟩ (fun r h1 hp9 => ?_)
  obtain ⟨hk1, ⟨k, rfl⟩, hs⟩ := hp9
  have hG := hI.2.1.eq okM fun j j0 j1 => hk1 j (by omega) (by have j1 : j < 200 + 10 := j1; omega)
  have hm : kI B (mK (G 0)) := by rw [← hI.k.1]; exact hI.k.2
  have hp9 := hI.2.2.1.2.2.1.2.1
  have h79 := hI.2.2.1.2.2.2.1.2.2.2.1
  have hT := hI.2.2.1.2.2.2.2.2.2.2.1
  have hOb := hI.2.2.1.2.2.2.2.2.2.2.2
  have h13 := hI.2.2.1.2.2.2.2.1.2.2.2
  have h14 : 0 ≤ G 14 0 ∧ G 14 0 ≤ 40 := by have a := hI.2.2.1.2.2.2.2.1.1; have b := hI.2.2.1.2.2.2.2.1.2.1; omega
  have hs3 : G 3 0 = 0 ∨ G 3 0 = 1 := by rcases hI.2.2.1.2.1.2.1 with q | q <;> omega
  show J (mLaw L xs nm tab) _ _ _ 205 _ (iv k :: []) _ _ _
  refine j_istore (L' := [(0, _), (1, _), (2, _), (3, _), (4, _), (5, _), (6, _)]) dL_law_205 (Nat.le_of_ble_eq_true rfl) rfl ?_
  refine j_aload_n dL_law_207 rfl rfl ?_
  refine j_callV (c5_found  hG rfl hm (by omega) hp9) dL_law_208 jc_L_130 jmV_X5_found rfl rfl hG.1 rfl rfl (by simp) jfr_nil (Nat.le_of_ble_eq_true rfl) ⟨Nat.le_of_ble_eq_true rfl, Nat.le_of_ble_eq_true rfl⟩ ⟨by show _ ≤ 603072; omega, by show _ ≤ 7211113; omega⟩ (fun r h2 hp9 => ?_) (fun E h9 q => q.elim)
  obtain ⟨rfl, hG2, hE2⟩ := hp9
  obtain ⟨k2, f2, hk2, hk3, hk6, h222, hval, hW⟩ := hs h2 hG2 hE2
  have hk5 : iv k = iv k2 := Option.some.inj hk2
  show J (mLaw L xs nm tab) _ _ _ 211 _ (iv _ :: []) _ _ _
  refine j_istore (L' := [(0, _), (1, _), (2, _), (3, _), (4, _), (5, _), (6, _), (7, _)]) dL_law_211 (Nat.le_of_ble_eq_true rfl) rfl ?_
  rw [hk5]
  clear hk5
  refine j_aload_n dL_law_213 rfl rfl ?_
  refine j_callV (c5_thrown hG2) dL_law_214 jc_L_131 jmV_X5_thrown rfl rfl hG2.1 rfl rfl (by simp) jfr_nil (Nat.le_of_ble_eq_true rfl) ⟨Nat.le_of_ble_eq_true rfl, Nat.le_of_ble_eq_true rfl⟩ ⟨by show _ ≤ 603072; omega, by show _ ≤ 7211113; omega⟩ (fun r h3 hp9 => ?_) (fun E h9 q => q.elim)
  obtain ⟨rfl, rfl⟩ := hp9
  show J (mLaw L xs nm tab) _ _ _ 217 _ (iv _ :: []) _ _ _
  refine j_iload dL_law_217 rfl ?_
  refine j_icmp_eq (tgt := 224) dL_law_219 (by decide) (by omega) (fun _ => ?_) (fun z => absurd hk6 z)
  refine j_iload dL_law_224 rfl ?_
  refine j_if_ne (tgt := 241) dL_law_226 (by decide) (by omega) (fun _ => ?_) (fun k0 => ?_)
  · skip
    refine j_goto (tgt := 2150) dL_law_241 (by decide) ?_
    refine J.keep (L' := [(0, .ref 150), (1, .ref 0), (2, .ref 200), (3, .ref 220), (4, .ref 221), (5, iv i)]) [0, 1, 2, 3, 4, 5] rfl ?_
    exact htail _ _ _ hW (by omega) (by omega)
  · skip
    refine j_aload_n dL_law_229 rfl rfl ?_
    refine j_iconst dL_law_230 ?_
    refine j_laload dL_law_231 h222 ⟨by decide, by decide⟩ (by decide) ?_
    refine j_iload dL_law_232 rfl ?_
    refine j_i2lz dL_law_234 ?_
    rw [hval k0]
    refine j_lcmp dL_law_235 ⟨(nz_r _).1, (nz_r _).2, (nz_r _).1, (nz_r _).2⟩ ?_
    rw [if_neg (Int.lt_irrefl _), if_pos rfl]
    refine j_if_eq (tgt := 241) dL_law_236 (by decide) (by decide) (fun _ => ?_) (fun z => absurd rfl z)
    refine j_goto (tgt := 2150) dL_law_241 (by decide) ?_
    refine J.keep (L' := [(0, .ref 150), (1, .ref 0), (2, .ref 200), (3, .ref 220), (4, .ref 221), (5, iv i)]) [0, 1, 2, 3, 4, 5] rfl ?_
    exact htail _ _ _ hW (by omega) (by omega)
set_option maxHeartbeats 4000000 in
theorem lc_born {L : Nat} {xs : Nat → Int32} {nm : String} {tab : List (Nat × Nat × Nat × Nat)} {Z : jFin} {i B : Int} {nc ns : Nat} {K Ks : fS} {P : Int → fS} {X I : fS} {c : Int} {t : Int → Int} {G : fS} {h : jH} {f : Int → Int} (hL : L ≤ 2048) (hi : 0 ≤ i ∧ i + 4 ≤ L) (hI : lI B K Ks P X I c t G h) (h220 : h 220 = some (jA 4 1 f)) (hB : B + 31000 ≤ 20000000) (hb : 0 ≤ B) (hnc : nc + 11 ≤ 603072 ∧ ns + 346 ≤ 7211113) (htail : ∀ (h' : jH) (nc' ns' : Nat), lW (B + 31000) h' → nc' ≤ nc + 11 → ns' ≤ ns + 346 → J (mLaw L xs nm tab) room_1 lnw Z 2150 [(0, .ref 150), (1, .ref 0), (2, .ref 200), (3, .ref 220), (4, .ref 221), (5, iv i)] [] h' nc' ns') : J (mLaw L xs nm tab) room_1 lnw Z 244 [(0, .ref 150), (1, .ref 0), (2, .ref 200), (3, .ref 220), (4, .ref 221), (5, iv i)] [] h nc ns := by
  refine j_aload_n dL_law_244 rfl rfl ?_
  refine j_aload_n dL_law_245 rfl rfl ?_
  refine j_iload dL_law_246 rfl ?_
  refine j_iconst dL_law_248 ?_
  refine j_iadd dL_law_249 ?_
  refine j_sarr dL_law_250 ⟨by omega, by omega⟩ hL ?_
  refine j_aload_n dL_law_251 rfl rfl ?_
  refine j_callSW (o_born hI hB hb h220 (p := (sc xs (i + 1))) (sc_r _ _)) dL_law_252 jc_L_134 jmS_L_born (fun q => by cases q) rfl rfl (by decide) (jfr_of rfl rfl) (Nat.le_of_ble_eq_true rfl) ⟨Nat.le_of_ble_eq_true rfl, Nat.le_of_ble_eq_true rfl⟩ ⟨by show _ ≤ 603072; omega, by show _ ≤ 7211113; omega⟩ (fun r h1 hp9 => ?_)
  obtain ⟨hk1, ⟨k, rfl⟩, hs⟩ := hp9
  have hG := hI.2.1.eq okM fun j j0 j1 => hk1 j (by omega) (by have j1 : j < 200 + 10 := j1; omega)
  have hm : kI B (mK (G 0)) := by rw [← hI.k.1]; exact hI.k.2
  have hp9 := hI.2.2.1.2.2.1.2.1
  have h79 := hI.2.2.1.2.2.2.1.2.2.2.1
  have hT := hI.2.2.1.2.2.2.2.2.2.2.1
  have hOb := hI.2.2.1.2.2.2.2.2.2.2.2
  have h13 := hI.2.2.1.2.2.2.2.1.2.2.2
  have h14 : 0 ≤ G 14 0 ∧ G 14 0 ≤ 40 := by have a := hI.2.2.1.2.2.2.2.1.1; have b := hI.2.2.1.2.2.2.2.1.2.1; omega
  have hs3 : G 3 0 = 0 ∨ G 3 0 = 1 := by rcases hI.2.2.1.2.1.2.1 with q | q <;> omega
  show J (mLaw L xs nm tab) _ _ _ 255 _ (iv k :: []) _ _ _
  refine j_istore (L' := [(0, _), (1, _), (2, _), (3, _), (4, _), (5, _), (6, _)]) dL_law_255 (Nat.le_of_ble_eq_true rfl) rfl ?_
  refine j_aload_n dL_law_257 rfl rfl ?_
  refine j_aload_n dL_law_258 rfl rfl ?_
  refine j_iload dL_law_259 rfl ?_
  refine j_iconst dL_law_261 ?_
  refine j_iadd dL_law_262 ?_
  refine j_sarr dL_law_263 ⟨by omega, by omega⟩ hL ?_
  refine j_callV (c5_born (p := (sc xs (i + 1))) hG rfl hm (by omega) (sc_r _ _) hp9) dL_law_264 jc_L_137 jmV_X5_born rfl rfl hG.1 rfl rfl (by simp) jfr_nil (Nat.le_of_ble_eq_true rfl) ⟨Nat.le_of_ble_eq_true rfl, Nat.le_of_ble_eq_true rfl⟩ ⟨by show _ ≤ 603072; omega, by show _ ≤ 7211113; omega⟩ (fun r h2 hp9 => ?_) (fun E h9 q => q.elim)
  obtain ⟨rfl, hG2, hE2⟩ := hp9
  obtain ⟨k2, f2, hk2, hk3, hk6, h222, hval, hW⟩ := hs h2 hG2 hE2
  have hk5 : iv k = iv k2 := Option.some.inj hk2
  show J (mLaw L xs nm tab) _ _ _ 267 _ (iv _ :: []) _ _ _
  refine j_istore (L' := [(0, _), (1, _), (2, _), (3, _), (4, _), (5, _), (6, _), (7, _)]) dL_law_267 (Nat.le_of_ble_eq_true rfl) rfl ?_
  rw [hk5]
  clear hk5
  refine j_aload_n dL_law_269 rfl rfl ?_
  refine j_callV (c5_thrown hG2) dL_law_270 jc_L_131 jmV_X5_thrown rfl rfl hG2.1 rfl rfl (by simp) jfr_nil (Nat.le_of_ble_eq_true rfl) ⟨Nat.le_of_ble_eq_true rfl, Nat.le_of_ble_eq_true rfl⟩ ⟨by show _ ≤ 603072; omega, by show _ ≤ 7211113; omega⟩ (fun r h3 hp9 => ?_) (fun E h9 q => q.elim)
  obtain ⟨rfl, rfl⟩ := hp9
  show J (mLaw L xs nm tab) _ _ _ 273 _ (iv _ :: []) _ _ _
  refine j_iload dL_law_273 rfl ?_
  refine j_icmp_eq (tgt := 280) dL_law_275 (by decide) (by omega) (fun _ => ?_) (fun z => absurd hk6 z)
  refine j_iload dL_law_280 rfl ?_
  refine j_if_ne (tgt := 297) dL_law_282 (by decide) (by omega) (fun _ => ?_) (fun k0 => ?_)
  · skip
    refine j_goto (tgt := 2150) dL_law_297 (by decide) ?_
    refine J.keep (L' := [(0, .ref 150), (1, .ref 0), (2, .ref 200), (3, .ref 220), (4, .ref 221), (5, iv i)]) [0, 1, 2, 3, 4, 5] rfl ?_
    exact htail _ _ _ hW (by omega) (by omega)
  · skip
    refine j_aload_n dL_law_285 rfl rfl ?_
    refine j_iconst dL_law_286 ?_
    refine j_laload dL_law_287 h222 ⟨by decide, by decide⟩ (by decide) ?_
    refine j_iload dL_law_288 rfl ?_
    refine j_i2lz dL_law_290 ?_
    rw [hval k0]
    refine j_lcmp dL_law_291 ⟨(nz_r _).1, (nz_r _).2, (nz_r _).1, (nz_r _).2⟩ ?_
    rw [if_neg (Int.lt_irrefl _), if_pos rfl]
    refine j_if_eq (tgt := 297) dL_law_292 (by decide) (by decide) (fun _ => ?_) (fun z => absurd rfl z)
    refine j_goto (tgt := 2150) dL_law_297 (by decide) ?_
    refine J.keep (L' := [(0, .ref 150), (1, .ref 0), (2, .ref 200), (3, .ref 220), (4, .ref 221), (5, iv i)]) [0, 1, 2, 3, 4, 5] rfl ?_
    exact htail _ _ _ hW (by omega) (by omega)
set_option maxHeartbeats 4000000 in
theorem lc_graft {L : Nat} {xs : Nat → Int32} {nm : String} {tab : List (Nat × Nat × Nat × Nat)} {Z : jFin} {i B : Int} {nc ns : Nat} {K Ks : fS} {P : Int → fS} {X I : fS} {c : Int} {t : Int → Int} {G : fS} {h : jH} {f : Int → Int} (hL : L ≤ 2048) (hi : 0 ≤ i ∧ i + 4 ≤ L) (hI : lI B K Ks P X I c t G h) (h220 : h 220 = some (jA 4 1 f)) (hB : B + 31000 ≤ 20000000) (hb : 0 ≤ B) (hnc : nc + 11 ≤ 603072 ∧ ns + 346 ≤ 7211113) (htail : ∀ (h' : jH) (nc' ns' : Nat), lW (B + 31000) h' → nc' ≤ nc + 11 → ns' ≤ ns + 346 → J (mLaw L xs nm tab) room_1 lnw Z 2150 [(0, .ref 150), (1, .ref 0), (2, .ref 200), (3, .ref 220), (4, .ref 221), (5, iv i)] [] h' nc' ns') : J (mLaw L xs nm tab) room_1 lnw Z 300 [(0, .ref 150), (1, .ref 0), (2, .ref 200), (3, .ref 220), (4, .ref 221), (5, iv i)] [] h nc ns := by
  refine j_aload_n dL_law_300 rfl rfl ?_
  refine j_aload_n dL_law_301 rfl rfl ?_
  refine j_iload dL_law_302 rfl ?_
  refine j_iconst dL_law_304 ?_
  refine j_iadd dL_law_305 ?_
  refine j_sarr dL_law_306 ⟨by omega, by omega⟩ hL ?_
  refine j_aload_n dL_law_307 rfl rfl ?_
  refine j_iload dL_law_308 rfl ?_
  refine j_iconst dL_law_310 ?_
  refine j_iadd dL_law_311 ?_
  refine j_sarr dL_law_312 ⟨by omega, by omega⟩ hL ?_
  refine j_aload_n dL_law_313 rfl rfl ?_
  refine j_callSW (o_graft hI hB hb h220 (p := (sc xs (i + 1))) (o := (sc xs (i + 2))) (sc_r _ _) (sc_r _ _)) dL_law_314 jc_L_138 jmS_L_graft (fun q => by cases q) rfl rfl (by decide) (jfr_of rfl rfl) (Nat.le_of_ble_eq_true rfl) ⟨Nat.le_of_ble_eq_true rfl, Nat.le_of_ble_eq_true rfl⟩ ⟨by show _ ≤ 603072; omega, by show _ ≤ 7211113; omega⟩ (fun r h1 hp9 => ?_)
  obtain ⟨hk1, ⟨k, rfl⟩, hs⟩ := hp9
  have hG := hI.2.1.eq okM fun j j0 j1 => hk1 j (by omega) (by have j1 : j < 200 + 10 := j1; omega)
  have hm : kI B (mK (G 0)) := by rw [← hI.k.1]; exact hI.k.2
  have hp9 := hI.2.2.1.2.2.1.2.1
  have h79 := hI.2.2.1.2.2.2.1.2.2.2.1
  have hT := hI.2.2.1.2.2.2.2.2.2.2.1
  have hOb := hI.2.2.1.2.2.2.2.2.2.2.2
  have h13 := hI.2.2.1.2.2.2.2.1.2.2.2
  have h14 : 0 ≤ G 14 0 ∧ G 14 0 ≤ 40 := by have a := hI.2.2.1.2.2.2.2.1.1; have b := hI.2.2.1.2.2.2.2.1.2.1; omega
  have hs3 : G 3 0 = 0 ∨ G 3 0 = 1 := by rcases hI.2.2.1.2.1.2.1 with q | q <;> omega
  show J (mLaw L xs nm tab) _ _ _ 317 _ (iv k :: []) _ _ _
  refine j_istore (L' := [(0, _), (1, _), (2, _), (3, _), (4, _), (5, _), (6, _)]) dL_law_317 (Nat.le_of_ble_eq_true rfl) rfl ?_
  refine j_aload_n dL_law_319 rfl rfl ?_
  refine j_aload_n dL_law_320 rfl rfl ?_
  refine j_iload dL_law_321 rfl ?_
  refine j_iconst dL_law_323 ?_
  refine j_iadd dL_law_324 ?_
  refine j_sarr dL_law_325 ⟨by omega, by omega⟩ hL ?_
  refine j_aload_n dL_law_326 rfl rfl ?_
  refine j_iload dL_law_327 rfl ?_
  refine j_iconst dL_law_329 ?_
  refine j_iadd dL_law_330 ?_
  refine j_sarr dL_law_331 ⟨by omega, by omega⟩ hL ?_
  refine j_callV (c5_graft (p := (sc xs (i + 1))) (o := (sc xs (i + 2))) hG rfl hm (by omega) (sc_r _ _) (sc_r _ _) hp9) dL_law_332 jc_L_141 jmV_X5_graft rfl rfl hG.1 rfl rfl (by simp) jfr_nil (Nat.le_of_ble_eq_true rfl) ⟨Nat.le_of_ble_eq_true rfl, Nat.le_of_ble_eq_true rfl⟩ ⟨by show _ ≤ 603072; omega, by show _ ≤ 7211113; omega⟩ (fun r h2 hp9 => ?_) (fun E h9 q => q.elim)
  obtain ⟨rfl, hG2, hE2⟩ := hp9
  obtain ⟨k2, f2, hk2, hk3, hk6, h222, hval, hW⟩ := hs h2 hG2 hE2
  have hk5 : iv k = iv k2 := Option.some.inj hk2
  show J (mLaw L xs nm tab) _ _ _ 335 _ (iv _ :: []) _ _ _
  refine j_istore (L' := [(0, _), (1, _), (2, _), (3, _), (4, _), (5, _), (6, _), (7, _)]) dL_law_335 (Nat.le_of_ble_eq_true rfl) rfl ?_
  rw [hk5]
  clear hk5
  refine j_aload_n dL_law_337 rfl rfl ?_
  refine j_callV (c5_thrown hG2) dL_law_338 jc_L_131 jmV_X5_thrown rfl rfl hG2.1 rfl rfl (by simp) jfr_nil (Nat.le_of_ble_eq_true rfl) ⟨Nat.le_of_ble_eq_true rfl, Nat.le_of_ble_eq_true rfl⟩ ⟨by show _ ≤ 603072; omega, by show _ ≤ 7211113; omega⟩ (fun r h3 hp9 => ?_) (fun E h9 q => q.elim)
  obtain ⟨rfl, rfl⟩ := hp9
  show J (mLaw L xs nm tab) _ _ _ 341 _ (iv _ :: []) _ _ _
  refine j_iload dL_law_341 rfl ?_
  refine j_icmp_eq (tgt := 348) dL_law_343 (by decide) (by omega) (fun _ => ?_) (fun z => absurd hk6 z)
  refine j_iload dL_law_348 rfl ?_
  refine j_if_ne (tgt := 365) dL_law_350 (by decide) (by omega) (fun _ => ?_) (fun k0 => ?_)
  · skip
    refine j_goto (tgt := 2150) dL_law_365 (by decide) ?_
    refine J.keep (L' := [(0, .ref 150), (1, .ref 0), (2, .ref 200), (3, .ref 220), (4, .ref 221), (5, iv i)]) [0, 1, 2, 3, 4, 5] rfl ?_
    exact htail _ _ _ hW (by omega) (by omega)
  · skip
    refine j_aload_n dL_law_353 rfl rfl ?_
    refine j_iconst dL_law_354 ?_
    refine j_laload dL_law_355 h222 ⟨by decide, by decide⟩ (by decide) ?_
    refine j_iload dL_law_356 rfl ?_
    refine j_i2lz dL_law_358 ?_
    rw [hval k0]
    refine j_lcmp dL_law_359 ⟨(nz_r _).1, (nz_r _).2, (nz_r _).1, (nz_r _).2⟩ ?_
    rw [if_neg (Int.lt_irrefl _), if_pos rfl]
    refine j_if_eq (tgt := 365) dL_law_360 (by decide) (by decide) (fun _ => ?_) (fun z => absurd rfl z)
    refine j_goto (tgt := 2150) dL_law_365 (by decide) ?_
    refine J.keep (L' := [(0, .ref 150), (1, .ref 0), (2, .ref 200), (3, .ref 220), (4, .ref 221), (5, iv i)]) [0, 1, 2, 3, 4, 5] rfl ?_
    exact htail _ _ _ hW (by omega) (by omega)
set_option maxHeartbeats 4000000 in
theorem lc_cut {L : Nat} {xs : Nat → Int32} {nm : String} {tab : List (Nat × Nat × Nat × Nat)} {Z : jFin} {i B : Int} {nc ns : Nat} {K Ks : fS} {P : Int → fS} {X I : fS} {c : Int} {t : Int → Int} {G : fS} {h : jH} {f : Int → Int} (hL : L ≤ 2048) (hi : 0 ≤ i ∧ i + 4 ≤ L) (hI : lI B K Ks P X I c t G h) (h220 : h 220 = some (jA 4 1 f)) (hB : B + 31000 ≤ 20000000) (hb : 0 ≤ B) (hnc : nc + 11 ≤ 603072 ∧ ns + 346 ≤ 7211113) (htail : ∀ (h' : jH) (nc' ns' : Nat), lW (B + 31000) h' → nc' ≤ nc + 11 → ns' ≤ ns + 346 → J (mLaw L xs nm tab) room_1 lnw Z 2150 [(0, .ref 150), (1, .ref 0), (2, .ref 200), (3, .ref 220), (4, .ref 221), (5, iv i)] [] h' nc' ns') : J (mLaw L xs nm tab) room_1 lnw Z 368 [(0, .ref 150), (1, .ref 0), (2, .ref 200), (3, .ref 220), (4, .ref 221), (5, iv i)] [] h nc ns := by
  refine j_aload_n dL_law_368 rfl rfl ?_
  refine j_aload_n dL_law_369 rfl rfl ?_
  refine j_iload dL_law_370 rfl ?_
  refine j_iconst dL_law_372 ?_
  refine j_iadd dL_law_373 ?_
  refine j_sarr dL_law_374 ⟨by omega, by omega⟩ hL ?_
  refine j_aload_n dL_law_375 rfl rfl ?_
  refine j_callSW (o_cut hI hB hb h220 (p := (sc xs (i + 1))) (sc_r _ _)) dL_law_376 jc_L_142 jmS_L_cut (fun q => by cases q) rfl rfl (by decide) (jfr_of rfl rfl) (Nat.le_of_ble_eq_true rfl) ⟨Nat.le_of_ble_eq_true rfl, Nat.le_of_ble_eq_true rfl⟩ ⟨by show _ ≤ 603072; omega, by show _ ≤ 7211113; omega⟩ (fun r h1 hp9 => ?_)
  obtain ⟨hk1, ⟨k, rfl⟩, hs⟩ := hp9
  have hG := hI.2.1.eq okM fun j j0 j1 => hk1 j (by omega) (by have j1 : j < 200 + 10 := j1; omega)
  have hm : kI B (mK (G 0)) := by rw [← hI.k.1]; exact hI.k.2
  have hp9 := hI.2.2.1.2.2.1.2.1
  have h79 := hI.2.2.1.2.2.2.1.2.2.2.1
  have hT := hI.2.2.1.2.2.2.2.2.2.2.1
  have hOb := hI.2.2.1.2.2.2.2.2.2.2.2
  have h13 := hI.2.2.1.2.2.2.2.1.2.2.2
  have h14 : 0 ≤ G 14 0 ∧ G 14 0 ≤ 40 := by have a := hI.2.2.1.2.2.2.2.1.1; have b := hI.2.2.1.2.2.2.2.1.2.1; omega
  have hs3 : G 3 0 = 0 ∨ G 3 0 = 1 := by rcases hI.2.2.1.2.1.2.1 with q | q <;> omega
  show J (mLaw L xs nm tab) _ _ _ 379 _ (iv k :: []) _ _ _
  refine j_istore (L' := [(0, _), (1, _), (2, _), (3, _), (4, _), (5, _), (6, _)]) dL_law_379 (Nat.le_of_ble_eq_true rfl) rfl ?_
  refine j_aload_n dL_law_381 rfl rfl ?_
  refine j_aload_n dL_law_382 rfl rfl ?_
  refine j_iload dL_law_383 rfl ?_
  refine j_iconst dL_law_385 ?_
  refine j_iadd dL_law_386 ?_
  refine j_sarr dL_law_387 ⟨by omega, by omega⟩ hL ?_
  refine j_callV (c5_cut (p := (sc xs (i + 1))) hG rfl hm (by omega) (sc_r _ _) hp9) dL_law_388 jc_L_144 jmV_X5_cut rfl rfl hG.1 rfl rfl (by simp) jfr_nil (Nat.le_of_ble_eq_true rfl) ⟨Nat.le_of_ble_eq_true rfl, Nat.le_of_ble_eq_true rfl⟩ ⟨by show _ ≤ 603072; omega, by show _ ≤ 7211113; omega⟩ (fun r h2 hp9 => ?_) (fun E h9 q => q.elim)
  obtain ⟨rfl, hG2, hE2⟩ := hp9
  obtain ⟨k2, f2, hk2, hk3, hk6, h222, hval, hW⟩ := hs h2 hG2 hE2
  have hk5 : iv k = iv k2 := Option.some.inj hk2
  show J (mLaw L xs nm tab) _ _ _ 391 _ (iv _ :: []) _ _ _
  refine j_istore (L' := [(0, _), (1, _), (2, _), (3, _), (4, _), (5, _), (6, _), (7, _)]) dL_law_391 (Nat.le_of_ble_eq_true rfl) rfl ?_
  rw [hk5]
  clear hk5
  refine j_aload_n dL_law_393 rfl rfl ?_
  refine j_callV (c5_thrown hG2) dL_law_394 jc_L_131 jmV_X5_thrown rfl rfl hG2.1 rfl rfl (by simp) jfr_nil (Nat.le_of_ble_eq_true rfl) ⟨Nat.le_of_ble_eq_true rfl, Nat.le_of_ble_eq_true rfl⟩ ⟨by show _ ≤ 603072; omega, by show _ ≤ 7211113; omega⟩ (fun r h3 hp9 => ?_) (fun E h9 q => q.elim)
  obtain ⟨rfl, rfl⟩ := hp9
  show J (mLaw L xs nm tab) _ _ _ 397 _ (iv _ :: []) _ _ _
  refine j_iload dL_law_397 rfl ?_
  refine j_icmp_eq (tgt := 404) dL_law_399 (by decide) (by omega) (fun _ => ?_) (fun z => absurd hk6 z)
  refine j_iload dL_law_404 rfl ?_
  refine j_if_ne (tgt := 421) dL_law_406 (by decide) (by omega) (fun _ => ?_) (fun k0 => ?_)
  · skip
    refine j_goto (tgt := 2150) dL_law_421 (by decide) ?_
    refine J.keep (L' := [(0, .ref 150), (1, .ref 0), (2, .ref 200), (3, .ref 220), (4, .ref 221), (5, iv i)]) [0, 1, 2, 3, 4, 5] rfl ?_
    exact htail _ _ _ hW (by omega) (by omega)
  · skip
    refine j_aload_n dL_law_409 rfl rfl ?_
    refine j_iconst dL_law_410 ?_
    refine j_laload dL_law_411 h222 ⟨by decide, by decide⟩ (by decide) ?_
    refine j_iload dL_law_412 rfl ?_
    refine j_i2lz dL_law_414 ?_
    rw [hval k0]
    refine j_lcmp dL_law_415 ⟨(nz_r _).1, (nz_r _).2, (nz_r _).1, (nz_r _).2⟩ ?_
    rw [if_neg (Int.lt_irrefl _), if_pos rfl]
    refine j_if_eq (tgt := 421) dL_law_416 (by decide) (by decide) (fun _ => ?_) (fun z => absurd rfl z)
    refine j_goto (tgt := 2150) dL_law_421 (by decide) ?_
    refine J.keep (L' := [(0, .ref 150), (1, .ref 0), (2, .ref 200), (3, .ref 220), (4, .ref 221), (5, iv i)]) [0, 1, 2, 3, 4, 5] rfl ?_
    exact htail _ _ _ hW (by omega) (by omega)
set_option maxHeartbeats 4000000 in
theorem lc_personOf {L : Nat} {xs : Nat → Int32} {nm : String} {tab : List (Nat × Nat × Nat × Nat)} {Z : jFin} {i B : Int} {nc ns : Nat} {K Ks : fS} {P : Int → fS} {X I : fS} {c : Int} {t : Int → Int} {G : fS} {h : jH} {f : Int → Int} (hL : L ≤ 2048) (hi : 0 ≤ i ∧ i + 4 ≤ L) (hI : lI B K Ks P X I c t G h) (h220 : h 220 = some (jA 4 1 f)) (hB : B + 31000 ≤ 20000000) (hb : 0 ≤ B) (hnc : nc + 11 ≤ 603072 ∧ ns + 346 ≤ 7211113) (htail : ∀ (h' : jH) (nc' ns' : Nat), lW (B + 31000) h' → nc' ≤ nc + 11 → ns' ≤ ns + 346 → J (mLaw L xs nm tab) room_1 lnw Z 2150 [(0, .ref 150), (1, .ref 0), (2, .ref 200), (3, .ref 220), (4, .ref 221), (5, iv i)] [] h' nc' ns') : J (mLaw L xs nm tab) room_1 lnw Z 424 [(0, .ref 150), (1, .ref 0), (2, .ref 200), (3, .ref 220), (4, .ref 221), (5, iv i)] [] h nc ns := by
  refine j_aload_n dL_law_424 rfl rfl ?_
  refine j_aload_n dL_law_425 rfl rfl ?_
  refine j_iload dL_law_426 rfl ?_
  refine j_iconst dL_law_428 ?_
  refine j_iadd dL_law_429 ?_
  refine j_sarr dL_law_430 ⟨by omega, by omega⟩ hL ?_
  refine j_aload_n dL_law_431 rfl rfl ?_
  refine j_iload dL_law_432 rfl ?_
  refine j_iconst dL_law_434 ?_
  refine j_iadd dL_law_435 ?_
  refine j_sarr dL_law_436 ⟨by omega, by omega⟩ hL ?_
  refine j_aload_n dL_law_437 rfl rfl ?_
  refine j_callSW (o_personOf hI hB hb h220 (p := (sc xs (i + 1))) (w := (sc xs (i + 2))) (sc_r _ _) (sc_r _ _)) dL_law_438 jc_L_145 jmS_L_personOf (fun q => by cases q) rfl rfl (by decide) (jfr_of rfl rfl) (Nat.le_of_ble_eq_true rfl) ⟨Nat.le_of_ble_eq_true rfl, Nat.le_of_ble_eq_true rfl⟩ ⟨by show _ ≤ 603072; omega, by show _ ≤ 7211113; omega⟩ (fun r h1 hp9 => ?_)
  obtain ⟨hk1, ⟨k, rfl⟩, hs⟩ := hp9
  have hG := hI.2.1.eq okM fun j j0 j1 => hk1 j (by omega) (by have j1 : j < 200 + 10 := j1; omega)
  have hm : kI B (mK (G 0)) := by rw [← hI.k.1]; exact hI.k.2
  have hp9 := hI.2.2.1.2.2.1.2.1
  have h79 := hI.2.2.1.2.2.2.1.2.2.2.1
  have hT := hI.2.2.1.2.2.2.2.2.2.2.1
  have hOb := hI.2.2.1.2.2.2.2.2.2.2.2
  have h13 := hI.2.2.1.2.2.2.2.1.2.2.2
  have h14 : 0 ≤ G 14 0 ∧ G 14 0 ≤ 40 := by have a := hI.2.2.1.2.2.2.2.1.1; have b := hI.2.2.1.2.2.2.2.1.2.1; omega
  have hs3 : G 3 0 = 0 ∨ G 3 0 = 1 := by rcases hI.2.2.1.2.1.2.1 with q | q <;> omega
  show J (mLaw L xs nm tab) _ _ _ 441 _ (iv k :: []) _ _ _
  refine j_istore (L' := [(0, _), (1, _), (2, _), (3, _), (4, _), (5, _), (6, _)]) dL_law_441 (Nat.le_of_ble_eq_true rfl) rfl ?_
  refine j_aload_n dL_law_443 rfl rfl ?_
  refine j_aload_n dL_law_444 rfl rfl ?_
  refine j_iload dL_law_445 rfl ?_
  refine j_iconst dL_law_447 ?_
  refine j_iadd dL_law_448 ?_
  refine j_sarr dL_law_449 ⟨by omega, by omega⟩ hL ?_
  refine j_aload_n dL_law_450 rfl rfl ?_
  refine j_iload dL_law_451 rfl ?_
  refine j_iconst dL_law_453 ?_
  refine j_iadd dL_law_454 ?_
  refine j_sarr dL_law_455 ⟨by omega, by omega⟩ hL ?_
  refine j_callV (c5_personOf (p := (sc xs (i + 1))) (w := (sc xs (i + 2))) hG rfl hm.1 hm.2.1 (sc_r _ _) (sc_r _ _)) dL_law_456 jc_L_147 jmV_X5_personOf rfl rfl hG.1 rfl rfl (by simp) jfr_nil (Nat.le_of_ble_eq_true rfl) ⟨Nat.le_of_ble_eq_true rfl, Nat.le_of_ble_eq_true rfl⟩ ⟨by show _ ≤ 603072; omega, by show _ ≤ 7211113; omega⟩ (fun r h2 hp9 => ?_) (fun E h9 q => q.elim)
  obtain ⟨rfl, hG2, hE2⟩ := hp9
  obtain ⟨k2, f2, hk2, hk3, hk6, h222, hval, hW⟩ := hs h2 hG2 hE2
  have hk5 : iv k = iv k2 := Option.some.inj hk2
  show J (mLaw L xs nm tab) _ _ _ 459 _ (iv _ :: []) _ _ _
  refine j_istore (L' := [(0, _), (1, _), (2, _), (3, _), (4, _), (5, _), (6, _), (7, _)]) dL_law_459 (Nat.le_of_ble_eq_true rfl) rfl ?_
  rw [hk5]
  clear hk5
  refine j_aload_n dL_law_461 rfl rfl ?_
  refine j_callV (c5_thrown hG2) dL_law_462 jc_L_131 jmV_X5_thrown rfl rfl hG2.1 rfl rfl (by simp) jfr_nil (Nat.le_of_ble_eq_true rfl) ⟨Nat.le_of_ble_eq_true rfl, Nat.le_of_ble_eq_true rfl⟩ ⟨by show _ ≤ 603072; omega, by show _ ≤ 7211113; omega⟩ (fun r h3 hp9 => ?_) (fun E h9 q => q.elim)
  obtain ⟨rfl, rfl⟩ := hp9
  show J (mLaw L xs nm tab) _ _ _ 465 _ (iv _ :: []) _ _ _
  refine j_iload dL_law_465 rfl ?_
  refine j_icmp_eq (tgt := 472) dL_law_467 (by decide) (by omega) (fun _ => ?_) (fun z => absurd hk6 z)
  refine j_iload dL_law_472 rfl ?_
  refine j_if_ne (tgt := 489) dL_law_474 (by decide) (by omega) (fun _ => ?_) (fun k0 => ?_)
  · skip
    refine j_goto (tgt := 2150) dL_law_489 (by decide) ?_
    refine J.keep (L' := [(0, .ref 150), (1, .ref 0), (2, .ref 200), (3, .ref 220), (4, .ref 221), (5, iv i)]) [0, 1, 2, 3, 4, 5] rfl ?_
    exact htail _ _ _ hW (by omega) (by omega)
  · skip
    refine j_aload_n dL_law_477 rfl rfl ?_
    refine j_iconst dL_law_478 ?_
    refine j_laload dL_law_479 h222 ⟨by decide, by decide⟩ (by decide) ?_
    refine j_iload dL_law_480 rfl ?_
    refine j_i2lz dL_law_482 ?_
    rw [hval k0]
    refine j_lcmp dL_law_483 ⟨(nz_r _).1, (nz_r _).2, (nz_r _).1, (nz_r _).2⟩ ?_
    rw [if_neg (Int.lt_irrefl _), if_pos rfl]
    refine j_if_eq (tgt := 489) dL_law_484 (by decide) (by decide) (fun _ => ?_) (fun z => absurd rfl z)
    refine j_goto (tgt := 2150) dL_law_489 (by decide) ?_
    refine J.keep (L' := [(0, .ref 150), (1, .ref 0), (2, .ref 200), (3, .ref 220), (4, .ref 221), (5, iv i)]) [0, 1, 2, 3, 4, 5] rfl ?_
    exact htail _ _ _ hW (by omega) (by omega)
set_option maxHeartbeats 4000000 in
theorem lc_elder {L : Nat} {xs : Nat → Int32} {nm : String} {tab : List (Nat × Nat × Nat × Nat)} {Z : jFin} {i B : Int} {nc ns : Nat} {K Ks : fS} {P : Int → fS} {X I : fS} {c : Int} {t : Int → Int} {G : fS} {h : jH} {f : Int → Int} (hL : L ≤ 2048) (hi : 0 ≤ i ∧ i + 4 ≤ L) (hI : lI B K Ks P X I c t G h) (h220 : h 220 = some (jA 4 1 f)) (hB : B + 31000 ≤ 20000000) (hb : 0 ≤ B) (hnc : nc + 11 ≤ 603072 ∧ ns + 346 ≤ 7211113) (htail : ∀ (h' : jH) (nc' ns' : Nat), lW (B + 31000) h' → nc' ≤ nc + 11 → ns' ≤ ns + 346 → J (mLaw L xs nm tab) room_1 lnw Z 2150 [(0, .ref 150), (1, .ref 0), (2, .ref 200), (3, .ref 220), (4, .ref 221), (5, iv i)] [] h' nc' ns') : J (mLaw L xs nm tab) room_1 lnw Z 492 [(0, .ref 150), (1, .ref 0), (2, .ref 200), (3, .ref 220), (4, .ref 221), (5, iv i)] [] h nc ns := by
  refine j_aload_n dL_law_492 rfl rfl ?_
  refine j_aload_n dL_law_493 rfl rfl ?_
  refine j_iload dL_law_494 rfl ?_
  refine j_iconst dL_law_496 ?_
  refine j_iadd dL_law_497 ?_
  refine j_sarr dL_law_498 ⟨by omega, by omega⟩ hL ?_
  refine j_aload_n dL_law_499 rfl rfl ?_
  refine j_iload dL_law_500 rfl ?_
  refine j_iconst dL_law_502 ?_
  refine j_iadd dL_law_503 ?_
  refine j_sarr dL_law_504 ⟨by omega, by omega⟩ hL ?_
  refine j_aload_n dL_law_505 rfl rfl ?_
  refine j_iload dL_law_506 rfl ?_
  refine j_iconst dL_law_508 ?_
  refine j_iadd dL_law_509 ?_
  refine j_sarr dL_law_510 ⟨by omega, by omega⟩ hL ?_
  refine j_if_eq (tgt := 518) dL_law_511 (by decide) (sc_r _ _) (fun c9 => ?_) (fun c9 => ?_)
  · skip
    refine j_iconst dL_law_518 ?_
    refine j_aload_n dL_law_519 rfl rfl ?_
    refine j_callSW (o_elder hI hB hb h220 (p := (sc xs (i + 1))) (e := (sc xs (i + 2))) (d := 0) (sc_r _ _) (sc_r _ _) (.inl rfl)) dL_law_520 jc_L_148 jmS_L_elder (fun q => by cases q) rfl rfl (by decide) (jfr_of rfl rfl) (Nat.le_of_ble_eq_true rfl) ⟨Nat.le_of_ble_eq_true rfl, Nat.le_of_ble_eq_true rfl⟩ ⟨by show _ ≤ 603072; omega, by show _ ≤ 7211113; omega⟩ (fun r h1 hp9 => ?_)
    obtain ⟨hk1, ⟨k, rfl⟩, hs⟩ := hp9
    have hG := hI.2.1.eq okM fun j j0 j1 => hk1 j (by omega) (by have j1 : j < 200 + 10 := j1; omega)
    have hm : kI B (mK (G 0)) := by rw [← hI.k.1]; exact hI.k.2
    have hp9 := hI.2.2.1.2.2.1.2.1
    have h79 := hI.2.2.1.2.2.2.1.2.2.2.1
    have hT := hI.2.2.1.2.2.2.2.2.2.2.1
    have hOb := hI.2.2.1.2.2.2.2.2.2.2.2
    have h13 := hI.2.2.1.2.2.2.2.1.2.2.2
    have h14 : 0 ≤ G 14 0 ∧ G 14 0 ≤ 40 := by have a := hI.2.2.1.2.2.2.2.1.1; have b := hI.2.2.1.2.2.2.2.1.2.1; omega
    have hs3 : G 3 0 = 0 ∨ G 3 0 = 1 := by rcases hI.2.2.1.2.1.2.1 with q | q <;> omega
    show J (mLaw L xs nm tab) _ _ _ 523 _ (iv k :: []) _ _ _
    refine j_istore (L' := [(0, _), (1, _), (2, _), (3, _), (4, _), (5, _), (6, _)]) dL_law_523 (Nat.le_of_ble_eq_true rfl) rfl ?_
    refine j_aload_n dL_law_525 rfl rfl ?_
    refine j_aload_n dL_law_526 rfl rfl ?_
    refine j_iload dL_law_527 rfl ?_
    refine j_iconst dL_law_529 ?_
    refine j_iadd dL_law_530 ?_
    refine j_sarr dL_law_531 ⟨by omega, by omega⟩ hL ?_
    refine j_aload_n dL_law_532 rfl rfl ?_
    refine j_iload dL_law_533 rfl ?_
    refine j_iconst dL_law_535 ?_
    refine j_iadd dL_law_536 ?_
    refine j_sarr dL_law_537 ⟨by omega, by omega⟩ hL ?_
    refine j_aload_n dL_law_538 rfl rfl ?_
    refine j_iload dL_law_539 rfl ?_
    refine j_iconst dL_law_541 ?_
    refine j_iadd dL_law_542 ?_
    refine j_sarr dL_law_543 ⟨by omega, by omega⟩ hL ?_
    refine j_if_eq (tgt := 551) dL_law_544 (by decide) (sc_r _ _) (fun _ => ?_) (fun z => absurd c9 z)
    refine j_iconst dL_law_551 ?_
    refine j_callV (c5_elder (p := (sc xs (i + 1))) (e := (sc xs (i + 2))) (a := 0) hG rfl hm.1 hm.2.1 (sc_r _ _) (sc_r _ _)) dL_law_552 jc_L_151 jmV_X5_elder rfl rfl hG.1 rfl rfl (by simp) jfr_nil (Nat.le_of_ble_eq_true rfl) ⟨Nat.le_of_ble_eq_true rfl, Nat.le_of_ble_eq_true rfl⟩ ⟨by show _ ≤ 603072; omega, by show _ ≤ 7211113; omega⟩ (fun r h2 hp9 => ?_) (fun E h9 q => q.elim)
    obtain ⟨rfl, hG2, hE2⟩ := hp9
    obtain ⟨k2, f2, hk2, hk3, hk6, h222, hval, hW⟩ := hs h2 hG2 hE2
    have hk5 : iv k = iv k2 := Option.some.inj hk2
    show J (mLaw L xs nm tab) _ _ _ 555 _ (iv _ :: []) _ _ _
    refine j_istore (L' := [(0, _), (1, _), (2, _), (3, _), (4, _), (5, _), (6, _), (7, _)]) dL_law_555 (Nat.le_of_ble_eq_true rfl) rfl ?_
    rw [hk5]
    clear hk5
    refine j_aload_n dL_law_557 rfl rfl ?_
    refine j_callV (c5_thrown hG2) dL_law_558 jc_L_131 jmV_X5_thrown rfl rfl hG2.1 rfl rfl (by simp) jfr_nil (Nat.le_of_ble_eq_true rfl) ⟨Nat.le_of_ble_eq_true rfl, Nat.le_of_ble_eq_true rfl⟩ ⟨by show _ ≤ 603072; omega, by show _ ≤ 7211113; omega⟩ (fun r h3 hp9 => ?_) (fun E h9 q => q.elim)
    obtain ⟨rfl, rfl⟩ := hp9
    show J (mLaw L xs nm tab) _ _ _ 561 _ (iv _ :: []) _ _ _
    refine j_iload dL_law_561 rfl ?_
    refine j_icmp_eq (tgt := 568) dL_law_563 (by decide) (by omega) (fun _ => ?_) (fun z => absurd hk6 z)
    refine j_iload dL_law_568 rfl ?_
    refine j_if_ne (tgt := 585) dL_law_570 (by decide) (by omega) (fun _ => ?_) (fun k0 => ?_)
    · skip
      refine j_goto (tgt := 2150) dL_law_585 (by decide) ?_
      refine J.keep (L' := [(0, .ref 150), (1, .ref 0), (2, .ref 200), (3, .ref 220), (4, .ref 221), (5, iv i)]) [0, 1, 2, 3, 4, 5] rfl ?_
      exact htail _ _ _ hW (by omega) (by omega)
    · skip
      refine j_aload_n dL_law_573 rfl rfl ?_
      refine j_iconst dL_law_574 ?_
      refine j_laload dL_law_575 h222 ⟨by decide, by decide⟩ (by decide) ?_
      refine j_iload dL_law_576 rfl ?_
      refine j_i2lz dL_law_578 ?_
      rw [hval k0]
      refine j_lcmp dL_law_579 ⟨(nz_r _).1, (nz_r _).2, (nz_r _).1, (nz_r _).2⟩ ?_
      rw [if_neg (Int.lt_irrefl _), if_pos rfl]
      refine j_if_eq (tgt := 585) dL_law_580 (by decide) (by decide) (fun _ => ?_) (fun z => absurd rfl z)
      refine j_goto (tgt := 2150) dL_law_585 (by decide) ?_
      refine J.keep (L' := [(0, .ref 150), (1, .ref 0), (2, .ref 200), (3, .ref 220), (4, .ref 221), (5, iv i)]) [0, 1, 2, 3, 4, 5] rfl ?_
      exact htail _ _ _ hW (by omega) (by omega)
  · skip
    refine j_iconst dL_law_514 ?_
    refine j_goto (tgt := 519) dL_law_515 (by decide) ?_
    refine j_aload_n dL_law_519 rfl rfl ?_
    refine j_callSW (o_elder hI hB hb h220 (p := (sc xs (i + 1))) (e := (sc xs (i + 2))) (d := 1) (sc_r _ _) (sc_r _ _) (.inr rfl)) dL_law_520 jc_L_148 jmS_L_elder (fun q => by cases q) rfl rfl (by decide) (jfr_of rfl rfl) (Nat.le_of_ble_eq_true rfl) ⟨Nat.le_of_ble_eq_true rfl, Nat.le_of_ble_eq_true rfl⟩ ⟨by show _ ≤ 603072; omega, by show _ ≤ 7211113; omega⟩ (fun r h1 hp9 => ?_)
    obtain ⟨hk1, ⟨k, rfl⟩, hs⟩ := hp9
    have hG := hI.2.1.eq okM fun j j0 j1 => hk1 j (by omega) (by have j1 : j < 200 + 10 := j1; omega)
    have hm : kI B (mK (G 0)) := by rw [← hI.k.1]; exact hI.k.2
    have hp9 := hI.2.2.1.2.2.1.2.1
    have h79 := hI.2.2.1.2.2.2.1.2.2.2.1
    have hT := hI.2.2.1.2.2.2.2.2.2.2.1
    have hOb := hI.2.2.1.2.2.2.2.2.2.2.2
    have h13 := hI.2.2.1.2.2.2.2.1.2.2.2
    have h14 : 0 ≤ G 14 0 ∧ G 14 0 ≤ 40 := by have a := hI.2.2.1.2.2.2.2.1.1; have b := hI.2.2.1.2.2.2.2.1.2.1; omega
    have hs3 : G 3 0 = 0 ∨ G 3 0 = 1 := by rcases hI.2.2.1.2.1.2.1 with q | q <;> omega
    show J (mLaw L xs nm tab) _ _ _ 523 _ (iv k :: []) _ _ _
    refine j_istore (L' := [(0, _), (1, _), (2, _), (3, _), (4, _), (5, _), (6, _)]) dL_law_523 (Nat.le_of_ble_eq_true rfl) rfl ?_
    refine j_aload_n dL_law_525 rfl rfl ?_
    refine j_aload_n dL_law_526 rfl rfl ?_
    refine j_iload dL_law_527 rfl ?_
    refine j_iconst dL_law_529 ?_
    refine j_iadd dL_law_530 ?_
    refine j_sarr dL_law_531 ⟨by omega, by omega⟩ hL ?_
    refine j_aload_n dL_law_532 rfl rfl ?_
    refine j_iload dL_law_533 rfl ?_
    refine j_iconst dL_law_535 ?_
    refine j_iadd dL_law_536 ?_
    refine j_sarr dL_law_537 ⟨by omega, by omega⟩ hL ?_
    refine j_aload_n dL_law_538 rfl rfl ?_
    refine j_iload dL_law_539 rfl ?_
    refine j_iconst dL_law_541 ?_
    refine j_iadd dL_law_542 ?_
    refine j_sarr dL_law_543 ⟨by omega, by omega⟩ hL ?_
    refine j_if_eq (tgt := 551) dL_law_544 (by decide) (sc_r _ _) (fun z => absurd z c9) (fun _ => ?_)
    refine j_iconst dL_law_547 ?_
    refine j_goto (tgt := 552) dL_law_548 (by decide) ?_
    refine j_callV (c5_elder (p := (sc xs (i + 1))) (e := (sc xs (i + 2))) (a := 1) hG rfl hm.1 hm.2.1 (sc_r _ _) (sc_r _ _)) dL_law_552 jc_L_151 jmV_X5_elder rfl rfl hG.1 rfl rfl (by simp) jfr_nil (Nat.le_of_ble_eq_true rfl) ⟨Nat.le_of_ble_eq_true rfl, Nat.le_of_ble_eq_true rfl⟩ ⟨by show _ ≤ 603072; omega, by show _ ≤ 7211113; omega⟩ (fun r h2 hp9 => ?_) (fun E h9 q => q.elim)
    obtain ⟨rfl, hG2, hE2⟩ := hp9
    obtain ⟨k2, f2, hk2, hk3, hk6, h222, hval, hW⟩ := hs h2 hG2 hE2
    have hk5 : iv k = iv k2 := Option.some.inj hk2
    show J (mLaw L xs nm tab) _ _ _ 555 _ (iv _ :: []) _ _ _
    refine j_istore (L' := [(0, _), (1, _), (2, _), (3, _), (4, _), (5, _), (6, _), (7, _)]) dL_law_555 (Nat.le_of_ble_eq_true rfl) rfl ?_
    rw [hk5]
    clear hk5
    refine j_aload_n dL_law_557 rfl rfl ?_
    refine j_callV (c5_thrown hG2) dL_law_558 jc_L_131 jmV_X5_thrown rfl rfl hG2.1 rfl rfl (by simp) jfr_nil (Nat.le_of_ble_eq_true rfl) ⟨Nat.le_of_ble_eq_true rfl, Nat.le_of_ble_eq_true rfl⟩ ⟨by show _ ≤ 603072; omega, by show _ ≤ 7211113; omega⟩ (fun r h3 hp9 => ?_) (fun E h9 q => q.elim)
    obtain ⟨rfl, rfl⟩ := hp9
    show J (mLaw L xs nm tab) _ _ _ 561 _ (iv _ :: []) _ _ _
    refine j_iload dL_law_561 rfl ?_
    refine j_icmp_eq (tgt := 568) dL_law_563 (by decide) (by omega) (fun _ => ?_) (fun z => absurd hk6 z)
    refine j_iload dL_law_568 rfl ?_
    refine j_if_ne (tgt := 585) dL_law_570 (by decide) (by omega) (fun _ => ?_) (fun k0 => ?_)
    · skip
      refine j_goto (tgt := 2150) dL_law_585 (by decide) ?_
      refine J.keep (L' := [(0, .ref 150), (1, .ref 0), (2, .ref 200), (3, .ref 220), (4, .ref 221), (5, iv i)]) [0, 1, 2, 3, 4, 5] rfl ?_
      exact htail _ _ _ hW (by omega) (by omega)
    · skip
      refine j_aload_n dL_law_573 rfl rfl ?_
      refine j_iconst dL_law_574 ?_
      refine j_laload dL_law_575 h222 ⟨by decide, by decide⟩ (by decide) ?_
      refine j_iload dL_law_576 rfl ?_
      refine j_i2lz dL_law_578 ?_
      rw [hval k0]
      refine j_lcmp dL_law_579 ⟨(nz_r _).1, (nz_r _).2, (nz_r _).1, (nz_r _).2⟩ ?_
      rw [if_neg (Int.lt_irrefl _), if_pos rfl]
      refine j_if_eq (tgt := 585) dL_law_580 (by decide) (by decide) (fun _ => ?_) (fun z => absurd rfl z)
      refine j_goto (tgt := 2150) dL_law_585 (by decide) ?_
      refine J.keep (L' := [(0, .ref 150), (1, .ref 0), (2, .ref 200), (3, .ref 220), (4, .ref 221), (5, iv i)]) [0, 1, 2, 3, 4, 5] rfl ?_
      exact htail _ _ _ hW (by omega) (by omega)
set_option maxHeartbeats 4000000 in
theorem lc_common {L : Nat} {xs : Nat → Int32} {nm : String} {tab : List (Nat × Nat × Nat × Nat)} {Z : jFin} {i B : Int} {nc ns : Nat} {K Ks : fS} {P : Int → fS} {X I : fS} {c : Int} {t : Int → Int} {G : fS} {h : jH} {f : Int → Int} (hL : L ≤ 2048) (hi : 0 ≤ i ∧ i + 4 ≤ L) (hI : lI B K Ks P X I c t G h) (h220 : h 220 = some (jA 4 1 f)) (hB : B + 31000 ≤ 20000000) (hb : 0 ≤ B) (hnc : nc + 11 ≤ 603072 ∧ ns + 346 ≤ 7211113) (htail : ∀ (h' : jH) (nc' ns' : Nat), lW (B + 31000) h' → nc' ≤ nc + 11 → ns' ≤ ns + 346 → J (mLaw L xs nm tab) room_1 lnw Z 2150 [(0, .ref 150), (1, .ref 0), (2, .ref 200), (3, .ref 220), (4, .ref 221), (5, iv i)] [] h' nc' ns') : J (mLaw L xs nm tab) room_1 lnw Z 588 [(0, .ref 150), (1, .ref 0), (2, .ref 200), (3, .ref 220), (4, .ref 221), (5, iv i)] [] h nc ns := by
  refine j_aload_n dL_law_588 rfl rfl ?_
  refine j_aload_n dL_law_589 rfl rfl ?_
  refine j_iload dL_law_590 rfl ?_
  refine j_iconst dL_law_592 ?_
  refine j_iadd dL_law_593 ?_
  refine j_sarr dL_law_594 ⟨by omega, by omega⟩ hL ?_
  refine j_aload_n dL_law_595 rfl rfl ?_
  refine j_iload dL_law_596 rfl ?_
  refine j_iconst dL_law_598 ?_
  refine j_iadd dL_law_599 ?_
  refine j_sarr dL_law_600 ⟨by omega, by omega⟩ hL ?_
  refine j_aload_n dL_law_601 rfl rfl ?_
  refine j_iload dL_law_602 rfl ?_
  refine j_iconst dL_law_604 ?_
  refine j_iadd dL_law_605 ?_
  refine j_sarr dL_law_606 ⟨by omega, by omega⟩ hL ?_
  refine j_if_eq (tgt := 614) dL_law_607 (by decide) (sc_r _ _) (fun c9 => ?_) (fun c9 => ?_)
  · skip
    refine j_iconst dL_law_614 ?_
    refine j_aload_n dL_law_615 rfl rfl ?_
    refine j_callSW (o_common hI hB hb h220 (p := (sc xs (i + 1))) (o := (sc xs (i + 2))) (d := 0) (sc_r _ _) (sc_r _ _) (.inl rfl)) dL_law_616 jc_L_152 jmS_L_common (fun q => by cases q) rfl rfl (by decide) (jfr_of rfl rfl) (Nat.le_of_ble_eq_true rfl) ⟨Nat.le_of_ble_eq_true rfl, Nat.le_of_ble_eq_true rfl⟩ ⟨by show _ ≤ 603072; omega, by show _ ≤ 7211113; omega⟩ (fun r h1 hp9 => ?_)
    obtain ⟨hk1, ⟨k, rfl⟩, hs⟩ := hp9
    have hG := hI.2.1.eq okM fun j j0 j1 => hk1 j (by omega) (by have j1 : j < 200 + 10 := j1; omega)
    have hm : kI B (mK (G 0)) := by rw [← hI.k.1]; exact hI.k.2
    have hp9 := hI.2.2.1.2.2.1.2.1
    have h79 := hI.2.2.1.2.2.2.1.2.2.2.1
    have hT := hI.2.2.1.2.2.2.2.2.2.2.1
    have hOb := hI.2.2.1.2.2.2.2.2.2.2.2
    have h13 := hI.2.2.1.2.2.2.2.1.2.2.2
    have h14 : 0 ≤ G 14 0 ∧ G 14 0 ≤ 40 := by have a := hI.2.2.1.2.2.2.2.1.1; have b := hI.2.2.1.2.2.2.2.1.2.1; omega
    have hs3 : G 3 0 = 0 ∨ G 3 0 = 1 := by rcases hI.2.2.1.2.1.2.1 with q | q <;> omega
    show J (mLaw L xs nm tab) _ _ _ 619 _ (iv k :: []) _ _ _
    refine j_istore (L' := [(0, _), (1, _), (2, _), (3, _), (4, _), (5, _), (6, _)]) dL_law_619 (Nat.le_of_ble_eq_true rfl) rfl ?_
    refine j_aload_n dL_law_621 rfl rfl ?_
    refine j_aload_n dL_law_622 rfl rfl ?_
    refine j_iload dL_law_623 rfl ?_
    refine j_iconst dL_law_625 ?_
    refine j_iadd dL_law_626 ?_
    refine j_sarr dL_law_627 ⟨by omega, by omega⟩ hL ?_
    refine j_aload_n dL_law_628 rfl rfl ?_
    refine j_iload dL_law_629 rfl ?_
    refine j_iconst dL_law_631 ?_
    refine j_iadd dL_law_632 ?_
    refine j_sarr dL_law_633 ⟨by omega, by omega⟩ hL ?_
    refine j_aload_n dL_law_634 rfl rfl ?_
    refine j_iload dL_law_635 rfl ?_
    refine j_iconst dL_law_637 ?_
    refine j_iadd dL_law_638 ?_
    refine j_sarr dL_law_639 ⟨by omega, by omega⟩ hL ?_
    refine j_if_eq (tgt := 647) dL_law_640 (by decide) (sc_r _ _) (fun _ => ?_) (fun z => absurd c9 z)
    refine j_iconst dL_law_647 ?_
    refine j_callV (c5_common (p := (sc xs (i + 1))) (o := (sc xs (i + 2))) (a := 0) hG rfl hm.1 hm.2.1 (sc_r _ _) (sc_r _ _)) dL_law_648 jc_L_154 jmV_X5_common rfl rfl hG.1 rfl rfl (by simp) jfr_nil (Nat.le_of_ble_eq_true rfl) ⟨Nat.le_of_ble_eq_true rfl, Nat.le_of_ble_eq_true rfl⟩ ⟨by show _ ≤ 603072; omega, by show _ ≤ 7211113; omega⟩ (fun r h2 hp9 => ?_) (fun E h9 q => q.elim)
    obtain ⟨rfl, hG2, hE2⟩ := hp9
    obtain ⟨k2, f2, hk2, hk3, hk6, h222, hval, hW⟩ := hs h2 hG2 hE2
    have hk5 : iv k = iv k2 := Option.some.inj hk2
    show J (mLaw L xs nm tab) _ _ _ 651 _ (iv _ :: []) _ _ _
    refine j_istore (L' := [(0, _), (1, _), (2, _), (3, _), (4, _), (5, _), (6, _), (7, _)]) dL_law_651 (Nat.le_of_ble_eq_true rfl) rfl ?_
    rw [hk5]
    clear hk5
    refine j_aload_n dL_law_653 rfl rfl ?_
    refine j_callV (c5_thrown hG2) dL_law_654 jc_L_131 jmV_X5_thrown rfl rfl hG2.1 rfl rfl (by simp) jfr_nil (Nat.le_of_ble_eq_true rfl) ⟨Nat.le_of_ble_eq_true rfl, Nat.le_of_ble_eq_true rfl⟩ ⟨by show _ ≤ 603072; omega, by show _ ≤ 7211113; omega⟩ (fun r h3 hp9 => ?_) (fun E h9 q => q.elim)
    obtain ⟨rfl, rfl⟩ := hp9
    show J (mLaw L xs nm tab) _ _ _ 657 _ (iv _ :: []) _ _ _
    refine j_iload dL_law_657 rfl ?_
    refine j_icmp_eq (tgt := 664) dL_law_659 (by decide) (by omega) (fun _ => ?_) (fun z => absurd hk6 z)
    refine j_iload dL_law_664 rfl ?_
    refine j_if_ne (tgt := 681) dL_law_666 (by decide) (by omega) (fun _ => ?_) (fun k0 => ?_)
    · skip
      refine j_goto (tgt := 2150) dL_law_681 (by decide) ?_
      refine J.keep (L' := [(0, .ref 150), (1, .ref 0), (2, .ref 200), (3, .ref 220), (4, .ref 221), (5, iv i)]) [0, 1, 2, 3, 4, 5] rfl ?_
      exact htail _ _ _ hW (by omega) (by omega)
    · skip
      refine j_aload_n dL_law_669 rfl rfl ?_
      refine j_iconst dL_law_670 ?_
      refine j_laload dL_law_671 h222 ⟨by decide, by decide⟩ (by decide) ?_
      refine j_iload dL_law_672 rfl ?_
      refine j_i2lz dL_law_674 ?_
      rw [hval k0]
      refine j_lcmp dL_law_675 ⟨(nz_r _).1, (nz_r _).2, (nz_r _).1, (nz_r _).2⟩ ?_
      rw [if_neg (Int.lt_irrefl _), if_pos rfl]
      refine j_if_eq (tgt := 681) dL_law_676 (by decide) (by decide) (fun _ => ?_) (fun z => absurd rfl z)
      refine j_goto (tgt := 2150) dL_law_681 (by decide) ?_
      refine J.keep (L' := [(0, .ref 150), (1, .ref 0), (2, .ref 200), (3, .ref 220), (4, .ref 221), (5, iv i)]) [0, 1, 2, 3, 4, 5] rfl ?_
      exact htail _ _ _ hW (by omega) (by omega)
  · skip
    refine j_iconst dL_law_610 ?_
    refine j_goto (tgt := 615) dL_law_611 (by decide) ?_
    refine j_aload_n dL_law_615 rfl rfl ?_
    refine j_callSW (o_common hI hB hb h220 (p := (sc xs (i + 1))) (o := (sc xs (i + 2))) (d := 1) (sc_r _ _) (sc_r _ _) (.inr rfl)) dL_law_616 jc_L_152 jmS_L_common (fun q => by cases q) rfl rfl (by decide) (jfr_of rfl rfl) (Nat.le_of_ble_eq_true rfl) ⟨Nat.le_of_ble_eq_true rfl, Nat.le_of_ble_eq_true rfl⟩ ⟨by show _ ≤ 603072; omega, by show _ ≤ 7211113; omega⟩ (fun r h1 hp9 => ?_)
    obtain ⟨hk1, ⟨k, rfl⟩, hs⟩ := hp9
    have hG := hI.2.1.eq okM fun j j0 j1 => hk1 j (by omega) (by have j1 : j < 200 + 10 := j1; omega)
    have hm : kI B (mK (G 0)) := by rw [← hI.k.1]; exact hI.k.2
    have hp9 := hI.2.2.1.2.2.1.2.1
    have h79 := hI.2.2.1.2.2.2.1.2.2.2.1
    have hT := hI.2.2.1.2.2.2.2.2.2.2.1
    have hOb := hI.2.2.1.2.2.2.2.2.2.2.2
    have h13 := hI.2.2.1.2.2.2.2.1.2.2.2
    have h14 : 0 ≤ G 14 0 ∧ G 14 0 ≤ 40 := by have a := hI.2.2.1.2.2.2.2.1.1; have b := hI.2.2.1.2.2.2.2.1.2.1; omega
    have hs3 : G 3 0 = 0 ∨ G 3 0 = 1 := by rcases hI.2.2.1.2.1.2.1 with q | q <;> omega
    show J (mLaw L xs nm tab) _ _ _ 619 _ (iv k :: []) _ _ _
    refine j_istore (L' := [(0, _), (1, _), (2, _), (3, _), (4, _), (5, _), (6, _)]) dL_law_619 (Nat.le_of_ble_eq_true rfl) rfl ?_
    refine j_aload_n dL_law_621 rfl rfl ?_
    refine j_aload_n dL_law_622 rfl rfl ?_
    refine j_iload dL_law_623 rfl ?_
    refine j_iconst dL_law_625 ?_
    refine j_iadd dL_law_626 ?_
    refine j_sarr dL_law_627 ⟨by omega, by omega⟩ hL ?_
    refine j_aload_n dL_law_628 rfl rfl ?_
    refine j_iload dL_law_629 rfl ?_
    refine j_iconst dL_law_631 ?_
    refine j_iadd dL_law_632 ?_
    refine j_sarr dL_law_633 ⟨by omega, by omega⟩ hL ?_
    refine j_aload_n dL_law_634 rfl rfl ?_
    refine j_iload dL_law_635 rfl ?_
    refine j_iconst dL_law_637 ?_
    refine j_iadd dL_law_638 ?_
    refine j_sarr dL_law_639 ⟨by omega, by omega⟩ hL ?_
    refine j_if_eq (tgt := 647) dL_law_640 (by decide) (sc_r _ _) (fun z => absurd z c9) (fun _ => ?_)
    refine j_iconst dL_law_643 ?_
    refine j_goto (tgt := 648) dL_law_644 (by decide) ?_
    refine j_callV (c5_common (p := (sc xs (i + 1))) (o := (sc xs (i + 2))) (a := 1) hG rfl hm.1 hm.2.1 (sc_r _ _) (sc_r _ _)) dL_law_648 jc_L_154 jmV_X5_common rfl rfl hG.1 rfl rfl (by simp) jfr_nil (Nat.le_of_ble_eq_true rfl) ⟨Nat.le_of_ble_eq_true rfl, Nat.le_of_ble_eq_true rfl⟩ ⟨by show _ ≤ 603072; omega, by show _ ≤ 7211113; omega⟩ (fun r h2 hp9 => ?_) (fun E h9 q => q.elim)
    obtain ⟨rfl, hG2, hE2⟩ := hp9
    obtain ⟨k2, f2, hk2, hk3, hk6, h222, hval, hW⟩ := hs h2 hG2 hE2
    have hk5 : iv k = iv k2 := Option.some.inj hk2
    show J (mLaw L xs nm tab) _ _ _ 651 _ (iv _ :: []) _ _ _
    refine j_istore (L' := [(0, _), (1, _), (2, _), (3, _), (4, _), (5, _), (6, _), (7, _)]) dL_law_651 (Nat.le_of_ble_eq_true rfl) rfl ?_
    rw [hk5]
    clear hk5
    refine j_aload_n dL_law_653 rfl rfl ?_
    refine j_callV (c5_thrown hG2) dL_law_654 jc_L_131 jmV_X5_thrown rfl rfl hG2.1 rfl rfl (by simp) jfr_nil (Nat.le_of_ble_eq_true rfl) ⟨Nat.le_of_ble_eq_true rfl, Nat.le_of_ble_eq_true rfl⟩ ⟨by show _ ≤ 603072; omega, by show _ ≤ 7211113; omega⟩ (fun r h3 hp9 => ?_) (fun E h9 q => q.elim)
    obtain ⟨rfl, rfl⟩ := hp9
    show J (mLaw L xs nm tab) _ _ _ 657 _ (iv _ :: []) _ _ _
    refine j_iload dL_law_657 rfl ?_
    refine j_icmp_eq (tgt := 664) dL_law_659 (by decide) (by omega) (fun _ => ?_) (fun z => absurd hk6 z)
    refine j_iload dL_law_664 rfl ?_
    refine j_if_ne (tgt := 681) dL_law_666 (by decide) (by omega) (fun _ => ?_) (fun k0 => ?_)
    · skip
      refine j_goto (tgt := 2150) dL_law_681 (by decide) ?_
      refine J.keep (L' := [(0, .ref 150), (1, .ref 0), (2, .ref 200), (3, .ref 220), (4, .ref 221), (5, iv i)]) [0, 1, 2, 3, 4, 5] rfl ?_
      exact htail _ _ _ hW (by omega) (by omega)
    · skip
      refine j_aload_n dL_law_669 rfl rfl ?_
      refine j_iconst dL_law_670 ?_
      refine j_laload dL_law_671 h222 ⟨by decide, by decide⟩ (by decide) ?_
      refine j_iload dL_law_672 rfl ?_
      refine j_i2lz dL_law_674 ?_
      rw [hval k0]
      refine j_lcmp dL_law_675 ⟨(nz_r _).1, (nz_r _).2, (nz_r _).1, (nz_r _).2⟩ ?_
      rw [if_neg (Int.lt_irrefl _), if_pos rfl]
      refine j_if_eq (tgt := 681) dL_law_676 (by decide) (by decide) (fun _ => ?_) (fun z => absurd rfl z)
      refine j_goto (tgt := 2150) dL_law_681 (by decide) ?_
      refine J.keep (L' := [(0, .ref 150), (1, .ref 0), (2, .ref 200), (3, .ref 220), (4, .ref 221), (5, iv i)]) [0, 1, 2, 3, 4, 5] rfl ?_
      exact htail _ _ _ hW (by omega) (by omega)
set_option maxHeartbeats 4000000 in
theorem lc_degree {L : Nat} {xs : Nat → Int32} {nm : String} {tab : List (Nat × Nat × Nat × Nat)} {Z : jFin} {i B : Int} {nc ns : Nat} {K Ks : fS} {P : Int → fS} {X I : fS} {c : Int} {t : Int → Int} {G : fS} {h : jH} {f : Int → Int} (hL : L ≤ 2048) (hi : 0 ≤ i ∧ i + 4 ≤ L) (hI : lI B K Ks P X I c t G h) (h220 : h 220 = some (jA 4 1 f)) (hB : B + 31000 ≤ 20000000) (hb : 0 ≤ B) (hnc : nc + 11 ≤ 603072 ∧ ns + 346 ≤ 7211113) (htail : ∀ (h' : jH) (nc' ns' : Nat), lW (B + 31000) h' → nc' ≤ nc + 11 → ns' ≤ ns + 346 → J (mLaw L xs nm tab) room_1 lnw Z 2150 [(0, .ref 150), (1, .ref 0), (2, .ref 200), (3, .ref 220), (4, .ref 221), (5, iv i)] [] h' nc' ns') : J (mLaw L xs nm tab) room_1 lnw Z 684 [(0, .ref 150), (1, .ref 0), (2, .ref 200), (3, .ref 220), (4, .ref 221), (5, iv i)] [] h nc ns := by
  refine j_aload_n dL_law_684 rfl rfl ?_
  refine j_aload_n dL_law_685 rfl rfl ?_
  refine j_iload dL_law_686 rfl ?_
  refine j_iconst dL_law_688 ?_
  refine j_iadd dL_law_689 ?_
  refine j_sarr dL_law_690 ⟨by omega, by omega⟩ hL ?_
  refine j_aload_n dL_law_691 rfl rfl ?_
  refine j_iload dL_law_692 rfl ?_
  refine j_iconst dL_law_694 ?_
  refine j_iadd dL_law_695 ?_
  refine j_sarr dL_law_696 ⟨by omega, by omega⟩ hL ?_
  refine j_aload_n dL_law_697 rfl rfl ?_
  refine j_callSW (o_degree hI hB hb h220 (p := (sc xs (i + 1))) (o := (sc xs (i + 2))) (sc_r _ _) (sc_r _ _)) dL_law_698 jc_L_155 jmS_L_degree (fun q => by cases q) rfl rfl (by decide) (jfr_of rfl rfl) (Nat.le_of_ble_eq_true rfl) ⟨Nat.le_of_ble_eq_true rfl, Nat.le_of_ble_eq_true rfl⟩ ⟨by show _ ≤ 603072; omega, by show _ ≤ 7211113; omega⟩ (fun r h1 hp9 => ?_)
  obtain ⟨hk1, ⟨k, rfl⟩, hs⟩ := hp9
  have hG := hI.2.1.eq okM fun j j0 j1 => hk1 j (by omega) (by have j1 : j < 200 + 10 := j1; omega)
  have hm : kI B (mK (G 0)) := by rw [← hI.k.1]; exact hI.k.2
  have hp9 := hI.2.2.1.2.2.1.2.1
  have h79 := hI.2.2.1.2.2.2.1.2.2.2.1
  have hT := hI.2.2.1.2.2.2.2.2.2.2.1
  have hOb := hI.2.2.1.2.2.2.2.2.2.2.2
  have h13 := hI.2.2.1.2.2.2.2.1.2.2.2
  have h14 : 0 ≤ G 14 0 ∧ G 14 0 ≤ 40 := by have a := hI.2.2.1.2.2.2.2.1.1; have b := hI.2.2.1.2.2.2.2.1.2.1; omega
  have hs3 : G 3 0 = 0 ∨ G 3 0 = 1 := by rcases hI.2.2.1.2.1.2.1 with q | q <;> omega
  show J (mLaw L xs nm tab) _ _ _ 701 _ (iv k :: []) _ _ _
  refine j_istore (L' := [(0, _), (1, _), (2, _), (3, _), (4, _), (5, _), (6, _)]) dL_law_701 (Nat.le_of_ble_eq_true rfl) rfl ?_
  refine j_aload_n dL_law_703 rfl rfl ?_
  refine j_aload_n dL_law_704 rfl rfl ?_
  refine j_iload dL_law_705 rfl ?_
  refine j_iconst dL_law_707 ?_
  refine j_iadd dL_law_708 ?_
  refine j_sarr dL_law_709 ⟨by omega, by omega⟩ hL ?_
  refine j_aload_n dL_law_710 rfl rfl ?_
  refine j_iload dL_law_711 rfl ?_
  refine j_iconst dL_law_713 ?_
  refine j_iadd dL_law_714 ?_
  refine j_sarr dL_law_715 ⟨by omega, by omega⟩ hL ?_
  refine j_callV (c5_degree (p := (sc xs (i + 1))) (o := (sc xs (i + 2))) hG rfl hm.1 hm.2.1 (sc_r _ _) (sc_r _ _)) dL_law_716 jc_L_157 jmV_X5_degree rfl rfl hG.1 rfl rfl (by simp) jfr_nil (Nat.le_of_ble_eq_true rfl) ⟨Nat.le_of_ble_eq_true rfl, Nat.le_of_ble_eq_true rfl⟩ ⟨by show _ ≤ 603072; omega, by show _ ≤ 7211113; omega⟩ (fun r h2 hp9 => ?_) (fun E h9 q => q.elim)
  obtain ⟨rfl, hG2, hE2⟩ := hp9
  obtain ⟨k2, f2, hk2, hk3, hk6, h222, hval, hW⟩ := hs h2 hG2 hE2
  have hk5 : iv k = iv k2 := Option.some.inj hk2
  show J (mLaw L xs nm tab) _ _ _ 719 _ (iv _ :: []) _ _ _
  refine j_istore (L' := [(0, _), (1, _), (2, _), (3, _), (4, _), (5, _), (6, _), (7, _)]) dL_law_719 (Nat.le_of_ble_eq_true rfl) rfl ?_
  rw [hk5]
  clear hk5
  refine j_aload_n dL_law_721 rfl rfl ?_
  refine j_callV (c5_thrown hG2) dL_law_722 jc_L_131 jmV_X5_thrown rfl rfl hG2.1 rfl rfl (by simp) jfr_nil (Nat.le_of_ble_eq_true rfl) ⟨Nat.le_of_ble_eq_true rfl, Nat.le_of_ble_eq_true rfl⟩ ⟨by show _ ≤ 603072; omega, by show _ ≤ 7211113; omega⟩ (fun r h3 hp9 => ?_) (fun E h9 q => q.elim)
  obtain ⟨rfl, rfl⟩ := hp9
  show J (mLaw L xs nm tab) _ _ _ 725 _ (iv _ :: []) _ _ _
  refine j_iload dL_law_725 rfl ?_
  refine j_icmp_eq (tgt := 732) dL_law_727 (by decide) (by omega) (fun _ => ?_) (fun z => absurd hk6 z)
  refine j_iload dL_law_732 rfl ?_
  refine j_if_ne (tgt := 749) dL_law_734 (by decide) (by omega) (fun _ => ?_) (fun k0 => ?_)
  · skip
    refine j_goto (tgt := 2150) dL_law_749 (by decide) ?_
    refine J.keep (L' := [(0, .ref 150), (1, .ref 0), (2, .ref 200), (3, .ref 220), (4, .ref 221), (5, iv i)]) [0, 1, 2, 3, 4, 5] rfl ?_
    exact htail _ _ _ hW (by omega) (by omega)
  · skip
    refine j_aload_n dL_law_737 rfl rfl ?_
    refine j_iconst dL_law_738 ?_
    refine j_laload dL_law_739 h222 ⟨by decide, by decide⟩ (by decide) ?_
    refine j_iload dL_law_740 rfl ?_
    refine j_i2lz dL_law_742 ?_
    rw [hval k0]
    refine j_lcmp dL_law_743 ⟨(nz_r _).1, (nz_r _).2, (nz_r _).1, (nz_r _).2⟩ ?_
    rw [if_neg (Int.lt_irrefl _), if_pos rfl]
    refine j_if_eq (tgt := 749) dL_law_744 (by decide) (by decide) (fun _ => ?_) (fun z => absurd rfl z)
    refine j_goto (tgt := 2150) dL_law_749 (by decide) ?_
    refine J.keep (L' := [(0, .ref 150), (1, .ref 0), (2, .ref 200), (3, .ref 220), (4, .ref 221), (5, iv i)]) [0, 1, 2, 3, 4, 5] rfl ?_
    exact htail _ _ _ hW (by omega) (by omega)
set_option maxHeartbeats 4000000 in
theorem lc_leaps {L : Nat} {xs : Nat → Int32} {nm : String} {tab : List (Nat × Nat × Nat × Nat)} {Z : jFin} {i B : Int} {nc ns : Nat} {K Ks : fS} {P : Int → fS} {X I : fS} {c : Int} {t : Int → Int} {G : fS} {h : jH} {f : Int → Int} (hL : L ≤ 2048) (hi : 0 ≤ i ∧ i + 4 ≤ L) (hI : lI B K Ks P X I c t G h) (h220 : h 220 = some (jA 4 1 f)) (hB : B + 31000 ≤ 20000000) (hb : 0 ≤ B) (hnc : nc + 11 ≤ 603072 ∧ ns + 346 ≤ 7211113) (htail : ∀ (h' : jH) (nc' ns' : Nat), lW (B + 31000) h' → nc' ≤ nc + 11 → ns' ≤ ns + 346 → J (mLaw L xs nm tab) room_1 lnw Z 2150 [(0, .ref 150), (1, .ref 0), (2, .ref 200), (3, .ref 220), (4, .ref 221), (5, iv i)] [] h' nc' ns') : J (mLaw L xs nm tab) room_1 lnw Z 752 [(0, .ref 150), (1, .ref 0), (2, .ref 200), (3, .ref 220), (4, .ref 221), (5, iv i)] [] h nc ns := by
  refine j_aload_n dL_law_752 rfl rfl ?_
  refine j_aload_n dL_law_753 rfl rfl ?_
  refine j_iload dL_law_754 rfl ?_
  refine j_iconst dL_law_756 ?_
  refine j_iadd dL_law_757 ?_
  refine j_sarr dL_law_758 ⟨by omega, by omega⟩ hL ?_
  refine j_aload_n dL_law_759 rfl rfl ?_
  refine j_iload dL_law_760 rfl ?_
  refine j_iconst dL_law_762 ?_
  refine j_iadd dL_law_763 ?_
  refine j_sarr dL_law_764 ⟨by omega, by omega⟩ hL ?_
  refine j_aload_n dL_law_765 rfl rfl ?_
  refine j_callSW (o_leaps hI hB hb h220 (p := (sc xs (i + 1))) (e := (sc xs (i + 2))) (sc_r _ _) (sc_r _ _)) dL_law_766 jc_L_158 jmS_L_leaps (fun q => by cases q) rfl rfl (by decide) (jfr_of rfl rfl) (Nat.le_of_ble_eq_true rfl) ⟨Nat.le_of_ble_eq_true rfl, Nat.le_of_ble_eq_true rfl⟩ ⟨by show _ ≤ 603072; omega, by show _ ≤ 7211113; omega⟩ (fun r h1 hp9 => ?_)
  obtain ⟨hk1, ⟨k, rfl⟩, hs⟩ := hp9
  have hG := hI.2.1.eq okM fun j j0 j1 => hk1 j (by omega) (by have j1 : j < 200 + 10 := j1; omega)
  have hm : kI B (mK (G 0)) := by rw [← hI.k.1]; exact hI.k.2
  have hp9 := hI.2.2.1.2.2.1.2.1
  have h79 := hI.2.2.1.2.2.2.1.2.2.2.1
  have hT := hI.2.2.1.2.2.2.2.2.2.2.1
  have hOb := hI.2.2.1.2.2.2.2.2.2.2.2
  have h13 := hI.2.2.1.2.2.2.2.1.2.2.2
  have h14 : 0 ≤ G 14 0 ∧ G 14 0 ≤ 40 := by have a := hI.2.2.1.2.2.2.2.1.1; have b := hI.2.2.1.2.2.2.2.1.2.1; omega
  have hs3 : G 3 0 = 0 ∨ G 3 0 = 1 := by rcases hI.2.2.1.2.1.2.1 with q | q <;> omega
  show J (mLaw L xs nm tab) _ _ _ 769 _ (iv k :: []) _ _ _
  refine j_istore (L' := [(0, _), (1, _), (2, _), (3, _), (4, _), (5, _), (6, _)]) dL_law_769 (Nat.le_of_ble_eq_true rfl) rfl ?_
  refine j_aload_n dL_law_771 rfl rfl ?_
  refine j_aload_n dL_law_772 rfl rfl ?_
  refine j_iload dL_law_773 rfl ?_
  refine j_iconst dL_law_775 ?_
  refine j_iadd dL_law_776 ?_
  refine j_sarr dL_law_777 ⟨by omega, by omega⟩ hL ?_
  refine j_aload_n dL_law_778 rfl rfl ?_
  refine j_iload dL_law_779 rfl ?_
  refine j_iconst dL_law_781 ?_
  refine j_iadd dL_law_782 ?_
  refine j_sarr dL_law_783 ⟨by omega, by omega⟩ hL ?_
  refine j_callV (c5_leaps (p := (sc xs (i + 1))) (e := (sc xs (i + 2))) hG rfl hm.1 hm.2.1 (sc_r _ _) (sc_r _ _)) dL_law_784 jc_L_160 jmV_X5_leaps rfl rfl hG.1 rfl rfl (by simp) jfr_nil (Nat.le_of_ble_eq_true rfl) ⟨Nat.le_of_ble_eq_true rfl, Nat.le_of_ble_eq_true rfl⟩ ⟨by show _ ≤ 603072; omega, by show _ ≤ 7211113; omega⟩ (fun r h2 hp9 => ?_) (fun E h9 q => q.elim)
  obtain ⟨rfl, hG2, hE2⟩ := hp9
  obtain ⟨k2, f2, hk2, hk3, hk6, h222, hval, hW⟩ := hs h2 hG2 hE2
  have hk5 : iv k = iv k2 := Option.some.inj hk2
  show J (mLaw L xs nm tab) _ _ _ 787 _ (iv _ :: []) _ _ _
  refine j_istore (L' := [(0, _), (1, _), (2, _), (3, _), (4, _), (5, _), (6, _), (7, _)]) dL_law_787 (Nat.le_of_ble_eq_true rfl) rfl ?_
  rw [hk5]
  clear hk5
  refine j_aload_n dL_law_789 rfl rfl ?_
  refine j_callV (c5_thrown hG2) dL_law_790 jc_L_131 jmV_X5_thrown rfl rfl hG2.1 rfl rfl (by simp) jfr_nil (Nat.le_of_ble_eq_true rfl) ⟨Nat.le_of_ble_eq_true rfl, Nat.le_of_ble_eq_true rfl⟩ ⟨by show _ ≤ 603072; omega, by show _ ≤ 7211113; omega⟩ (fun r h3 hp9 => ?_) (fun E h9 q => q.elim)
  obtain ⟨rfl, rfl⟩ := hp9
  show J (mLaw L xs nm tab) _ _ _ 793 _ (iv _ :: []) _ _ _
  refine j_iload dL_law_793 rfl ?_
  refine j_icmp_eq (tgt := 800) dL_law_795 (by decide) (by omega) (fun _ => ?_) (fun z => absurd hk6 z)
  refine j_iload dL_law_800 rfl ?_
  refine j_if_ne (tgt := 817) dL_law_802 (by decide) (by omega) (fun _ => ?_) (fun k0 => ?_)
  · skip
    refine j_goto (tgt := 2150) dL_law_817 (by decide) ?_
    refine J.keep (L' := [(0, .ref 150), (1, .ref 0), (2, .ref 200), (3, .ref 220), (4, .ref 221), (5, iv i)]) [0, 1, 2, 3, 4, 5] rfl ?_
    exact htail _ _ _ hW (by omega) (by omega)
  · skip
    refine j_aload_n dL_law_805 rfl rfl ?_
    refine j_iconst dL_law_806 ?_
    refine j_laload dL_law_807 h222 ⟨by decide, by decide⟩ (by decide) ?_
    refine j_iload dL_law_808 rfl ?_
    refine j_i2lz dL_law_810 ?_
    rw [hval k0]
    refine j_lcmp dL_law_811 ⟨(nz_r _).1, (nz_r _).2, (nz_r _).1, (nz_r _).2⟩ ?_
    rw [if_neg (Int.lt_irrefl _), if_pos rfl]
    refine j_if_eq (tgt := 817) dL_law_812 (by decide) (by decide) (fun _ => ?_) (fun z => absurd rfl z)
    refine j_goto (tgt := 2150) dL_law_817 (by decide) ?_
    refine J.keep (L' := [(0, .ref 150), (1, .ref 0), (2, .ref 200), (3, .ref 220), (4, .ref 221), (5, iv i)]) [0, 1, 2, 3, 4, 5] rfl ?_
    exact htail _ _ _ hW (by omega) (by omega)
set_option maxHeartbeats 4000000 in
theorem lc_farthest {L : Nat} {xs : Nat → Int32} {nm : String} {tab : List (Nat × Nat × Nat × Nat)} {Z : jFin} {i B : Int} {nc ns : Nat} {K Ks : fS} {P : Int → fS} {X I : fS} {c : Int} {t : Int → Int} {G : fS} {h : jH} {f : Int → Int} (hL : L ≤ 2048) (hi : 0 ≤ i ∧ i + 4 ≤ L) (hI : lI B K Ks P X I c t G h) (h220 : h 220 = some (jA 4 1 f)) (hB : B + 31000 ≤ 20000000) (hb : 0 ≤ B) (hnc : nc + 11 ≤ 603072 ∧ ns + 346 ≤ 7211113) (htail : ∀ (h' : jH) (nc' ns' : Nat), lW (B + 31000) h' → nc' ≤ nc + 11 → ns' ≤ ns + 346 → J (mLaw L xs nm tab) room_1 lnw Z 2150 [(0, .ref 150), (1, .ref 0), (2, .ref 200), (3, .ref 220), (4, .ref 221), (5, iv i)] [] h' nc' ns') : J (mLaw L xs nm tab) room_1 lnw Z 820 [(0, .ref 150), (1, .ref 0), (2, .ref 200), (3, .ref 220), (4, .ref 221), (5, iv i)] [] h nc ns := by
  refine j_aload_n dL_law_820 rfl rfl ?_
  refine j_aload_n dL_law_821 rfl rfl ?_
  refine j_iload dL_law_822 rfl ?_
  refine j_iconst dL_law_824 ?_
  refine j_iadd dL_law_825 ?_
  refine j_sarr dL_law_826 ⟨by omega, by omega⟩ hL ?_
  refine j_aload_n dL_law_827 rfl rfl ?_
  refine j_callSW (o_farthest hI hB hb h220 (p := (sc xs (i + 1))) (sc_r _ _)) dL_law_828 jc_L_161 jmS_L_farthest (fun q => by cases q) rfl rfl (by decide) (jfr_of rfl rfl) (Nat.le_of_ble_eq_true rfl) ⟨Nat.le_of_ble_eq_true rfl, Nat.le_of_ble_eq_true rfl⟩ ⟨by show _ ≤ 603072; omega, by show _ ≤ 7211113; omega⟩ (fun r h1 hp9 => ?_)
  obtain ⟨hk1, ⟨k, rfl⟩, hs⟩ := hp9
  have hG := hI.2.1.eq okM fun j j0 j1 => hk1 j (by omega) (by have j1 : j < 200 + 10 := j1; omega)
  have hm : kI B (mK (G 0)) := by rw [← hI.k.1]; exact hI.k.2
  have hp9 := hI.2.2.1.2.2.1.2.1
  have h79 := hI.2.2.1.2.2.2.1.2.2.2.1
  have hT := hI.2.2.1.2.2.2.2.2.2.2.1
  have hOb := hI.2.2.1.2.2.2.2.2.2.2.2
  have h13 := hI.2.2.1.2.2.2.2.1.2.2.2
  have h14 : 0 ≤ G 14 0 ∧ G 14 0 ≤ 40 := by have a := hI.2.2.1.2.2.2.2.1.1; have b := hI.2.2.1.2.2.2.2.1.2.1; omega
  have hs3 : G 3 0 = 0 ∨ G 3 0 = 1 := by rcases hI.2.2.1.2.1.2.1 with q | q <;> omega
  show J (mLaw L xs nm tab) _ _ _ 831 _ (iv k :: []) _ _ _
  refine j_istore (L' := [(0, _), (1, _), (2, _), (3, _), (4, _), (5, _), (6, _)]) dL_law_831 (Nat.le_of_ble_eq_true rfl) rfl ?_
  refine j_aload_n dL_law_833 rfl rfl ?_
  refine j_aload_n dL_law_834 rfl rfl ?_
  refine j_iload dL_law_835 rfl ?_
  refine j_iconst dL_law_837 ?_
  refine j_iadd dL_law_838 ?_
  refine j_sarr dL_law_839 ⟨by omega, by omega⟩ hL ?_
  refine j_callV (c5_farthest (p := (sc xs (i + 1))) hG rfl hm.1 hm.2.1 (sc_r _ _)) dL_law_840 jc_L_163 jmV_X5_farthest rfl rfl hG.1 rfl rfl (by simp) jfr_nil (Nat.le_of_ble_eq_true rfl) ⟨Nat.le_of_ble_eq_true rfl, Nat.le_of_ble_eq_true rfl⟩ ⟨by show _ ≤ 603072; omega, by show _ ≤ 7211113; omega⟩ (fun r h2 hp9 => ?_) (fun E h9 q => q.elim)
  obtain ⟨x9, G9, rfl, hq9, hG2, hE2⟩ := hp9
  obtain ⟨k2, f2, hk2, hk3, hk6, h222, hval, hW⟩ := (hs x9 G9 hq9).2.2 h2 hG2 hE2
  have hk6 : G9 6 0 = k2 := hk6
  have hk5 : iv k = iv k2 := Option.some.inj hk2
  show J (mLaw L xs nm tab) _ _ _ 843 _ (iv _ :: []) _ _ _
  refine j_istore (L' := [(0, _), (1, _), (2, _), (3, _), (4, _), (5, _), (6, _), (7, _)]) dL_law_843 (Nat.le_of_ble_eq_true rfl) rfl ?_
  rw [hk5]
  clear hk5
  refine j_aload_n dL_law_845 rfl rfl ?_
  refine j_callV (c5_thrown hG2) dL_law_846 jc_L_131 jmV_X5_thrown rfl rfl hG2.1 rfl rfl (by simp) jfr_nil (Nat.le_of_ble_eq_true rfl) ⟨Nat.le_of_ble_eq_true rfl, Nat.le_of_ble_eq_true rfl⟩ ⟨by show _ ≤ 603072; omega, by show _ ≤ 7211113; omega⟩ (fun r h3 hp9 => ?_) (fun E h9 q => q.elim)
  obtain ⟨rfl, rfl⟩ := hp9
  show J (mLaw L xs nm tab) _ _ _ 849 _ (iv _ :: []) _ _ _
  refine j_iload dL_law_849 rfl ?_
  refine j_icmp_eq (tgt := 856) dL_law_851 (by decide) (by omega) (fun _ => ?_) (fun z => absurd hk6 z)
  refine j_iload dL_law_856 rfl ?_
  refine j_if_ne (tgt := 873) dL_law_858 (by decide) (by omega) (fun _ => ?_) (fun k0 => ?_)
  · skip
    refine j_goto (tgt := 2150) dL_law_873 (by decide) ?_
    refine J.keep (L' := [(0, .ref 150), (1, .ref 0), (2, .ref 200), (3, .ref 220), (4, .ref 221), (5, iv i)]) [0, 1, 2, 3, 4, 5] rfl ?_
    exact htail _ _ _ hW (by omega) (by omega)
  · skip
    refine j_aload_n dL_law_861 rfl rfl ?_
    refine j_iconst dL_law_862 ?_
    refine j_laload dL_law_863 h222 ⟨by decide, by decide⟩ (by decide) ?_
    refine j_iload dL_law_864 rfl ?_
    refine j_i2lz dL_law_866 ?_
    rw [hval k0]
    refine j_lcmp dL_law_867 ⟨(nz_r _).1, (nz_r _).2, (nz_r _).1, (nz_r _).2⟩ ?_
    rw [if_neg (Int.lt_irrefl _), if_pos rfl]
    refine j_if_eq (tgt := 873) dL_law_868 (by decide) (by decide) (fun _ => ?_) (fun z => absurd rfl z)
    refine j_goto (tgt := 2150) dL_law_873 (by decide) ?_
    refine J.keep (L' := [(0, .ref 150), (1, .ref 0), (2, .ref 200), (3, .ref 220), (4, .ref 221), (5, iv i)]) [0, 1, 2, 3, 4, 5] rfl ?_
    exact htail _ _ _ hW (by omega) (by omega)
set_option maxHeartbeats 4000000 in
theorem lc_descendant {L : Nat} {xs : Nat → Int32} {nm : String} {tab : List (Nat × Nat × Nat × Nat)} {Z : jFin} {i B : Int} {nc ns : Nat} {K Ks : fS} {P : Int → fS} {X I : fS} {c : Int} {t : Int → Int} {G : fS} {h : jH} {f : Int → Int} (hL : L ≤ 2048) (hi : 0 ≤ i ∧ i + 4 ≤ L) (hI : lI B K Ks P X I c t G h) (h220 : h 220 = some (jA 4 1 f)) (hB : B + 31000 ≤ 20000000) (hb : 0 ≤ B) (hnc : nc + 11 ≤ 603072 ∧ ns + 346 ≤ 7211113) (htail : ∀ (h' : jH) (nc' ns' : Nat), lW (B + 31000) h' → nc' ≤ nc + 11 → ns' ≤ ns + 346 → J (mLaw L xs nm tab) room_1 lnw Z 2150 [(0, .ref 150), (1, .ref 0), (2, .ref 200), (3, .ref 220), (4, .ref 221), (5, iv i)] [] h' nc' ns') : J (mLaw L xs nm tab) room_1 lnw Z 876 [(0, .ref 150), (1, .ref 0), (2, .ref 200), (3, .ref 220), (4, .ref 221), (5, iv i)] [] h nc ns := by
  refine j_aload_n dL_law_876 rfl rfl ?_
  refine j_aload_n dL_law_877 rfl rfl ?_
  refine j_iload dL_law_878 rfl ?_
  refine j_iconst dL_law_880 ?_
  refine j_iadd dL_law_881 ?_
  refine j_sarr dL_law_882 ⟨by omega, by omega⟩ hL ?_
  refine j_aload_n dL_law_883 rfl rfl ?_
  refine j_iload dL_law_884 rfl ?_
  refine j_iconst dL_law_886 ?_
  refine j_iadd dL_law_887 ?_
  refine j_sarr dL_law_888 ⟨by omega, by omega⟩ hL ?_
  refine j_aload_n dL_law_889 rfl rfl ?_
  refine j_callSW (o_descendant hI hB hb h220 (p := (sc xs (i + 1))) (q := (sc xs (i + 2))) (sc_r _ _) (sc_r _ _)) dL_law_890 jc_L_164 jmS_L_descendant (fun q => by cases q) rfl rfl (by decide) (jfr_of rfl rfl) (Nat.le_of_ble_eq_true rfl) ⟨Nat.le_of_ble_eq_true rfl, Nat.le_of_ble_eq_true rfl⟩ ⟨by show _ ≤ 603072; omega, by show _ ≤ 7211113; omega⟩ (fun r h1 hp9 => ?_)
  obtain ⟨hk1, ⟨k, rfl⟩, hs⟩ := hp9
  have hG := hI.2.1.eq okM fun j j0 j1 => hk1 j (by omega) (by have j1 : j < 200 + 10 := j1; omega)
  have hm : kI B (mK (G 0)) := by rw [← hI.k.1]; exact hI.k.2
  have hp9 := hI.2.2.1.2.2.1.2.1
  have h79 := hI.2.2.1.2.2.2.1.2.2.2.1
  have hT := hI.2.2.1.2.2.2.2.2.2.2.1
  have hOb := hI.2.2.1.2.2.2.2.2.2.2.2
  have h13 := hI.2.2.1.2.2.2.2.1.2.2.2
  have h14 : 0 ≤ G 14 0 ∧ G 14 0 ≤ 40 := by have a := hI.2.2.1.2.2.2.2.1.1; have b := hI.2.2.1.2.2.2.2.1.2.1; omega
  have hs3 : G 3 0 = 0 ∨ G 3 0 = 1 := by rcases hI.2.2.1.2.1.2.1 with q | q <;> omega
  show J (mLaw L xs nm tab) _ _ _ 893 _ (iv k :: []) _ _ _
  refine j_istore (L' := [(0, _), (1, _), (2, _), (3, _), (4, _), (5, _), (6, _)]) dL_law_893 (Nat.le_of_ble_eq_true rfl) rfl ?_
  refine j_aload_n dL_law_895 rfl rfl ?_
  refine j_aload_n dL_law_896 rfl rfl ?_
  refine j_iload dL_law_897 rfl ?_
  refine j_iconst dL_law_899 ?_
  refine j_iadd dL_law_900 ?_
  refine j_sarr dL_law_901 ⟨by omega, by omega⟩ hL ?_
  refine j_aload_n dL_law_902 rfl rfl ?_
  refine j_iload dL_law_903 rfl ?_
  refine j_iconst dL_law_905 ?_
  refine j_iadd dL_law_906 ?_
  refine j_sarr dL_law_907 ⟨by omega, by omega⟩ hL ?_
  refine j_callV (c5_descendant (p := (sc xs (i + 1))) (q := (sc xs (i + 2))) hG rfl hm.1 hm.2.1 (sc_r _ _) (sc_r _ _)) dL_law_908 jc_L_166 jmV_X5_descendant rfl rfl hG.1 rfl rfl (by simp) jfr_nil (Nat.le_of_ble_eq_true rfl) ⟨Nat.le_of_ble_eq_true rfl, Nat.le_of_ble_eq_true rfl⟩ ⟨by show _ ≤ 603072; omega, by show _ ≤ 7211113; omega⟩ (fun r h2 hp9 => ?_) (fun E h9 q => q.elim)
  obtain ⟨rfl, hG2, hE2⟩ := hp9
  obtain ⟨k2, f2, hk2, hk3, hk6, h222, hval, hW⟩ := hs h2 hG2 hE2
  have hk5 : iv k = iv k2 := Option.some.inj hk2
  show J (mLaw L xs nm tab) _ _ _ 911 _ (iv _ :: []) _ _ _
  refine j_istore (L' := [(0, _), (1, _), (2, _), (3, _), (4, _), (5, _), (6, _), (7, _)]) dL_law_911 (Nat.le_of_ble_eq_true rfl) rfl ?_
  rw [hk5]
  clear hk5
  refine j_aload_n dL_law_913 rfl rfl ?_
  refine j_callV (c5_thrown hG2) dL_law_914 jc_L_131 jmV_X5_thrown rfl rfl hG2.1 rfl rfl (by simp) jfr_nil (Nat.le_of_ble_eq_true rfl) ⟨Nat.le_of_ble_eq_true rfl, Nat.le_of_ble_eq_true rfl⟩ ⟨by show _ ≤ 603072; omega, by show _ ≤ 7211113; omega⟩ (fun r h3 hp9 => ?_) (fun E h9 q => q.elim)
  obtain ⟨rfl, rfl⟩ := hp9
  show J (mLaw L xs nm tab) _ _ _ 917 _ (iv _ :: []) _ _ _
  refine j_iload dL_law_917 rfl ?_
  refine j_icmp_eq (tgt := 924) dL_law_919 (by decide) (by omega) (fun _ => ?_) (fun z => absurd hk6 z)
  refine j_iload dL_law_924 rfl ?_
  refine j_if_ne (tgt := 941) dL_law_926 (by decide) (by omega) (fun _ => ?_) (fun k0 => ?_)
  · skip
    refine j_goto (tgt := 2150) dL_law_941 (by decide) ?_
    refine J.keep (L' := [(0, .ref 150), (1, .ref 0), (2, .ref 200), (3, .ref 220), (4, .ref 221), (5, iv i)]) [0, 1, 2, 3, 4, 5] rfl ?_
    exact htail _ _ _ hW (by omega) (by omega)
  · skip
    refine j_aload_n dL_law_929 rfl rfl ?_
    refine j_iconst dL_law_930 ?_
    refine j_laload dL_law_931 h222 ⟨by decide, by decide⟩ (by decide) ?_
    refine j_iload dL_law_932 rfl ?_
    refine j_i2lz dL_law_934 ?_
    rw [hval k0]
    refine j_lcmp dL_law_935 ⟨(nz_r _).1, (nz_r _).2, (nz_r _).1, (nz_r _).2⟩ ?_
    rw [if_neg (Int.lt_irrefl _), if_pos rfl]
    refine j_if_eq (tgt := 941) dL_law_936 (by decide) (by decide) (fun _ => ?_) (fun z => absurd rfl z)
    refine j_goto (tgt := 2150) dL_law_941 (by decide) ?_
    refine J.keep (L' := [(0, .ref 150), (1, .ref 0), (2, .ref 200), (3, .ref 220), (4, .ref 221), (5, iv i)]) [0, 1, 2, 3, 4, 5] rfl ?_
    exact htail _ _ _ hW (by omega) (by omega)
set_option maxHeartbeats 4000000 in
theorem lc_marry {L : Nat} {xs : Nat → Int32} {nm : String} {tab : List (Nat × Nat × Nat × Nat)} {Z : jFin} {i B : Int} {nc ns : Nat} {K Ks : fS} {P : Int → fS} {X I : fS} {c : Int} {t : Int → Int} {G : fS} {h : jH} {f : Int → Int} (hL : L ≤ 2048) (hi : 0 ≤ i ∧ i + 4 ≤ L) (hI : lI B K Ks P X I c t G h) (h220 : h 220 = some (jA 4 1 f)) (hB : B + 31000 ≤ 20000000) (hb : 0 ≤ B) (hnc : nc + 11 ≤ 603072 ∧ ns + 346 ≤ 7211113) (htail : ∀ (h' : jH) (nc' ns' : Nat), lW (B + 31000) h' → nc' ≤ nc + 11 → ns' ≤ ns + 346 → J (mLaw L xs nm tab) room_1 lnw Z 2150 [(0, .ref 150), (1, .ref 0), (2, .ref 200), (3, .ref 220), (4, .ref 221), (5, iv i)] [] h' nc' ns') : J (mLaw L xs nm tab) room_1 lnw Z 944 [(0, .ref 150), (1, .ref 0), (2, .ref 200), (3, .ref 220), (4, .ref 221), (5, iv i)] [] h nc ns := by
  refine j_aload_n dL_law_944 rfl rfl ?_
  refine j_aload_n dL_law_945 rfl rfl ?_
  refine j_iload dL_law_946 rfl ?_
  refine j_iconst dL_law_948 ?_
  refine j_iadd dL_law_949 ?_
  refine j_sarr dL_law_950 ⟨by omega, by omega⟩ hL ?_
  refine j_aload_n dL_law_951 rfl rfl ?_
  refine j_iload dL_law_952 rfl ?_
  refine j_iconst dL_law_954 ?_
  refine j_iadd dL_law_955 ?_
  refine j_sarr dL_law_956 ⟨by omega, by omega⟩ hL ?_
  refine j_aload_n dL_law_957 rfl rfl ?_
  refine j_callSW (o_marry hI hB hb h220 (p := (sc xs (i + 1))) (o := (sc xs (i + 2))) (sc_r _ _) (sc_r _ _)) dL_law_958 jc_L_167 jmS_L_marry (fun q => by cases q) rfl rfl (by decide) (jfr_of rfl rfl) (Nat.le_of_ble_eq_true rfl) ⟨Nat.le_of_ble_eq_true rfl, Nat.le_of_ble_eq_true rfl⟩ ⟨by show _ ≤ 603072; omega, by show _ ≤ 7211113; omega⟩ (fun r h1 hp9 => ?_)
  obtain ⟨hk1, ⟨k, rfl⟩, hs⟩ := hp9
  have hG := hI.2.1.eq okM fun j j0 j1 => hk1 j (by omega) (by have j1 : j < 200 + 10 := j1; omega)
  have hm : kI B (mK (G 0)) := by rw [← hI.k.1]; exact hI.k.2
  have hp9 := hI.2.2.1.2.2.1.2.1
  have h79 := hI.2.2.1.2.2.2.1.2.2.2.1
  have hT := hI.2.2.1.2.2.2.2.2.2.2.1
  have hOb := hI.2.2.1.2.2.2.2.2.2.2.2
  have h13 := hI.2.2.1.2.2.2.2.1.2.2.2
  have h14 : 0 ≤ G 14 0 ∧ G 14 0 ≤ 40 := by have a := hI.2.2.1.2.2.2.2.1.1; have b := hI.2.2.1.2.2.2.2.1.2.1; omega
  have hs3 : G 3 0 = 0 ∨ G 3 0 = 1 := by rcases hI.2.2.1.2.1.2.1 with q | q <;> omega
  show J (mLaw L xs nm tab) _ _ _ 961 _ (iv k :: []) _ _ _
  refine j_istore (L' := [(0, _), (1, _), (2, _), (3, _), (4, _), (5, _), (6, _)]) dL_law_961 (Nat.le_of_ble_eq_true rfl) rfl ?_
  refine j_aload_n dL_law_963 rfl rfl ?_
  refine j_aload_n dL_law_964 rfl rfl ?_
  refine j_iload dL_law_965 rfl ?_
  refine j_iconst dL_law_967 ?_
  refine j_iadd dL_law_968 ?_
  refine j_sarr dL_law_969 ⟨by omega, by omega⟩ hL ?_
  refine j_aload_n dL_law_970 rfl rfl ?_
  refine j_iload dL_law_971 rfl ?_
  refine j_iconst dL_law_973 ?_
  refine j_iadd dL_law_974 ?_
  refine j_sarr dL_law_975 ⟨by omega, by omega⟩ hL ?_
  refine j_callV (c5_marry (p := (sc xs (i + 1))) (o := (sc xs (i + 2))) hG rfl hm (by omega) (sc_r _ _) (sc_r _ _) hp9) dL_law_976 jc_L_169 jmV_X5_marry rfl rfl hG.1 rfl rfl (by simp) jfr_nil (Nat.le_of_ble_eq_true rfl) ⟨Nat.le_of_ble_eq_true rfl, Nat.le_of_ble_eq_true rfl⟩ ⟨by show _ ≤ 603072; omega, by show _ ≤ 7211113; omega⟩ (fun r h2 hp9 => ?_) (fun E h9 q => q.elim)
  obtain ⟨rfl, hG2, hE2⟩ := hp9
  obtain ⟨k2, f2, hk2, hk3, hk6, h222, hval, hW⟩ := hs h2 hG2 hE2
  have hk5 : iv k = iv k2 := Option.some.inj hk2
  show J (mLaw L xs nm tab) _ _ _ 979 _ (iv _ :: []) _ _ _
  refine j_istore (L' := [(0, _), (1, _), (2, _), (3, _), (4, _), (5, _), (6, _), (7, _)]) dL_law_979 (Nat.le_of_ble_eq_true rfl) rfl ?_
  rw [hk5]
  clear hk5
  refine j_aload_n dL_law_981 rfl rfl ?_
  refine j_callV (c5_thrown hG2) dL_law_982 jc_L_131 jmV_X5_thrown rfl rfl hG2.1 rfl rfl (by simp) jfr_nil (Nat.le_of_ble_eq_true rfl) ⟨Nat.le_of_ble_eq_true rfl, Nat.le_of_ble_eq_true rfl⟩ ⟨by show _ ≤ 603072; omega, by show _ ≤ 7211113; omega⟩ (fun r h3 hp9 => ?_) (fun E h9 q => q.elim)
  obtain ⟨rfl, rfl⟩ := hp9
  show J (mLaw L xs nm tab) _ _ _ 985 _ (iv _ :: []) _ _ _
  refine j_iload dL_law_985 rfl ?_
  refine j_icmp_eq (tgt := 992) dL_law_987 (by decide) (by omega) (fun _ => ?_) (fun z => absurd hk6 z)
  refine j_iload dL_law_992 rfl ?_
  refine j_if_ne (tgt := 1009) dL_law_994 (by decide) (by omega) (fun _ => ?_) (fun k0 => ?_)
  · skip
    refine j_goto (tgt := 2150) dL_law_1009 (by decide) ?_
    refine J.keep (L' := [(0, .ref 150), (1, .ref 0), (2, .ref 200), (3, .ref 220), (4, .ref 221), (5, iv i)]) [0, 1, 2, 3, 4, 5] rfl ?_
    exact htail _ _ _ hW (by omega) (by omega)
  · skip
    refine j_aload_n dL_law_997 rfl rfl ?_
    refine j_iconst dL_law_998 ?_
    refine j_laload dL_law_999 h222 ⟨by decide, by decide⟩ (by decide) ?_
    refine j_iload dL_law_1000 rfl ?_
    refine j_i2lz dL_law_1002 ?_
    rw [hval k0]
    refine j_lcmp dL_law_1003 ⟨(nz_r _).1, (nz_r _).2, (nz_r _).1, (nz_r _).2⟩ ?_
    rw [if_neg (Int.lt_irrefl _), if_pos rfl]
    refine j_if_eq (tgt := 1009) dL_law_1004 (by decide) (by decide) (fun _ => ?_) (fun z => absurd rfl z)
    refine j_goto (tgt := 2150) dL_law_1009 (by decide) ?_
    refine J.keep (L' := [(0, .ref 150), (1, .ref 0), (2, .ref 200), (3, .ref 220), (4, .ref 221), (5, iv i)]) [0, 1, 2, 3, 4, 5] rfl ?_
    exact htail _ _ _ hW (by omega) (by omega)
set_option maxHeartbeats 4000000 in
theorem lc_part {L : Nat} {xs : Nat → Int32} {nm : String} {tab : List (Nat × Nat × Nat × Nat)} {Z : jFin} {i B : Int} {nc ns : Nat} {K Ks : fS} {P : Int → fS} {X I : fS} {c : Int} {t : Int → Int} {G : fS} {h : jH} {f : Int → Int} (hL : L ≤ 2048) (hi : 0 ≤ i ∧ i + 4 ≤ L) (hI : lI B K Ks P X I c t G h) (h220 : h 220 = some (jA 4 1 f)) (hB : B + 31000 ≤ 20000000) (hb : 0 ≤ B) (hnc : nc + 11 ≤ 603072 ∧ ns + 346 ≤ 7211113) (htail : ∀ (h' : jH) (nc' ns' : Nat), lW (B + 31000) h' → nc' ≤ nc + 11 → ns' ≤ ns + 346 → J (mLaw L xs nm tab) room_1 lnw Z 2150 [(0, .ref 150), (1, .ref 0), (2, .ref 200), (3, .ref 220), (4, .ref 221), (5, iv i)] [] h' nc' ns') : J (mLaw L xs nm tab) room_1 lnw Z 1012 [(0, .ref 150), (1, .ref 0), (2, .ref 200), (3, .ref 220), (4, .ref 221), (5, iv i)] [] h nc ns := by
  refine j_aload_n dL_law_1012 rfl rfl ?_
  refine j_aload_n dL_law_1013 rfl rfl ?_
  refine j_iload dL_law_1014 rfl ?_
  refine j_iconst dL_law_1016 ?_
  refine j_iadd dL_law_1017 ?_
  refine j_sarr dL_law_1018 ⟨by omega, by omega⟩ hL ?_
  refine j_aload_n dL_law_1019 rfl rfl ?_
  refine j_callSW (o_part hI hB hb h220 (p := (sc xs (i + 1))) (sc_r _ _)) dL_law_1020 jc_L_170 jmS_L_part (fun q => by cases q) rfl rfl (by decide) (jfr_of rfl rfl) (Nat.le_of_ble_eq_true rfl) ⟨Nat.le_of_ble_eq_true rfl, Nat.le_of_ble_eq_true rfl⟩ ⟨by show _ ≤ 603072; omega, by show _ ≤ 7211113; omega⟩ (fun r h1 hp9 => ?_)
  obtain ⟨hk1, ⟨k, rfl⟩, hs⟩ := hp9
  have hG := hI.2.1.eq okM fun j j0 j1 => hk1 j (by omega) (by have j1 : j < 200 + 10 := j1; omega)
  have hm : kI B (mK (G 0)) := by rw [← hI.k.1]; exact hI.k.2
  have hp9 := hI.2.2.1.2.2.1.2.1
  have h79 := hI.2.2.1.2.2.2.1.2.2.2.1
  have hT := hI.2.2.1.2.2.2.2.2.2.2.1
  have hOb := hI.2.2.1.2.2.2.2.2.2.2.2
  have h13 := hI.2.2.1.2.2.2.2.1.2.2.2
  have h14 : 0 ≤ G 14 0 ∧ G 14 0 ≤ 40 := by have a := hI.2.2.1.2.2.2.2.1.1; have b := hI.2.2.1.2.2.2.2.1.2.1; omega
  have hs3 : G 3 0 = 0 ∨ G 3 0 = 1 := by rcases hI.2.2.1.2.1.2.1 with q | q <;> omega
  show J (mLaw L xs nm tab) _ _ _ 1023 _ (iv k :: []) _ _ _
  refine j_istore (L' := [(0, _), (1, _), (2, _), (3, _), (4, _), (5, _), (6, _)]) dL_law_1023 (Nat.le_of_ble_eq_true rfl) rfl ?_
  refine j_aload_n dL_law_1025 rfl rfl ?_
  refine j_aload_n dL_law_1026 rfl rfl ?_
  refine j_iload dL_law_1027 rfl ?_
  refine j_iconst dL_law_1029 ?_
  refine j_iadd dL_law_1030 ?_
  refine j_sarr dL_law_1031 ⟨by omega, by omega⟩ hL ?_
  refine j_callV (c5_part (p := (sc xs (i + 1))) hG rfl hm (by omega) (sc_r _ _) hp9) dL_law_1032 jc_L_172 jmV_X5_part rfl rfl hG.1 rfl rfl (by simp) jfr_nil (Nat.le_of_ble_eq_true rfl) ⟨Nat.le_of_ble_eq_true rfl, Nat.le_of_ble_eq_true rfl⟩ ⟨by show _ ≤ 603072; omega, by show _ ≤ 7211113; omega⟩ (fun r h2 hp9 => ?_) (fun E h9 q => q.elim)
  obtain ⟨rfl, hG2, hE2⟩ := hp9
  obtain ⟨k2, f2, hk2, hk3, hk6, h222, hval, hW⟩ := hs h2 hG2 hE2
  have hk5 : iv k = iv k2 := Option.some.inj hk2
  show J (mLaw L xs nm tab) _ _ _ 1035 _ (iv _ :: []) _ _ _
  refine j_istore (L' := [(0, _), (1, _), (2, _), (3, _), (4, _), (5, _), (6, _), (7, _)]) dL_law_1035 (Nat.le_of_ble_eq_true rfl) rfl ?_
  rw [hk5]
  clear hk5
  refine j_aload_n dL_law_1037 rfl rfl ?_
  refine j_callV (c5_thrown hG2) dL_law_1038 jc_L_131 jmV_X5_thrown rfl rfl hG2.1 rfl rfl (by simp) jfr_nil (Nat.le_of_ble_eq_true rfl) ⟨Nat.le_of_ble_eq_true rfl, Nat.le_of_ble_eq_true rfl⟩ ⟨by show _ ≤ 603072; omega, by show _ ≤ 7211113; omega⟩ (fun r h3 hp9 => ?_) (fun E h9 q => q.elim)
  obtain ⟨rfl, rfl⟩ := hp9
  show J (mLaw L xs nm tab) _ _ _ 1041 _ (iv _ :: []) _ _ _
  refine j_iload dL_law_1041 rfl ?_
  refine j_icmp_eq (tgt := 1048) dL_law_1043 (by decide) (by omega) (fun _ => ?_) (fun z => absurd hk6 z)
  refine j_iload dL_law_1048 rfl ?_
  refine j_if_ne (tgt := 1065) dL_law_1050 (by decide) (by omega) (fun _ => ?_) (fun k0 => ?_)
  · skip
    refine j_goto (tgt := 2150) dL_law_1065 (by decide) ?_
    refine J.keep (L' := [(0, .ref 150), (1, .ref 0), (2, .ref 200), (3, .ref 220), (4, .ref 221), (5, iv i)]) [0, 1, 2, 3, 4, 5] rfl ?_
    exact htail _ _ _ hW (by omega) (by omega)
  · skip
    refine j_aload_n dL_law_1053 rfl rfl ?_
    refine j_iconst dL_law_1054 ?_
    refine j_laload dL_law_1055 h222 ⟨by decide, by decide⟩ (by decide) ?_
    refine j_iload dL_law_1056 rfl ?_
    refine j_i2lz dL_law_1058 ?_
    rw [hval k0]
    refine j_lcmp dL_law_1059 ⟨(nz_r _).1, (nz_r _).2, (nz_r _).1, (nz_r _).2⟩ ?_
    rw [if_neg (Int.lt_irrefl _), if_pos rfl]
    refine j_if_eq (tgt := 1065) dL_law_1060 (by decide) (by decide) (fun _ => ?_) (fun z => absurd rfl z)
    refine j_goto (tgt := 2150) dL_law_1065 (by decide) ?_
    refine J.keep (L' := [(0, .ref 150), (1, .ref 0), (2, .ref 200), (3, .ref 220), (4, .ref 221), (5, iv i)]) [0, 1, 2, 3, 4, 5] rfl ?_
    exact htail _ _ _ hW (by omega) (by omega)
set_option maxHeartbeats 4000000 in
theorem lc_quarrel {L : Nat} {xs : Nat → Int32} {nm : String} {tab : List (Nat × Nat × Nat × Nat)} {Z : jFin} {i B : Int} {nc ns : Nat} {K Ks : fS} {P : Int → fS} {X I : fS} {c : Int} {t : Int → Int} {G : fS} {h : jH} {f : Int → Int} (hL : L ≤ 2048) (hi : 0 ≤ i ∧ i + 4 ≤ L) (hI : lI B K Ks P X I c t G h) (h220 : h 220 = some (jA 4 1 f)) (hB : B + 31000 ≤ 20000000) (hb : 0 ≤ B) (hnc : nc + 11 ≤ 603072 ∧ ns + 346 ≤ 7211113) (htail : ∀ (h' : jH) (nc' ns' : Nat), lW (B + 31000) h' → nc' ≤ nc + 11 → ns' ≤ ns + 346 → J (mLaw L xs nm tab) room_1 lnw Z 2150 [(0, .ref 150), (1, .ref 0), (2, .ref 200), (3, .ref 220), (4, .ref 221), (5, iv i)] [] h' nc' ns') : J (mLaw L xs nm tab) room_1 lnw Z 1068 [(0, .ref 150), (1, .ref 0), (2, .ref 200), (3, .ref 220), (4, .ref 221), (5, iv i)] [] h nc ns := by
  refine j_aload_n dL_law_1068 rfl rfl ?_
  refine j_aload_n dL_law_1069 rfl rfl ?_
  refine j_iload dL_law_1070 rfl ?_
  refine j_iconst dL_law_1072 ?_
  refine j_iadd dL_law_1073 ?_
  refine j_sarr dL_law_1074 ⟨by omega, by omega⟩ hL ?_
  refine j_aload_n dL_law_1075 rfl rfl ?_
  refine j_iload dL_law_1076 rfl ?_
  refine j_iconst dL_law_1078 ?_
  refine j_iadd dL_law_1079 ?_
  refine j_sarr dL_law_1080 ⟨by omega, by omega⟩ hL ?_
  refine j_aload_n dL_law_1081 rfl rfl ?_
  refine j_callSW (o_quarrel hI hB hb h220 (p := (sc xs (i + 1))) (o := (sc xs (i + 2))) (sc_r _ _) (sc_r _ _)) dL_law_1082 jc_L_173 jmS_L_quarrel (fun q => by cases q) rfl rfl (by decide) (jfr_of rfl rfl) (Nat.le_of_ble_eq_true rfl) ⟨Nat.le_of_ble_eq_true rfl, Nat.le_of_ble_eq_true rfl⟩ ⟨by show _ ≤ 603072; omega, by show _ ≤ 7211113; omega⟩ (fun r h1 hp9 => ?_)
  obtain ⟨hk1, ⟨k, rfl⟩, hs⟩ := hp9
  have hG := hI.2.1.eq okM fun j j0 j1 => hk1 j (by omega) (by have j1 : j < 200 + 10 := j1; omega)
  have hm : kI B (mK (G 0)) := by rw [← hI.k.1]; exact hI.k.2
  have hp9 := hI.2.2.1.2.2.1.2.1
  have h79 := hI.2.2.1.2.2.2.1.2.2.2.1
  have hT := hI.2.2.1.2.2.2.2.2.2.2.1
  have hOb := hI.2.2.1.2.2.2.2.2.2.2.2
  have h13 := hI.2.2.1.2.2.2.2.1.2.2.2
  have h14 : 0 ≤ G 14 0 ∧ G 14 0 ≤ 40 := by have a := hI.2.2.1.2.2.2.2.1.1; have b := hI.2.2.1.2.2.2.2.1.2.1; omega
  have hs3 : G 3 0 = 0 ∨ G 3 0 = 1 := by rcases hI.2.2.1.2.1.2.1 with q | q <;> omega
  show J (mLaw L xs nm tab) _ _ _ 1085 _ (iv k :: []) _ _ _
  refine j_istore (L' := [(0, _), (1, _), (2, _), (3, _), (4, _), (5, _), (6, _)]) dL_law_1085 (Nat.le_of_ble_eq_true rfl) rfl ?_
  refine j_aload_n dL_law_1087 rfl rfl ?_
  refine j_aload_n dL_law_1088 rfl rfl ?_
  refine j_iload dL_law_1089 rfl ?_
  refine j_iconst dL_law_1091 ?_
  refine j_iadd dL_law_1092 ?_
  refine j_sarr dL_law_1093 ⟨by omega, by omega⟩ hL ?_
  refine j_aload_n dL_law_1094 rfl rfl ?_
  refine j_iload dL_law_1095 rfl ?_
  refine j_iconst dL_law_1097 ?_
  refine j_iadd dL_law_1098 ?_
  refine j_sarr dL_law_1099 ⟨by omega, by omega⟩ hL ?_
  refine j_callV (c5_quarrel (p := (sc xs (i + 1))) (o := (sc xs (i + 2))) hG rfl hm (by omega) (sc_r _ _) (sc_r _ _) hp9) dL_law_1100 jc_L_175 jmV_X5_quarrel rfl rfl hG.1 rfl rfl (by simp) jfr_nil (Nat.le_of_ble_eq_true rfl) ⟨Nat.le_of_ble_eq_true rfl, Nat.le_of_ble_eq_true rfl⟩ ⟨by show _ ≤ 603072; omega, by show _ ≤ 7211113; omega⟩ (fun r h2 hp9 => ?_) (fun E h9 q => q.elim)
  obtain ⟨rfl, hG2, hE2⟩ := hp9
  obtain ⟨k2, f2, hk2, hk3, hk6, h222, hval, hW⟩ := hs h2 hG2 hE2
  have hk5 : iv k = iv k2 := Option.some.inj hk2
  show J (mLaw L xs nm tab) _ _ _ 1103 _ (iv _ :: []) _ _ _
  refine j_istore (L' := [(0, _), (1, _), (2, _), (3, _), (4, _), (5, _), (6, _), (7, _)]) dL_law_1103 (Nat.le_of_ble_eq_true rfl) rfl ?_
  rw [hk5]
  clear hk5
  refine j_aload_n dL_law_1105 rfl rfl ?_
  refine j_callV (c5_thrown hG2) dL_law_1106 jc_L_131 jmV_X5_thrown rfl rfl hG2.1 rfl rfl (by simp) jfr_nil (Nat.le_of_ble_eq_true rfl) ⟨Nat.le_of_ble_eq_true rfl, Nat.le_of_ble_eq_true rfl⟩ ⟨by show _ ≤ 603072; omega, by show _ ≤ 7211113; omega⟩ (fun r h3 hp9 => ?_) (fun E h9 q => q.elim)
  obtain ⟨rfl, rfl⟩ := hp9
  show J (mLaw L xs nm tab) _ _ _ 1109 _ (iv _ :: []) _ _ _
  refine j_iload dL_law_1109 rfl ?_
  refine j_icmp_eq (tgt := 1116) dL_law_1111 (by decide) (by omega) (fun _ => ?_) (fun z => absurd hk6 z)
  refine j_iload dL_law_1116 rfl ?_
  refine j_if_ne (tgt := 1133) dL_law_1118 (by decide) (by omega) (fun _ => ?_) (fun k0 => ?_)
  · skip
    refine j_goto (tgt := 2150) dL_law_1133 (by decide) ?_
    refine J.keep (L' := [(0, .ref 150), (1, .ref 0), (2, .ref 200), (3, .ref 220), (4, .ref 221), (5, iv i)]) [0, 1, 2, 3, 4, 5] rfl ?_
    exact htail _ _ _ hW (by omega) (by omega)
  · skip
    refine j_aload_n dL_law_1121 rfl rfl ?_
    refine j_iconst dL_law_1122 ?_
    refine j_laload dL_law_1123 h222 ⟨by decide, by decide⟩ (by decide) ?_
    refine j_iload dL_law_1124 rfl ?_
    refine j_i2lz dL_law_1126 ?_
    rw [hval k0]
    refine j_lcmp dL_law_1127 ⟨(nz_r _).1, (nz_r _).2, (nz_r _).1, (nz_r _).2⟩ ?_
    rw [if_neg (Int.lt_irrefl _), if_pos rfl]
    refine j_if_eq (tgt := 1133) dL_law_1128 (by decide) (by decide) (fun _ => ?_) (fun z => absurd rfl z)
    refine j_goto (tgt := 2150) dL_law_1133 (by decide) ?_
    refine J.keep (L' := [(0, .ref 150), (1, .ref 0), (2, .ref 200), (3, .ref 220), (4, .ref 221), (5, iv i)]) [0, 1, 2, 3, 4, 5] rfl ?_
    exact htail _ _ _ hW (by omega) (by omega)
set_option maxHeartbeats 4000000 in
theorem lc_quarrelAt {L : Nat} {xs : Nat → Int32} {nm : String} {tab : List (Nat × Nat × Nat × Nat)} {Z : jFin} {i B : Int} {nc ns : Nat} {K Ks : fS} {P : Int → fS} {X I : fS} {c : Int} {t : Int → Int} {G : fS} {h : jH} {f : Int → Int} (hL : L ≤ 2048) (hi : 0 ≤ i ∧ i + 4 ≤ L) (hI : lI B K Ks P X I c t G h) (h220 : h 220 = some (jA 4 1 f)) (hB : B + 31000 ≤ 20000000) (hb : 0 ≤ B) (hnc : nc + 11 ≤ 603072 ∧ ns + 346 ≤ 7211113) (htail : ∀ (h' : jH) (nc' ns' : Nat), lW (B + 31000) h' → nc' ≤ nc + 11 → ns' ≤ ns + 346 → J (mLaw L xs nm tab) room_1 lnw Z 2150 [(0, .ref 150), (1, .ref 0), (2, .ref 200), (3, .ref 220), (4, .ref 221), (5, iv i)] [] h' nc' ns') : J (mLaw L xs nm tab) room_1 lnw Z 1136 [(0, .ref 150), (1, .ref 0), (2, .ref 200), (3, .ref 220), (4, .ref 221), (5, iv i)] [] h nc ns := by
  refine j_aload_n dL_law_1136 rfl rfl ?_
  refine j_aload_n dL_law_1137 rfl rfl ?_
  refine j_iload dL_law_1138 rfl ?_
  refine j_iconst dL_law_1140 ?_
  refine j_iadd dL_law_1141 ?_
  refine j_sarr dL_law_1142 ⟨by omega, by omega⟩ hL ?_
  refine j_aload_n dL_law_1143 rfl rfl ?_
  refine j_iload dL_law_1144 rfl ?_
  refine j_iconst dL_law_1146 ?_
  refine j_iadd dL_law_1147 ?_
  refine j_sarr dL_law_1148 ⟨by omega, by omega⟩ hL ?_
  refine j_if_eq (tgt := 1156) dL_law_1149 (by decide) (sc_r _ _) (fun c9 => ?_) (fun c9 => ?_)
  · skip
    refine j_iconst dL_law_1156 ?_
    refine j_aload_n dL_law_1157 rfl rfl ?_
    refine j_callSW (o_quarrelAt hI hB hb h220 (p := (sc xs (i + 1))) (d := 0) (sc_r _ _) (.inl rfl)) dL_law_1158 jc_L_176 jmS_L_quarrelAt (fun q => by cases q) rfl rfl (by decide) (jfr_of rfl rfl) (Nat.le_of_ble_eq_true rfl) ⟨Nat.le_of_ble_eq_true rfl, Nat.le_of_ble_eq_true rfl⟩ ⟨by show _ ≤ 603072; omega, by show _ ≤ 7211113; omega⟩ (fun r h1 hp9 => ?_)
    obtain ⟨hk1, ⟨k, rfl⟩, hs⟩ := hp9
    have hG := hI.2.1.eq okM fun j j0 j1 => hk1 j (by omega) (by have j1 : j < 200 + 10 := j1; omega)
    have hm : kI B (mK (G 0)) := by rw [← hI.k.1]; exact hI.k.2
    have hp9 := hI.2.2.1.2.2.1.2.1
    have h79 := hI.2.2.1.2.2.2.1.2.2.2.1
    have hT := hI.2.2.1.2.2.2.2.2.2.2.1
    have hOb := hI.2.2.1.2.2.2.2.2.2.2.2
    have h13 := hI.2.2.1.2.2.2.2.1.2.2.2
    have h14 : 0 ≤ G 14 0 ∧ G 14 0 ≤ 40 := by have a := hI.2.2.1.2.2.2.2.1.1; have b := hI.2.2.1.2.2.2.2.1.2.1; omega
    have hs3 : G 3 0 = 0 ∨ G 3 0 = 1 := by rcases hI.2.2.1.2.1.2.1 with q | q <;> omega
    show J (mLaw L xs nm tab) _ _ _ 1161 _ (iv k :: []) _ _ _
    refine j_istore (L' := [(0, _), (1, _), (2, _), (3, _), (4, _), (5, _), (6, _)]) dL_law_1161 (Nat.le_of_ble_eq_true rfl) rfl ?_
    refine j_aload_n dL_law_1163 rfl rfl ?_
    refine j_aload_n dL_law_1164 rfl rfl ?_
    refine j_iload dL_law_1165 rfl ?_
    refine j_iconst dL_law_1167 ?_
    refine j_iadd dL_law_1168 ?_
    refine j_sarr dL_law_1169 ⟨by omega, by omega⟩ hL ?_
    refine j_aload_n dL_law_1170 rfl rfl ?_
    refine j_iload dL_law_1171 rfl ?_
    refine j_iconst dL_law_1173 ?_
    refine j_iadd dL_law_1174 ?_
    refine j_sarr dL_law_1175 ⟨by omega, by omega⟩ hL ?_
    refine j_if_eq (tgt := 1183) dL_law_1176 (by decide) (sc_r _ _) (fun _ => ?_) (fun z => absurd c9 z)
    refine j_iconst dL_law_1183 ?_
    refine j_callV (c5_quarrelAt (q := (sc xs (i + 1))) (a := 0) hG rfl hm.1 (sc_r _ _) (.inl rfl)) dL_law_1184 jc_L_179 jmV_X5_quarrelAt rfl rfl hG.1 rfl rfl (by simp) jfr_nil (Nat.le_of_ble_eq_true rfl) ⟨Nat.le_of_ble_eq_true rfl, Nat.le_of_ble_eq_true rfl⟩ ⟨by show _ ≤ 603072; omega, by show _ ≤ 7211113; omega⟩ (fun r h2 hp9 => ?_) (fun E h9 q => q.elim)
    obtain ⟨rfl, hG2, hE2⟩ := hp9
    obtain ⟨k2, f2, hk2, hk3, hk6, h222, hval, hW⟩ := hs h2 hG2 hE2
    have hk5 : iv k = iv k2 := Option.some.inj hk2
    show J (mLaw L xs nm tab) _ _ _ 1187 _ (iv _ :: []) _ _ _
    refine j_istore (L' := [(0, _), (1, _), (2, _), (3, _), (4, _), (5, _), (6, _), (7, _)]) dL_law_1187 (Nat.le_of_ble_eq_true rfl) rfl ?_
    rw [hk5]
    clear hk5
    refine j_aload_n dL_law_1189 rfl rfl ?_
    refine j_callV (c5_thrown hG2) dL_law_1190 jc_L_131 jmV_X5_thrown rfl rfl hG2.1 rfl rfl (by simp) jfr_nil (Nat.le_of_ble_eq_true rfl) ⟨Nat.le_of_ble_eq_true rfl, Nat.le_of_ble_eq_true rfl⟩ ⟨by show _ ≤ 603072; omega, by show _ ≤ 7211113; omega⟩ (fun r h3 hp9 => ?_) (fun E h9 q => q.elim)
    obtain ⟨rfl, rfl⟩ := hp9
    show J (mLaw L xs nm tab) _ _ _ 1193 _ (iv _ :: []) _ _ _
    refine j_iload dL_law_1193 rfl ?_
    refine j_icmp_eq (tgt := 1200) dL_law_1195 (by decide) (by omega) (fun _ => ?_) (fun z => absurd hk6 z)
    refine j_iload dL_law_1200 rfl ?_
    refine j_if_ne (tgt := 1217) dL_law_1202 (by decide) (by omega) (fun _ => ?_) (fun k0 => ?_)
    · skip
      refine j_goto (tgt := 2150) dL_law_1217 (by decide) ?_
      refine J.keep (L' := [(0, .ref 150), (1, .ref 0), (2, .ref 200), (3, .ref 220), (4, .ref 221), (5, iv i)]) [0, 1, 2, 3, 4, 5] rfl ?_
      exact htail _ _ _ hW (by omega) (by omega)
    · skip
      refine j_aload_n dL_law_1205 rfl rfl ?_
      refine j_iconst dL_law_1206 ?_
      refine j_laload dL_law_1207 h222 ⟨by decide, by decide⟩ (by decide) ?_
      refine j_iload dL_law_1208 rfl ?_
      refine j_i2lz dL_law_1210 ?_
      rw [hval k0]
      refine j_lcmp dL_law_1211 ⟨(nz_r _).1, (nz_r _).2, (nz_r _).1, (nz_r _).2⟩ ?_
      rw [if_neg (Int.lt_irrefl _), if_pos rfl]
      refine j_if_eq (tgt := 1217) dL_law_1212 (by decide) (by decide) (fun _ => ?_) (fun z => absurd rfl z)
      refine j_goto (tgt := 2150) dL_law_1217 (by decide) ?_
      refine J.keep (L' := [(0, .ref 150), (1, .ref 0), (2, .ref 200), (3, .ref 220), (4, .ref 221), (5, iv i)]) [0, 1, 2, 3, 4, 5] rfl ?_
      exact htail _ _ _ hW (by omega) (by omega)
  · skip
    refine j_iconst dL_law_1152 ?_
    refine j_goto (tgt := 1157) dL_law_1153 (by decide) ?_
    refine j_aload_n dL_law_1157 rfl rfl ?_
    refine j_callSW (o_quarrelAt hI hB hb h220 (p := (sc xs (i + 1))) (d := 1) (sc_r _ _) (.inr rfl)) dL_law_1158 jc_L_176 jmS_L_quarrelAt (fun q => by cases q) rfl rfl (by decide) (jfr_of rfl rfl) (Nat.le_of_ble_eq_true rfl) ⟨Nat.le_of_ble_eq_true rfl, Nat.le_of_ble_eq_true rfl⟩ ⟨by show _ ≤ 603072; omega, by show _ ≤ 7211113; omega⟩ (fun r h1 hp9 => ?_)
    obtain ⟨hk1, ⟨k, rfl⟩, hs⟩ := hp9
    have hG := hI.2.1.eq okM fun j j0 j1 => hk1 j (by omega) (by have j1 : j < 200 + 10 := j1; omega)
    have hm : kI B (mK (G 0)) := by rw [← hI.k.1]; exact hI.k.2
    have hp9 := hI.2.2.1.2.2.1.2.1
    have h79 := hI.2.2.1.2.2.2.1.2.2.2.1
    have hT := hI.2.2.1.2.2.2.2.2.2.2.1
    have hOb := hI.2.2.1.2.2.2.2.2.2.2.2
    have h13 := hI.2.2.1.2.2.2.2.1.2.2.2
    have h14 : 0 ≤ G 14 0 ∧ G 14 0 ≤ 40 := by have a := hI.2.2.1.2.2.2.2.1.1; have b := hI.2.2.1.2.2.2.2.1.2.1; omega
    have hs3 : G 3 0 = 0 ∨ G 3 0 = 1 := by rcases hI.2.2.1.2.1.2.1 with q | q <;> omega
    show J (mLaw L xs nm tab) _ _ _ 1161 _ (iv k :: []) _ _ _
    refine j_istore (L' := [(0, _), (1, _), (2, _), (3, _), (4, _), (5, _), (6, _)]) dL_law_1161 (Nat.le_of_ble_eq_true rfl) rfl ?_
    refine j_aload_n dL_law_1163 rfl rfl ?_
    refine j_aload_n dL_law_1164 rfl rfl ?_
    refine j_iload dL_law_1165 rfl ?_
    refine j_iconst dL_law_1167 ?_
    refine j_iadd dL_law_1168 ?_
    refine j_sarr dL_law_1169 ⟨by omega, by omega⟩ hL ?_
    refine j_aload_n dL_law_1170 rfl rfl ?_
    refine j_iload dL_law_1171 rfl ?_
    refine j_iconst dL_law_1173 ?_
    refine j_iadd dL_law_1174 ?_
    refine j_sarr dL_law_1175 ⟨by omega, by omega⟩ hL ?_
    refine j_if_eq (tgt := 1183) dL_law_1176 (by decide) (sc_r _ _) (fun z => absurd z c9) (fun _ => ?_)
    refine j_iconst dL_law_1179 ?_
    refine j_goto (tgt := 1184) dL_law_1180 (by decide) ?_
    refine j_callV (c5_quarrelAt (q := (sc xs (i + 1))) (a := 1) hG rfl hm.1 (sc_r _ _) (.inr rfl)) dL_law_1184 jc_L_179 jmV_X5_quarrelAt rfl rfl hG.1 rfl rfl (by simp) jfr_nil (Nat.le_of_ble_eq_true rfl) ⟨Nat.le_of_ble_eq_true rfl, Nat.le_of_ble_eq_true rfl⟩ ⟨by show _ ≤ 603072; omega, by show _ ≤ 7211113; omega⟩ (fun r h2 hp9 => ?_) (fun E h9 q => q.elim)
    obtain ⟨rfl, hG2, hE2⟩ := hp9
    obtain ⟨k2, f2, hk2, hk3, hk6, h222, hval, hW⟩ := hs h2 hG2 hE2
    have hk5 : iv k = iv k2 := Option.some.inj hk2
    show J (mLaw L xs nm tab) _ _ _ 1187 _ (iv _ :: []) _ _ _
    refine j_istore (L' := [(0, _), (1, _), (2, _), (3, _), (4, _), (5, _), (6, _), (7, _)]) dL_law_1187 (Nat.le_of_ble_eq_true rfl) rfl ?_
    rw [hk5]
    clear hk5
    refine j_aload_n dL_law_1189 rfl rfl ?_
    refine j_callV (c5_thrown hG2) dL_law_1190 jc_L_131 jmV_X5_thrown rfl rfl hG2.1 rfl rfl (by simp) jfr_nil (Nat.le_of_ble_eq_true rfl) ⟨Nat.le_of_ble_eq_true rfl, Nat.le_of_ble_eq_true rfl⟩ ⟨by show _ ≤ 603072; omega, by show _ ≤ 7211113; omega⟩ (fun r h3 hp9 => ?_) (fun E h9 q => q.elim)
    obtain ⟨rfl, rfl⟩ := hp9
    show J (mLaw L xs nm tab) _ _ _ 1193 _ (iv _ :: []) _ _ _
    refine j_iload dL_law_1193 rfl ?_
    refine j_icmp_eq (tgt := 1200) dL_law_1195 (by decide) (by omega) (fun _ => ?_) (fun z => absurd hk6 z)
    refine j_iload dL_law_1200 rfl ?_
    refine j_if_ne (tgt := 1217) dL_law_1202 (by decide) (by omega) (fun _ => ?_) (fun k0 => ?_)
    · skip
      refine j_goto (tgt := 2150) dL_law_1217 (by decide) ?_
      refine J.keep (L' := [(0, .ref 150), (1, .ref 0), (2, .ref 200), (3, .ref 220), (4, .ref 221), (5, iv i)]) [0, 1, 2, 3, 4, 5] rfl ?_
      exact htail _ _ _ hW (by omega) (by omega)
    · skip
      refine j_aload_n dL_law_1205 rfl rfl ?_
      refine j_iconst dL_law_1206 ?_
      refine j_laload dL_law_1207 h222 ⟨by decide, by decide⟩ (by decide) ?_
      refine j_iload dL_law_1208 rfl ?_
      refine j_i2lz dL_law_1210 ?_
      rw [hval k0]
      refine j_lcmp dL_law_1211 ⟨(nz_r _).1, (nz_r _).2, (nz_r _).1, (nz_r _).2⟩ ?_
      rw [if_neg (Int.lt_irrefl _), if_pos rfl]
      refine j_if_eq (tgt := 1217) dL_law_1212 (by decide) (by decide) (fun _ => ?_) (fun z => absurd rfl z)
      refine j_goto (tgt := 2150) dL_law_1217 (by decide) ?_
      refine J.keep (L' := [(0, .ref 150), (1, .ref 0), (2, .ref 200), (3, .ref 220), (4, .ref 221), (5, iv i)]) [0, 1, 2, 3, 4, 5] rfl ?_
      exact htail _ _ _ hW (by omega) (by omega)
set_option maxHeartbeats 4000000 in
theorem lc_wouldEnd {L : Nat} {xs : Nat → Int32} {nm : String} {tab : List (Nat × Nat × Nat × Nat)} {Z : jFin} {i B : Int} {nc ns : Nat} {K Ks : fS} {P : Int → fS} {X I : fS} {c : Int} {t : Int → Int} {G : fS} {h : jH} {f : Int → Int} (hL : L ≤ 2048) (hi : 0 ≤ i ∧ i + 4 ≤ L) (hI : lI B K Ks P X I c t G h) (h220 : h 220 = some (jA 4 1 f)) (hB : B + 31000 ≤ 20000000) (hb : 0 ≤ B) (hnc : nc + 11 ≤ 603072 ∧ ns + 346 ≤ 7211113) (htail : ∀ (h' : jH) (nc' ns' : Nat), lW (B + 31000) h' → nc' ≤ nc + 11 → ns' ≤ ns + 346 → J (mLaw L xs nm tab) room_1 lnw Z 2150 [(0, .ref 150), (1, .ref 0), (2, .ref 200), (3, .ref 220), (4, .ref 221), (5, iv i)] [] h' nc' ns') : J (mLaw L xs nm tab) room_1 lnw Z 1220 [(0, .ref 150), (1, .ref 0), (2, .ref 200), (3, .ref 220), (4, .ref 221), (5, iv i)] [] h nc ns := by
  refine j_aload_n dL_law_1220 rfl rfl ?_
  refine j_aload_n dL_law_1221 rfl rfl ?_
  refine j_iload dL_law_1222 rfl ?_
  refine j_iconst dL_law_1224 ?_
  refine j_iadd dL_law_1225 ?_
  refine j_sarr dL_law_1226 ⟨by omega, by omega⟩ hL ?_
  refine j_aload_n dL_law_1227 rfl rfl ?_
  refine j_iload dL_law_1228 rfl ?_
  refine j_iconst dL_law_1230 ?_
  refine j_iadd dL_law_1231 ?_
  refine j_sarr dL_law_1232 ⟨by omega, by omega⟩ hL ?_
  refine j_aload_n dL_law_1233 rfl rfl ?_
  refine j_callSW (o_wouldEnd hI hB hb h220 (p := (sc xs (i + 1))) (o := (sc xs (i + 2))) (sc_r _ _) (sc_r _ _)) dL_law_1234 jc_L_180 jmS_L_wouldEnd (fun q => by cases q) rfl rfl (by decide) (jfr_of rfl rfl) (Nat.le_of_ble_eq_true rfl) ⟨Nat.le_of_ble_eq_true rfl, Nat.le_of_ble_eq_true rfl⟩ ⟨by show _ ≤ 603072; omega, by show _ ≤ 7211113; omega⟩ (fun r h1 hp9 => ?_)
  obtain ⟨hk1, ⟨k, rfl⟩, hs⟩ := hp9
  have hG := hI.2.1.eq okM fun j j0 j1 => hk1 j (by omega) (by have j1 : j < 200 + 10 := j1; omega)
  have hm : kI B (mK (G 0)) := by rw [← hI.k.1]; exact hI.k.2
  have hp9 := hI.2.2.1.2.2.1.2.1
  have h79 := hI.2.2.1.2.2.2.1.2.2.2.1
  have hT := hI.2.2.1.2.2.2.2.2.2.2.1
  have hOb := hI.2.2.1.2.2.2.2.2.2.2.2
  have h13 := hI.2.2.1.2.2.2.2.1.2.2.2
  have h14 : 0 ≤ G 14 0 ∧ G 14 0 ≤ 40 := by have a := hI.2.2.1.2.2.2.2.1.1; have b := hI.2.2.1.2.2.2.2.1.2.1; omega
  have hs3 : G 3 0 = 0 ∨ G 3 0 = 1 := by rcases hI.2.2.1.2.1.2.1 with q | q <;> omega
  show J (mLaw L xs nm tab) _ _ _ 1237 _ (iv k :: []) _ _ _
  refine j_istore (L' := [(0, _), (1, _), (2, _), (3, _), (4, _), (5, _), (6, _)]) dL_law_1237 (Nat.le_of_ble_eq_true rfl) rfl ?_
  refine j_aload_n dL_law_1239 rfl rfl ?_
  refine j_aload_n dL_law_1240 rfl rfl ?_
  refine j_iload dL_law_1241 rfl ?_
  refine j_iconst dL_law_1243 ?_
  refine j_iadd dL_law_1244 ?_
  refine j_sarr dL_law_1245 ⟨by omega, by omega⟩ hL ?_
  refine j_aload_n dL_law_1246 rfl rfl ?_
  refine j_iload dL_law_1247 rfl ?_
  refine j_iconst dL_law_1249 ?_
  refine j_iadd dL_law_1250 ?_
  refine j_sarr dL_law_1251 ⟨by omega, by omega⟩ hL ?_
  refine j_callV (c5_wouldEnd (p := (sc xs (i + 1))) (o := (sc xs (i + 2))) hG rfl hm.1 hm.2.1 (sc_r _ _) (sc_r _ _)) dL_law_1252 jc_L_182 jmV_X5_wouldEnd rfl rfl hG.1 rfl rfl (by simp) jfr_nil (Nat.le_of_ble_eq_true rfl) ⟨Nat.le_of_ble_eq_true rfl, Nat.le_of_ble_eq_true rfl⟩ ⟨by show _ ≤ 603072; omega, by show _ ≤ 7211113; omega⟩ (fun r h2 hp9 => ?_) (fun E h9 q => q.elim)
  obtain ⟨rfl, hG2, hE2⟩ := hp9
  obtain ⟨k2, f2, hk2, hk3, hk6, h222, hval, hW⟩ := hs h2 hG2 hE2
  have hk5 : iv k = iv k2 := Option.some.inj hk2
  show J (mLaw L xs nm tab) _ _ _ 1255 _ (iv _ :: []) _ _ _
  refine j_istore (L' := [(0, _), (1, _), (2, _), (3, _), (4, _), (5, _), (6, _), (7, _)]) dL_law_1255 (Nat.le_of_ble_eq_true rfl) rfl ?_
  rw [hk5]
  clear hk5
  refine j_aload_n dL_law_1257 rfl rfl ?_
  refine j_callV (c5_thrown hG2) dL_law_1258 jc_L_131 jmV_X5_thrown rfl rfl hG2.1 rfl rfl (by simp) jfr_nil (Nat.le_of_ble_eq_true rfl) ⟨Nat.le_of_ble_eq_true rfl, Nat.le_of_ble_eq_true rfl⟩ ⟨by show _ ≤ 603072; omega, by show _ ≤ 7211113; omega⟩ (fun r h3 hp9 => ?_) (fun E h9 q => q.elim)
  obtain ⟨rfl, rfl⟩ := hp9
  show J (mLaw L xs nm tab) _ _ _ 1261 _ (iv _ :: []) _ _ _
  refine j_iload dL_law_1261 rfl ?_
  refine j_icmp_eq (tgt := 1268) dL_law_1263 (by decide) (by omega) (fun _ => ?_) (fun z => absurd hk6 z)
  refine j_iload dL_law_1268 rfl ?_
  refine j_if_ne (tgt := 1285) dL_law_1270 (by decide) (by omega) (fun _ => ?_) (fun k0 => ?_)
  · skip
    refine j_goto (tgt := 2150) dL_law_1285 (by decide) ?_
    refine J.keep (L' := [(0, .ref 150), (1, .ref 0), (2, .ref 200), (3, .ref 220), (4, .ref 221), (5, iv i)]) [0, 1, 2, 3, 4, 5] rfl ?_
    exact htail _ _ _ hW (by omega) (by omega)
  · skip
    refine j_aload_n dL_law_1273 rfl rfl ?_
    refine j_iconst dL_law_1274 ?_
    refine j_laload dL_law_1275 h222 ⟨by decide, by decide⟩ (by decide) ?_
    refine j_iload dL_law_1276 rfl ?_
    refine j_i2lz dL_law_1278 ?_
    rw [hval k0]
    refine j_lcmp dL_law_1279 ⟨(nz_r _).1, (nz_r _).2, (nz_r _).1, (nz_r _).2⟩ ?_
    rw [if_neg (Int.lt_irrefl _), if_pos rfl]
    refine j_if_eq (tgt := 1285) dL_law_1280 (by decide) (by decide) (fun _ => ?_) (fun z => absurd rfl z)
    refine j_goto (tgt := 2150) dL_law_1285 (by decide) ?_
    refine J.keep (L' := [(0, .ref 150), (1, .ref 0), (2, .ref 200), (3, .ref 220), (4, .ref 221), (5, iv i)]) [0, 1, 2, 3, 4, 5] rfl ?_
    exact htail _ _ _ hW (by omega) (by omega)
set_option maxHeartbeats 4000000 in
theorem lc_houses {L : Nat} {xs : Nat → Int32} {nm : String} {tab : List (Nat × Nat × Nat × Nat)} {Z : jFin} {i B : Int} {nc ns : Nat} {K Ks : fS} {P : Int → fS} {X I : fS} {c : Int} {t : Int → Int} {G : fS} {h : jH} {f : Int → Int} (hL : L ≤ 2048) (hi : 0 ≤ i ∧ i + 4 ≤ L) (hI : lI B K Ks P X I c t G h) (h220 : h 220 = some (jA 4 1 f)) (hB : B + 31000 ≤ 20000000) (hb : 0 ≤ B) (hnc : nc + 11 ≤ 603072 ∧ ns + 346 ≤ 7211113) (htail : ∀ (h' : jH) (nc' ns' : Nat), lW (B + 31000) h' → nc' ≤ nc + 11 → ns' ≤ ns + 346 → J (mLaw L xs nm tab) room_1 lnw Z 2150 [(0, .ref 150), (1, .ref 0), (2, .ref 200), (3, .ref 220), (4, .ref 221), (5, iv i)] [] h' nc' ns') : J (mLaw L xs nm tab) room_1 lnw Z 1288 [(0, .ref 150), (1, .ref 0), (2, .ref 200), (3, .ref 220), (4, .ref 221), (5, iv i)] [] h nc ns := by
  refine j_aload_n dL_law_1288 rfl rfl ?_
  refine j_callV (o_houses hI hB hb h220) dL_law_1289 jc_L_183 jmV_X4_houses rfl rfl hI.1.1.x.1 rfl rfl (by decide) (jfr_of rfl rfl) (Nat.le_of_ble_eq_true rfl) ⟨Nat.le_of_ble_eq_true rfl, Nat.le_of_ble_eq_true rfl⟩ ⟨by show _ ≤ 603072; omega, by show _ ≤ 7211113; omega⟩ (fun r h1 hp9 => ?_) (fun E h9 q => q.elim)
  obtain ⟨hk1, v, rfl, hv, hs⟩ := hp9
  have hG := hI.2.1.eq okM fun j j0 j1 => hk1 j (by omega)
  have hm : kI B (mK (G 0)) := by rw [← hI.k.1]; exact hI.k.2
  have hp9 := hI.2.2.1.2.2.1.2.1
  have h79 := hI.2.2.1.2.2.2.1.2.2.2.1
  have hT := hI.2.2.1.2.2.2.2.2.2.2.1
  have hOb := hI.2.2.1.2.2.2.2.2.2.2.2
  have h13 := hI.2.2.1.2.2.2.2.1.2.2.2
  have h14 : 0 ≤ G 14 0 ∧ G 14 0 ≤ 40 := by have a := hI.2.2.1.2.2.2.2.1.1; have b := hI.2.2.1.2.2.2.2.1.2.1; omega
  have hs3 : G 3 0 = 0 ∨ G 3 0 = 1 := by rcases hI.2.2.1.2.1.2.1 with q | q <;> omega
  show J (mLaw L xs nm tab) _ _ _ 1292 _ (iv v :: []) _ _ _
  refine j_aload_n dL_law_1292 rfl rfl ?_
  refine j_callV (c5_houses hG rfl hm.1) dL_law_1293 jc_L_186 jmV_X5_houses rfl rfl hG.1 rfl rfl (by decide) (jfr_of rfl rfl) (Nat.le_of_ble_eq_true rfl) ⟨Nat.le_of_ble_eq_true rfl, Nat.le_of_ble_eq_true rfl⟩ ⟨by show _ ≤ 603072; omega, by show _ ≤ 7211113; omega⟩ (fun r h2 hp9 => ?_) (fun E h9 q => q.elim)
  obtain ⟨rfl, hG2, hE2⟩ := hp9
  have hW := hs h2 hG2 hE2
  show J (mLaw L xs nm tab) _ _ _ 1296 _ (iv _ :: iv v :: []) _ _ _
  refine j_icmp_eqz (tgt := 2150) dL_law_1296 (by decide) (fun _ => ?_) (fun z => absurd hv z)
  refine J.keep (L' := [(0, .ref 150), (1, .ref 0), (2, .ref 200), (3, .ref 220), (4, .ref 221), (5, iv i)]) [0, 1, 2, 3, 4, 5] rfl ?_
  exact htail _ _ _ hW (by omega) (by omega)
set_option maxHeartbeats 4000000 in
theorem lc_housesAgain {L : Nat} {xs : Nat → Int32} {nm : String} {tab : List (Nat × Nat × Nat × Nat)} {Z : jFin} {i B : Int} {nc ns : Nat} {K Ks : fS} {P : Int → fS} {X I : fS} {c : Int} {t : Int → Int} {G : fS} {h : jH} {f : Int → Int} (hL : L ≤ 2048) (hi : 0 ≤ i ∧ i + 4 ≤ L) (hI : lI B K Ks P X I c t G h) (h220 : h 220 = some (jA 4 1 f)) (hB : B + 31000 ≤ 20000000) (hb : 0 ≤ B) (hnc : nc + 11 ≤ 603072 ∧ ns + 346 ≤ 7211113) (htail : ∀ (h' : jH) (nc' ns' : Nat), lW (B + 31000) h' → nc' ≤ nc + 11 → ns' ≤ ns + 346 → J (mLaw L xs nm tab) room_1 lnw Z 2150 [(0, .ref 150), (1, .ref 0), (2, .ref 200), (3, .ref 220), (4, .ref 221), (5, iv i)] [] h' nc' ns') : J (mLaw L xs nm tab) room_1 lnw Z 1301 [(0, .ref 150), (1, .ref 0), (2, .ref 200), (3, .ref 220), (4, .ref 221), (5, iv i)] [] h nc ns := by
  refine j_aload_n dL_law_1301 rfl rfl ?_
  refine j_callV (o_housesAgain hI hB hb h220) dL_law_1302 jc_L_187 jmV_X4_housesAgain rfl rfl hI.1.1.x.1 rfl rfl (by decide) (jfr_of rfl rfl) (Nat.le_of_ble_eq_true rfl) ⟨Nat.le_of_ble_eq_true rfl, Nat.le_of_ble_eq_true rfl⟩ ⟨by show _ ≤ 603072; omega, by show _ ≤ 7211113; omega⟩ (fun r h1 hp9 => ?_) (fun E h9 q => q.elim)
  obtain ⟨hk1, v, rfl, hv, hs⟩ := hp9
  have hG := hI.2.1.eq okM fun j j0 j1 => hk1 j (by omega)
  have hm : kI B (mK (G 0)) := by rw [← hI.k.1]; exact hI.k.2
  have hp9 := hI.2.2.1.2.2.1.2.1
  have h79 := hI.2.2.1.2.2.2.1.2.2.2.1
  have hT := hI.2.2.1.2.2.2.2.2.2.2.1
  have hOb := hI.2.2.1.2.2.2.2.2.2.2.2
  have h13 := hI.2.2.1.2.2.2.2.1.2.2.2
  have h14 : 0 ≤ G 14 0 ∧ G 14 0 ≤ 40 := by have a := hI.2.2.1.2.2.2.2.1.1; have b := hI.2.2.1.2.2.2.2.1.2.1; omega
  have hs3 : G 3 0 = 0 ∨ G 3 0 = 1 := by rcases hI.2.2.1.2.1.2.1 with q | q <;> omega
  show J (mLaw L xs nm tab) _ _ _ 1305 _ (iv v :: []) _ _ _
  refine j_aload_n dL_law_1305 rfl rfl ?_
  refine j_callV (c5_housesAgain hG rfl hm.1) dL_law_1306 jc_L_190 jmV_X5_housesAgain rfl rfl hG.1 rfl rfl (by decide) (jfr_of rfl rfl) (Nat.le_of_ble_eq_true rfl) ⟨Nat.le_of_ble_eq_true rfl, Nat.le_of_ble_eq_true rfl⟩ ⟨by show _ ≤ 603072; omega, by show _ ≤ 7211113; omega⟩ (fun r h2 hp9 => ?_) (fun E h9 q => q.elim)
  obtain ⟨rfl, hG2, hE2⟩ := hp9
  have hW := hs h2 hG2 hE2
  show J (mLaw L xs nm tab) _ _ _ 1309 _ (iv _ :: iv v :: []) _ _ _
  refine j_icmp_eqz (tgt := 2150) dL_law_1309 (by decide) (fun _ => ?_) (fun z => absurd hv z)
  refine J.keep (L' := [(0, .ref 150), (1, .ref 0), (2, .ref 200), (3, .ref 220), (4, .ref 221), (5, iv i)]) [0, 1, 2, 3, 4, 5] rfl ?_
  exact htail _ _ _ hW (by omega) (by omega)
set_option maxHeartbeats 4000000 in
theorem lc_give {L : Nat} {xs : Nat → Int32} {nm : String} {tab : List (Nat × Nat × Nat × Nat)} {Z : jFin} {i B : Int} {nc ns : Nat} {K Ks : fS} {P : Int → fS} {X I : fS} {c : Int} {t : Int → Int} {G : fS} {h : jH} {f : Int → Int} (hL : L ≤ 2048) (hi : 0 ≤ i ∧ i + 4 ≤ L) (hI : lI B K Ks P X I c t G h) (h220 : h 220 = some (jA 4 1 f)) (hB : B + 31000 ≤ 20000000) (hb : 0 ≤ B) (hnc : nc + 11 ≤ 603072 ∧ ns + 346 ≤ 7211113) (htail : ∀ (h' : jH) (nc' ns' : Nat), lW (B + 31000) h' → nc' ≤ nc + 11 → ns' ≤ ns + 346 → J (mLaw L xs nm tab) room_1 lnw Z 2150 [(0, .ref 150), (1, .ref 0), (2, .ref 200), (3, .ref 220), (4, .ref 221), (5, iv i)] [] h' nc' ns') : J (mLaw L xs nm tab) room_1 lnw Z 1314 [(0, .ref 150), (1, .ref 0), (2, .ref 200), (3, .ref 220), (4, .ref 221), (5, iv i)] [] h nc ns := by
  refine j_aload_n dL_law_1314 rfl rfl ?_
  refine j_aload_n dL_law_1315 rfl rfl ?_
  refine j_iload dL_law_1316 rfl ?_
  refine j_iconst dL_law_1318 ?_
  refine j_iadd dL_law_1319 ?_
  refine j_sarr dL_law_1320 ⟨by omega, by omega⟩ hL ?_
  refine j_aload_n dL_law_1321 rfl rfl ?_
  refine j_iload dL_law_1322 rfl ?_
  refine j_iconst dL_law_1324 ?_
  refine j_iadd dL_law_1325 ?_
  refine j_sarr dL_law_1326 ⟨by omega, by omega⟩ hL ?_
  refine j_aload_n dL_law_1327 rfl rfl ?_
  refine j_callSW (o_give hI hB hb h220 (p := (sc xs (i + 1))) (o := (sc xs (i + 2))) (sc_r _ _) (sc_r _ _)) dL_law_1328 jc_L_191 jmS_L_give (fun q => by cases q) rfl rfl (by decide) (jfr_of rfl rfl) (Nat.le_of_ble_eq_true rfl) ⟨Nat.le_of_ble_eq_true rfl, Nat.le_of_ble_eq_true rfl⟩ ⟨by show _ ≤ 603072; omega, by show _ ≤ 7211113; omega⟩ (fun r h1 hp9 => ?_)
  obtain ⟨hk1, ⟨k, rfl⟩, hs⟩ := hp9
  have hG := hI.2.1.eq okM fun j j0 j1 => hk1 j (by omega) (by have j1 : j < 200 + 10 := j1; omega)
  have hm : kI B (mK (G 0)) := by rw [← hI.k.1]; exact hI.k.2
  have hp9 := hI.2.2.1.2.2.1.2.1
  have h79 := hI.2.2.1.2.2.2.1.2.2.2.1
  have hT := hI.2.2.1.2.2.2.2.2.2.2.1
  have hOb := hI.2.2.1.2.2.2.2.2.2.2.2
  have h13 := hI.2.2.1.2.2.2.2.1.2.2.2
  have h14 : 0 ≤ G 14 0 ∧ G 14 0 ≤ 40 := by have a := hI.2.2.1.2.2.2.2.1.1; have b := hI.2.2.1.2.2.2.2.1.2.1; omega
  have hs3 : G 3 0 = 0 ∨ G 3 0 = 1 := by rcases hI.2.2.1.2.1.2.1 with q | q <;> omega
  show J (mLaw L xs nm tab) _ _ _ 1331 _ (iv k :: []) _ _ _
  refine j_istore (L' := [(0, _), (1, _), (2, _), (3, _), (4, _), (5, _), (6, _)]) dL_law_1331 (Nat.le_of_ble_eq_true rfl) rfl ?_
  refine j_aload_n dL_law_1333 rfl rfl ?_
  refine j_aload_n dL_law_1334 rfl rfl ?_
  refine j_iload dL_law_1335 rfl ?_
  refine j_iconst dL_law_1337 ?_
  refine j_iadd dL_law_1338 ?_
  refine j_sarr dL_law_1339 ⟨by omega, by omega⟩ hL ?_
  refine j_aload_n dL_law_1340 rfl rfl ?_
  refine j_iload dL_law_1341 rfl ?_
  refine j_iconst dL_law_1343 ?_
  refine j_iadd dL_law_1344 ?_
  refine j_sarr dL_law_1345 ⟨by omega, by omega⟩ hL ?_
  refine j_callV (c5_give (p := (sc xs (i + 1))) (o := (sc xs (i + 2))) hG rfl hm (by omega) (sc_r _ _) (sc_r _ _) hp9) dL_law_1346 jc_L_193 jmV_X5_give rfl rfl hG.1 rfl rfl (by simp) jfr_nil (Nat.le_of_ble_eq_true rfl) ⟨Nat.le_of_ble_eq_true rfl, Nat.le_of_ble_eq_true rfl⟩ ⟨by show _ ≤ 603072; omega, by show _ ≤ 7211113; omega⟩ (fun r h2 hp9 => ?_) (fun E h9 q => q.elim)
  obtain ⟨rfl, hG2, hE2⟩ := hp9
  obtain ⟨k2, f2, hk2, hk3, hk6, h222, hval, hW⟩ := hs h2 hG2 hE2
  have hk5 : iv k = iv k2 := Option.some.inj hk2
  show J (mLaw L xs nm tab) _ _ _ 1349 _ (iv _ :: []) _ _ _
  refine j_istore (L' := [(0, _), (1, _), (2, _), (3, _), (4, _), (5, _), (6, _), (7, _)]) dL_law_1349 (Nat.le_of_ble_eq_true rfl) rfl ?_
  rw [hk5]
  clear hk5
  refine j_aload_n dL_law_1351 rfl rfl ?_
  refine j_callV (c5_thrown hG2) dL_law_1352 jc_L_131 jmV_X5_thrown rfl rfl hG2.1 rfl rfl (by simp) jfr_nil (Nat.le_of_ble_eq_true rfl) ⟨Nat.le_of_ble_eq_true rfl, Nat.le_of_ble_eq_true rfl⟩ ⟨by show _ ≤ 603072; omega, by show _ ≤ 7211113; omega⟩ (fun r h3 hp9 => ?_) (fun E h9 q => q.elim)
  obtain ⟨rfl, rfl⟩ := hp9
  show J (mLaw L xs nm tab) _ _ _ 1355 _ (iv _ :: []) _ _ _
  refine j_iload dL_law_1355 rfl ?_
  refine j_icmp_eq (tgt := 1362) dL_law_1357 (by decide) (by omega) (fun _ => ?_) (fun z => absurd hk6 z)
  refine j_iload dL_law_1362 rfl ?_
  refine j_if_ne (tgt := 1379) dL_law_1364 (by decide) (by omega) (fun _ => ?_) (fun k0 => ?_)
  · skip
    refine j_goto (tgt := 2150) dL_law_1379 (by decide) ?_
    refine J.keep (L' := [(0, .ref 150), (1, .ref 0), (2, .ref 200), (3, .ref 220), (4, .ref 221), (5, iv i)]) [0, 1, 2, 3, 4, 5] rfl ?_
    exact htail _ _ _ hW (by omega) (by omega)
  · skip
    refine j_aload_n dL_law_1367 rfl rfl ?_
    refine j_iconst dL_law_1368 ?_
    refine j_laload dL_law_1369 h222 ⟨by decide, by decide⟩ (by decide) ?_
    refine j_iload dL_law_1370 rfl ?_
    refine j_i2lz dL_law_1372 ?_
    rw [hval k0]
    refine j_lcmp dL_law_1373 ⟨(nz_r _).1, (nz_r _).2, (nz_r _).1, (nz_r _).2⟩ ?_
    rw [if_neg (Int.lt_irrefl _), if_pos rfl]
    refine j_if_eq (tgt := 1379) dL_law_1374 (by decide) (by decide) (fun _ => ?_) (fun z => absurd rfl z)
    refine j_goto (tgt := 2150) dL_law_1379 (by decide) ?_
    refine J.keep (L' := [(0, .ref 150), (1, .ref 0), (2, .ref 200), (3, .ref 220), (4, .ref 221), (5, iv i)]) [0, 1, 2, 3, 4, 5] rfl ?_
    exact htail _ _ _ hW (by omega) (by omega)
set_option maxHeartbeats 4000000 in
theorem lc_die {L : Nat} {xs : Nat → Int32} {nm : String} {tab : List (Nat × Nat × Nat × Nat)} {Z : jFin} {i B : Int} {nc ns : Nat} {K Ks : fS} {P : Int → fS} {X I : fS} {c : Int} {t : Int → Int} {G : fS} {h : jH} {f : Int → Int} (hL : L ≤ 2048) (hi : 0 ≤ i ∧ i + 4 ≤ L) (hI : lI B K Ks P X I c t G h) (h220 : h 220 = some (jA 4 1 f)) (hB : B + 31000 ≤ 20000000) (hb : 0 ≤ B) (hnc : nc + 11 ≤ 603072 ∧ ns + 346 ≤ 7211113) (htail : ∀ (h' : jH) (nc' ns' : Nat), lW (B + 31000) h' → nc' ≤ nc + 11 → ns' ≤ ns + 346 → J (mLaw L xs nm tab) room_1 lnw Z 2150 [(0, .ref 150), (1, .ref 0), (2, .ref 200), (3, .ref 220), (4, .ref 221), (5, iv i)] [] h' nc' ns') : J (mLaw L xs nm tab) room_1 lnw Z 1382 [(0, .ref 150), (1, .ref 0), (2, .ref 200), (3, .ref 220), (4, .ref 221), (5, iv i)] [] h nc ns := by
  refine j_aload_n dL_law_1382 rfl rfl ?_
  refine j_aload_n dL_law_1383 rfl rfl ?_
  refine j_iload dL_law_1384 rfl ?_
  refine j_iconst dL_law_1386 ?_
  refine j_iadd dL_law_1387 ?_
  refine j_sarr dL_law_1388 ⟨by omega, by omega⟩ hL ?_
  refine j_aload_n dL_law_1389 rfl rfl ?_
  refine j_callSW (o_die hI hB hb h220 (p := (sc xs (i + 1))) (sc_r _ _)) dL_law_1390 jc_L_194 jmS_L_die (fun q => by cases q) rfl rfl (by decide) (jfr_of rfl rfl) (Nat.le_of_ble_eq_true rfl) ⟨Nat.le_of_ble_eq_true rfl, Nat.le_of_ble_eq_true rfl⟩ ⟨by show _ ≤ 603072; omega, by show _ ≤ 7211113; omega⟩ (fun r h1 hp9 => ?_)
  obtain ⟨hk1, ⟨k, rfl⟩, hs⟩ := hp9
  have hG := hI.2.1.eq okM fun j j0 j1 => hk1 j (by omega) (by have j1 : j < 200 + 10 := j1; omega)
  have hm : kI B (mK (G 0)) := by rw [← hI.k.1]; exact hI.k.2
  have hp9 := hI.2.2.1.2.2.1.2.1
  have h79 := hI.2.2.1.2.2.2.1.2.2.2.1
  have hT := hI.2.2.1.2.2.2.2.2.2.2.1
  have hOb := hI.2.2.1.2.2.2.2.2.2.2.2
  have h13 := hI.2.2.1.2.2.2.2.1.2.2.2
  have h14 : 0 ≤ G 14 0 ∧ G 14 0 ≤ 40 := by have a := hI.2.2.1.2.2.2.2.1.1; have b := hI.2.2.1.2.2.2.2.1.2.1; omega
  have hs3 : G 3 0 = 0 ∨ G 3 0 = 1 := by rcases hI.2.2.1.2.1.2.1 with q | q <;> omega
  show J (mLaw L xs nm tab) _ _ _ 1393 _ (iv k :: []) _ _ _
  refine j_istore (L' := [(0, _), (1, _), (2, _), (3, _), (4, _), (5, _), (6, _)]) dL_law_1393 (Nat.le_of_ble_eq_true rfl) rfl ?_
  refine j_aload_n dL_law_1395 rfl rfl ?_
  refine j_aload_n dL_law_1396 rfl rfl ?_
  refine j_iload dL_law_1397 rfl ?_
  refine j_iconst dL_law_1399 ?_
  refine j_iadd dL_law_1400 ?_
  refine j_sarr dL_law_1401 ⟨by omega, by omega⟩ hL ?_
  refine j_callV (c5_die (p := (sc xs (i + 1))) hG rfl hm (by omega) (sc_r _ _) hp9) dL_law_1402 jc_L_196 jmV_X5_die rfl rfl hG.1 rfl rfl (by simp) jfr_nil (Nat.le_of_ble_eq_true rfl) ⟨Nat.le_of_ble_eq_true rfl, Nat.le_of_ble_eq_true rfl⟩ ⟨by show _ ≤ 603072; omega, by show _ ≤ 7211113; omega⟩ (fun r h2 hp9 => ?_) (fun E h9 q => q.elim)
  obtain ⟨rfl, hG2, hE2⟩ := hp9
  obtain ⟨k2, f2, hk2, hk3, hk6, h222, hval, hW⟩ := hs h2 hG2 hE2
  have hk5 : iv k = iv k2 := Option.some.inj hk2
  show J (mLaw L xs nm tab) _ _ _ 1405 _ (iv _ :: []) _ _ _
  refine j_istore (L' := [(0, _), (1, _), (2, _), (3, _), (4, _), (5, _), (6, _), (7, _)]) dL_law_1405 (Nat.le_of_ble_eq_true rfl) rfl ?_
  rw [hk5]
  clear hk5
  refine j_aload_n dL_law_1407 rfl rfl ?_
  refine j_callV (c5_thrown hG2) dL_law_1408 jc_L_131 jmV_X5_thrown rfl rfl hG2.1 rfl rfl (by simp) jfr_nil (Nat.le_of_ble_eq_true rfl) ⟨Nat.le_of_ble_eq_true rfl, Nat.le_of_ble_eq_true rfl⟩ ⟨by show _ ≤ 603072; omega, by show _ ≤ 7211113; omega⟩ (fun r h3 hp9 => ?_) (fun E h9 q => q.elim)
  obtain ⟨rfl, rfl⟩ := hp9
  show J (mLaw L xs nm tab) _ _ _ 1411 _ (iv _ :: []) _ _ _
  refine j_iload dL_law_1411 rfl ?_
  refine j_icmp_eq (tgt := 1418) dL_law_1413 (by decide) (by omega) (fun _ => ?_) (fun z => absurd hk6 z)
  refine j_iload dL_law_1418 rfl ?_
  refine j_if_ne (tgt := 1435) dL_law_1420 (by decide) (by omega) (fun _ => ?_) (fun k0 => ?_)
  · skip
    refine j_goto (tgt := 2150) dL_law_1435 (by decide) ?_
    refine J.keep (L' := [(0, .ref 150), (1, .ref 0), (2, .ref 200), (3, .ref 220), (4, .ref 221), (5, iv i)]) [0, 1, 2, 3, 4, 5] rfl ?_
    exact htail _ _ _ hW (by omega) (by omega)
  · skip
    refine j_aload_n dL_law_1423 rfl rfl ?_
    refine j_iconst dL_law_1424 ?_
    refine j_laload dL_law_1425 h222 ⟨by decide, by decide⟩ (by decide) ?_
    refine j_iload dL_law_1426 rfl ?_
    refine j_i2lz dL_law_1428 ?_
    rw [hval k0]
    refine j_lcmp dL_law_1429 ⟨(nz_r _).1, (nz_r _).2, (nz_r _).1, (nz_r _).2⟩ ?_
    rw [if_neg (Int.lt_irrefl _), if_pos rfl]
    refine j_if_eq (tgt := 1435) dL_law_1430 (by decide) (by decide) (fun _ => ?_) (fun z => absurd rfl z)
    refine j_goto (tgt := 2150) dL_law_1435 (by decide) ?_
    refine J.keep (L' := [(0, .ref 150), (1, .ref 0), (2, .ref 200), (3, .ref 220), (4, .ref 221), (5, iv i)]) [0, 1, 2, 3, 4, 5] rfl ?_
    exact htail _ _ _ hW (by omega) (by omega)
set_option maxHeartbeats 4000000 in
theorem lc_heir {L : Nat} {xs : Nat → Int32} {nm : String} {tab : List (Nat × Nat × Nat × Nat)} {Z : jFin} {i B : Int} {nc ns : Nat} {K Ks : fS} {P : Int → fS} {X I : fS} {c : Int} {t : Int → Int} {G : fS} {h : jH} {f : Int → Int} (hL : L ≤ 2048) (hi : 0 ≤ i ∧ i + 4 ≤ L) (hI : lI B K Ks P X I c t G h) (h220 : h 220 = some (jA 4 1 f)) (hB : B + 31000 ≤ 20000000) (hb : 0 ≤ B) (hnc : nc + 11 ≤ 603072 ∧ ns + 346 ≤ 7211113) (htail : ∀ (h' : jH) (nc' ns' : Nat), lW (B + 31000) h' → nc' ≤ nc + 11 → ns' ≤ ns + 346 → J (mLaw L xs nm tab) room_1 lnw Z 2150 [(0, .ref 150), (1, .ref 0), (2, .ref 200), (3, .ref 220), (4, .ref 221), (5, iv i)] [] h' nc' ns') : J (mLaw L xs nm tab) room_1 lnw Z 1438 [(0, .ref 150), (1, .ref 0), (2, .ref 200), (3, .ref 220), (4, .ref 221), (5, iv i)] [] h nc ns := by
  refine j_aload_n dL_law_1438 rfl rfl ?_
  refine j_aload_n dL_law_1439 rfl rfl ?_
  refine j_iload dL_law_1440 rfl ?_
  refine j_iconst dL_law_1442 ?_
  refine j_iadd dL_law_1443 ?_
  refine j_sarr dL_law_1444 ⟨by omega, by omega⟩ hL ?_
  refine j_aload_n dL_law_1445 rfl rfl ?_
  refine j_callSW (o_heir hI hB hb h220 (p := (sc xs (i + 1))) (sc_r _ _)) dL_law_1446 jc_L_197 jmS_L_heir (fun q => by cases q) rfl rfl (by decide) (jfr_of rfl rfl) (Nat.le_of_ble_eq_true rfl) ⟨Nat.le_of_ble_eq_true rfl, Nat.le_of_ble_eq_true rfl⟩ ⟨by show _ ≤ 603072; omega, by show _ ≤ 7211113; omega⟩ (fun r h1 hp9 => ?_)
  obtain ⟨hk1, ⟨k, rfl⟩, hs⟩ := hp9
  have hG := hI.2.1.eq okM fun j j0 j1 => hk1 j (by omega) (by have j1 : j < 200 + 10 := j1; omega)
  have hm : kI B (mK (G 0)) := by rw [← hI.k.1]; exact hI.k.2
  have hp9 := hI.2.2.1.2.2.1.2.1
  have h79 := hI.2.2.1.2.2.2.1.2.2.2.1
  have hT := hI.2.2.1.2.2.2.2.2.2.2.1
  have hOb := hI.2.2.1.2.2.2.2.2.2.2.2
  have h13 := hI.2.2.1.2.2.2.2.1.2.2.2
  have h14 : 0 ≤ G 14 0 ∧ G 14 0 ≤ 40 := by have a := hI.2.2.1.2.2.2.2.1.1; have b := hI.2.2.1.2.2.2.2.1.2.1; omega
  have hs3 : G 3 0 = 0 ∨ G 3 0 = 1 := by rcases hI.2.2.1.2.1.2.1 with q | q <;> omega
  show J (mLaw L xs nm tab) _ _ _ 1449 _ (iv k :: []) _ _ _
  refine j_istore (L' := [(0, _), (1, _), (2, _), (3, _), (4, _), (5, _), (6, _)]) dL_law_1449 (Nat.le_of_ble_eq_true rfl) rfl ?_
  refine j_aload_n dL_law_1451 rfl rfl ?_
  refine j_aload_n dL_law_1452 rfl rfl ?_
  refine j_iload dL_law_1453 rfl ?_
  refine j_iconst dL_law_1455 ?_
  refine j_iadd dL_law_1456 ?_
  refine j_sarr dL_law_1457 ⟨by omega, by omega⟩ hL ?_
  refine j_callV (c5_heir (p := (sc xs (i + 1))) hG rfl hm.1 hm.2.1 (sc_r _ _)) dL_law_1458 jc_L_199 jmV_X5_heir rfl rfl hG.1 rfl rfl (by simp) jfr_nil (Nat.le_of_ble_eq_true rfl) ⟨Nat.le_of_ble_eq_true rfl, Nat.le_of_ble_eq_true rfl⟩ ⟨by show _ ≤ 603072; omega, by show _ ≤ 7211113; omega⟩ (fun r h2 hp9 => ?_) (fun E h9 q => q.elim)
  obtain ⟨rfl, hG2, hE2⟩ := hp9
  obtain ⟨k2, f2, hk2, hk3, hk6, h222, hval, hW⟩ := hs h2 hG2 hE2
  have hk5 : iv k = iv k2 := Option.some.inj hk2
  show J (mLaw L xs nm tab) _ _ _ 1461 _ (iv _ :: []) _ _ _
  refine j_istore (L' := [(0, _), (1, _), (2, _), (3, _), (4, _), (5, _), (6, _), (7, _)]) dL_law_1461 (Nat.le_of_ble_eq_true rfl) rfl ?_
  rw [hk5]
  clear hk5
  refine j_aload_n dL_law_1463 rfl rfl ?_
  refine j_callV (c5_thrown hG2) dL_law_1464 jc_L_131 jmV_X5_thrown rfl rfl hG2.1 rfl rfl (by simp) jfr_nil (Nat.le_of_ble_eq_true rfl) ⟨Nat.le_of_ble_eq_true rfl, Nat.le_of_ble_eq_true rfl⟩ ⟨by show _ ≤ 603072; omega, by show _ ≤ 7211113; omega⟩ (fun r h3 hp9 => ?_) (fun E h9 q => q.elim)
  obtain ⟨rfl, rfl⟩ := hp9
  show J (mLaw L xs nm tab) _ _ _ 1467 _ (iv _ :: []) _ _ _
  refine j_iload dL_law_1467 rfl ?_
  refine j_icmp_eq (tgt := 1474) dL_law_1469 (by decide) (by omega) (fun _ => ?_) (fun z => absurd hk6 z)
  refine j_iload dL_law_1474 rfl ?_
  refine j_if_ne (tgt := 1491) dL_law_1476 (by decide) (by omega) (fun _ => ?_) (fun k0 => ?_)
  · skip
    refine j_goto (tgt := 2150) dL_law_1491 (by decide) ?_
    refine J.keep (L' := [(0, .ref 150), (1, .ref 0), (2, .ref 200), (3, .ref 220), (4, .ref 221), (5, iv i)]) [0, 1, 2, 3, 4, 5] rfl ?_
    exact htail _ _ _ hW (by omega) (by omega)
  · skip
    refine j_aload_n dL_law_1479 rfl rfl ?_
    refine j_iconst dL_law_1480 ?_
    refine j_laload dL_law_1481 h222 ⟨by decide, by decide⟩ (by decide) ?_
    refine j_iload dL_law_1482 rfl ?_
    refine j_i2lz dL_law_1484 ?_
    rw [hval k0]
    refine j_lcmp dL_law_1485 ⟨(nz_r _).1, (nz_r _).2, (nz_r _).1, (nz_r _).2⟩ ?_
    rw [if_neg (Int.lt_irrefl _), if_pos rfl]
    refine j_if_eq (tgt := 1491) dL_law_1486 (by decide) (by decide) (fun _ => ?_) (fun z => absurd rfl z)
    refine j_goto (tgt := 2150) dL_law_1491 (by decide) ?_
    refine J.keep (L' := [(0, .ref 150), (1, .ref 0), (2, .ref 200), (3, .ref 220), (4, .ref 221), (5, iv i)]) [0, 1, 2, 3, 4, 5] rfl ?_
    exact htail _ _ _ hW (by omega) (by omega)
set_option maxHeartbeats 4000000 in
theorem lc_ranked {L : Nat} {xs : Nat → Int32} {nm : String} {tab : List (Nat × Nat × Nat × Nat)} {Z : jFin} {i B : Int} {nc ns : Nat} {K Ks : fS} {P : Int → fS} {X I : fS} {c : Int} {t : Int → Int} {G : fS} {h : jH} {f : Int → Int} (hL : L ≤ 2048) (hi : 0 ≤ i ∧ i + 4 ≤ L) (hI : lI B K Ks P X I c t G h) (h220 : h 220 = some (jA 4 1 f)) (hB : B + 31000 ≤ 20000000) (hb : 0 ≤ B) (hnc : nc + 11 ≤ 603072 ∧ ns + 346 ≤ 7211113) (htail : ∀ (h' : jH) (nc' ns' : Nat), lW (B + 31000) h' → nc' ≤ nc + 11 → ns' ≤ ns + 346 → J (mLaw L xs nm tab) room_1 lnw Z 2150 [(0, .ref 150), (1, .ref 0), (2, .ref 200), (3, .ref 220), (4, .ref 221), (5, iv i)] [] h' nc' ns') : J (mLaw L xs nm tab) room_1 lnw Z 1494 [(0, .ref 150), (1, .ref 0), (2, .ref 200), (3, .ref 220), (4, .ref 221), (5, iv i)] [] h nc ns := by
  refine j_aload_n dL_law_1494 rfl rfl ?_
  refine j_aload_n dL_law_1495 rfl rfl ?_
  refine j_iload dL_law_1496 rfl ?_
  refine j_iconst dL_law_1498 ?_
  refine j_iadd dL_law_1499 ?_
  refine j_sarr dL_law_1500 ⟨by omega, by omega⟩ hL ?_
  refine j_aload_n dL_law_1501 rfl rfl ?_
  refine j_callSW (o_ranked hI hB hb h220 (q := (sc xs (i + 1))) (sc_r _ _)) dL_law_1502 jc_L_200 jmS_L_ranked (fun q => by cases q) rfl rfl (by decide) (jfr_of rfl rfl) (Nat.le_of_ble_eq_true rfl) ⟨Nat.le_of_ble_eq_true rfl, Nat.le_of_ble_eq_true rfl⟩ ⟨by show _ ≤ 603072; omega, by show _ ≤ 7211113; omega⟩ (fun r h1 hp9 => ?_)
  obtain ⟨hk1, ⟨k, rfl⟩, hs⟩ := hp9
  have hG := hI.2.1.eq okM fun j j0 j1 => hk1 j (by omega) (by have j1 : j < 200 + 10 := j1; omega)
  have hm : kI B (mK (G 0)) := by rw [← hI.k.1]; exact hI.k.2
  have hp9 := hI.2.2.1.2.2.1.2.1
  have h79 := hI.2.2.1.2.2.2.1.2.2.2.1
  have hT := hI.2.2.1.2.2.2.2.2.2.2.1
  have hOb := hI.2.2.1.2.2.2.2.2.2.2.2
  have h13 := hI.2.2.1.2.2.2.2.1.2.2.2
  have h14 : 0 ≤ G 14 0 ∧ G 14 0 ≤ 40 := by have a := hI.2.2.1.2.2.2.2.1.1; have b := hI.2.2.1.2.2.2.2.1.2.1; omega
  have hs3 : G 3 0 = 0 ∨ G 3 0 = 1 := by rcases hI.2.2.1.2.1.2.1 with q | q <;> omega
  show J (mLaw L xs nm tab) _ _ _ 1505 _ (iv k :: []) _ _ _
  refine j_istore (L' := [(0, _), (1, _), (2, _), (3, _), (4, _), (5, _), (6, _)]) dL_law_1505 (Nat.le_of_ble_eq_true rfl) rfl ?_
  refine j_aload_n dL_law_1507 rfl rfl ?_
  refine j_aload_n dL_law_1508 rfl rfl ?_
  refine j_iload dL_law_1509 rfl ?_
  refine j_iconst dL_law_1511 ?_
  refine j_iadd dL_law_1512 ?_
  refine j_sarr dL_law_1513 ⟨by omega, by omega⟩ hL ?_
  refine j_callV (c5_ranked (q := (sc xs (i + 1))) hG rfl hm.1 (sc_r _ _)) dL_law_1514 jc_L_202 jmV_X5_ranked rfl rfl hG.1 rfl rfl (by simp) jfr_nil (Nat.le_of_ble_eq_true rfl) ⟨Nat.le_of_ble_eq_true rfl, Nat.le_of_ble_eq_true rfl⟩ ⟨by show _ ≤ 603072; omega, by show _ ≤ 7211113; omega⟩ (fun r h2 hp9 => ?_) (fun E h9 q => q.elim)
  obtain ⟨rfl, hG2, hE2⟩ := hp9
  obtain ⟨k2, f2, hk2, hk3, hk6, h222, hval, hW⟩ := hs h2 hG2 hE2
  have hk5 : iv k = iv k2 := Option.some.inj hk2
  show J (mLaw L xs nm tab) _ _ _ 1517 _ (iv _ :: []) _ _ _
  refine j_istore (L' := [(0, _), (1, _), (2, _), (3, _), (4, _), (5, _), (6, _), (7, _)]) dL_law_1517 (Nat.le_of_ble_eq_true rfl) rfl ?_
  rw [hk5]
  clear hk5
  refine j_aload_n dL_law_1519 rfl rfl ?_
  refine j_callV (c5_thrown hG2) dL_law_1520 jc_L_131 jmV_X5_thrown rfl rfl hG2.1 rfl rfl (by simp) jfr_nil (Nat.le_of_ble_eq_true rfl) ⟨Nat.le_of_ble_eq_true rfl, Nat.le_of_ble_eq_true rfl⟩ ⟨by show _ ≤ 603072; omega, by show _ ≤ 7211113; omega⟩ (fun r h3 hp9 => ?_) (fun E h9 q => q.elim)
  obtain ⟨rfl, rfl⟩ := hp9
  show J (mLaw L xs nm tab) _ _ _ 1523 _ (iv _ :: []) _ _ _
  refine j_iload dL_law_1523 rfl ?_
  refine j_icmp_eq (tgt := 1530) dL_law_1525 (by decide) (by omega) (fun _ => ?_) (fun z => absurd hk6 z)
  refine j_iload dL_law_1530 rfl ?_
  refine j_if_ne (tgt := 1547) dL_law_1532 (by decide) (by omega) (fun _ => ?_) (fun k0 => ?_)
  · skip
    refine j_goto (tgt := 2150) dL_law_1547 (by decide) ?_
    refine J.keep (L' := [(0, .ref 150), (1, .ref 0), (2, .ref 200), (3, .ref 220), (4, .ref 221), (5, iv i)]) [0, 1, 2, 3, 4, 5] rfl ?_
    exact htail _ _ _ hW (by omega) (by omega)
  · skip
    refine j_aload_n dL_law_1535 rfl rfl ?_
    refine j_iconst dL_law_1536 ?_
    refine j_laload dL_law_1537 h222 ⟨by decide, by decide⟩ (by decide) ?_
    refine j_iload dL_law_1538 rfl ?_
    refine j_i2lz dL_law_1540 ?_
    rw [hval k0]
    refine j_lcmp dL_law_1541 ⟨(nz_r _).1, (nz_r _).2, (nz_r _).1, (nz_r _).2⟩ ?_
    rw [if_neg (Int.lt_irrefl _), if_pos rfl]
    refine j_if_eq (tgt := 1547) dL_law_1542 (by decide) (by decide) (fun _ => ?_) (fun z => absurd rfl z)
    refine j_goto (tgt := 2150) dL_law_1547 (by decide) ?_
    refine J.keep (L' := [(0, .ref 150), (1, .ref 0), (2, .ref 200), (3, .ref 220), (4, .ref 221), (5, iv i)]) [0, 1, 2, 3, 4, 5] rfl ?_
    exact htail _ _ _ hW (by omega) (by omega)
set_option maxHeartbeats 4000000 in
theorem lc_line {L : Nat} {xs : Nat → Int32} {nm : String} {tab : List (Nat × Nat × Nat × Nat)} {Z : jFin} {i B : Int} {nc ns : Nat} {K Ks : fS} {P : Int → fS} {X I : fS} {c : Int} {t : Int → Int} {G : fS} {h : jH} {f : Int → Int} (hL : L ≤ 2048) (hi : 0 ≤ i ∧ i + 4 ≤ L) (hI : lI B K Ks P X I c t G h) (h220 : h 220 = some (jA 4 1 f)) (hB : B + 31000 ≤ 20000000) (hb : 0 ≤ B) (hnc : nc + 11 ≤ 603072 ∧ ns + 346 ≤ 7211113) (htail : ∀ (h' : jH) (nc' ns' : Nat), lW (B + 31000) h' → nc' ≤ nc + 11 → ns' ≤ ns + 346 → J (mLaw L xs nm tab) room_1 lnw Z 2150 [(0, .ref 150), (1, .ref 0), (2, .ref 200), (3, .ref 220), (4, .ref 221), (5, iv i)] [] h' nc' ns') : J (mLaw L xs nm tab) room_1 lnw Z 1550 [(0, .ref 150), (1, .ref 0), (2, .ref 200), (3, .ref 220), (4, .ref 221), (5, iv i)] [] h nc ns := by
  refine j_aload_n dL_law_1550 rfl rfl ?_
  refine j_aload_n dL_law_1551 rfl rfl ?_
  refine j_iload dL_law_1552 rfl ?_
  refine j_iconst dL_law_1554 ?_
  refine j_iadd dL_law_1555 ?_
  refine j_sarr dL_law_1556 ⟨by omega, by omega⟩ hL ?_
  refine j_aload_n dL_law_1557 rfl rfl ?_
  refine j_callSW (o_line hI hB hb h220 (p := (sc xs (i + 1))) (sc_r _ _)) dL_law_1558 jc_L_203 jmS_L_line (fun q => by cases q) rfl rfl (by decide) (jfr_of rfl rfl) (Nat.le_of_ble_eq_true rfl) ⟨Nat.le_of_ble_eq_true rfl, Nat.le_of_ble_eq_true rfl⟩ ⟨by show _ ≤ 603072; omega, by show _ ≤ 7211113; omega⟩ (fun r h1 hp9 => ?_)
  obtain ⟨hk1, ⟨k, rfl⟩, hs⟩ := hp9
  have hG := hI.2.1.eq okM fun j j0 j1 => hk1 j (by omega) (by have j1 : j < 200 + 10 := j1; omega)
  have hm : kI B (mK (G 0)) := by rw [← hI.k.1]; exact hI.k.2
  have hp9 := hI.2.2.1.2.2.1.2.1
  have h79 := hI.2.2.1.2.2.2.1.2.2.2.1
  have hT := hI.2.2.1.2.2.2.2.2.2.2.1
  have hOb := hI.2.2.1.2.2.2.2.2.2.2.2
  have h13 := hI.2.2.1.2.2.2.2.1.2.2.2
  have h14 : 0 ≤ G 14 0 ∧ G 14 0 ≤ 40 := by have a := hI.2.2.1.2.2.2.2.1.1; have b := hI.2.2.1.2.2.2.2.1.2.1; omega
  have hs3 : G 3 0 = 0 ∨ G 3 0 = 1 := by rcases hI.2.2.1.2.1.2.1 with q | q <;> omega
  show J (mLaw L xs nm tab) _ _ _ 1561 _ (iv k :: []) _ _ _
  refine j_istore (L' := [(0, _), (1, _), (2, _), (3, _), (4, _), (5, _), (6, _)]) dL_law_1561 (Nat.le_of_ble_eq_true rfl) rfl ?_
  refine j_aload_n dL_law_1563 rfl rfl ?_
  refine j_aload_n dL_law_1564 rfl rfl ?_
  refine j_iload dL_law_1565 rfl ?_
  refine j_iconst dL_law_1567 ?_
  refine j_iadd dL_law_1568 ?_
  refine j_sarr dL_law_1569 ⟨by omega, by omega⟩ hL ?_
  refine j_callV (c5_line (p := (sc xs (i + 1))) hG rfl hm.1 (sc_r _ _)) dL_law_1570 jc_L_205 jmV_X5_line rfl rfl hG.1 rfl rfl (by simp) jfr_nil (Nat.le_of_ble_eq_true rfl) ⟨Nat.le_of_ble_eq_true rfl, Nat.le_of_ble_eq_true rfl⟩ ⟨by show _ ≤ 603072; omega, by show _ ≤ 7211113; omega⟩ (fun r h2 hp9 => ?_) (fun E h9 q => q.elim)
  obtain ⟨rfl, hG2, hE2⟩ := hp9
  obtain ⟨k2, f2, hk2, hk3, hk6, h222, hval, hW⟩ := hs h2 hG2 hE2
  have hk5 : iv k = iv k2 := Option.some.inj hk2
  show J (mLaw L xs nm tab) _ _ _ 1573 _ (iv _ :: []) _ _ _
  refine j_istore (L' := [(0, _), (1, _), (2, _), (3, _), (4, _), (5, _), (6, _), (7, _)]) dL_law_1573 (Nat.le_of_ble_eq_true rfl) rfl ?_
  rw [hk5]
  clear hk5
  refine j_aload_n dL_law_1575 rfl rfl ?_
  refine j_callV (c5_thrown hG2) dL_law_1576 jc_L_131 jmV_X5_thrown rfl rfl hG2.1 rfl rfl (by simp) jfr_nil (Nat.le_of_ble_eq_true rfl) ⟨Nat.le_of_ble_eq_true rfl, Nat.le_of_ble_eq_true rfl⟩ ⟨by show _ ≤ 603072; omega, by show _ ≤ 7211113; omega⟩ (fun r h3 hp9 => ?_) (fun E h9 q => q.elim)
  obtain ⟨rfl, rfl⟩ := hp9
  show J (mLaw L xs nm tab) _ _ _ 1579 _ (iv _ :: []) _ _ _
  refine j_iload dL_law_1579 rfl ?_
  refine j_icmp_eq (tgt := 1586) dL_law_1581 (by decide) (by omega) (fun _ => ?_) (fun z => absurd hk6 z)
  refine j_iload dL_law_1586 rfl ?_
  refine j_if_ne (tgt := 1603) dL_law_1588 (by decide) (by omega) (fun _ => ?_) (fun k0 => ?_)
  · skip
    refine j_goto (tgt := 2150) dL_law_1603 (by decide) ?_
    refine J.keep (L' := [(0, .ref 150), (1, .ref 0), (2, .ref 200), (3, .ref 220), (4, .ref 221), (5, iv i)]) [0, 1, 2, 3, 4, 5] rfl ?_
    exact htail _ _ _ hW (by omega) (by omega)
  · skip
    refine j_aload_n dL_law_1591 rfl rfl ?_
    refine j_iconst dL_law_1592 ?_
    refine j_laload dL_law_1593 h222 ⟨by decide, by decide⟩ (by decide) ?_
    refine j_iload dL_law_1594 rfl ?_
    refine j_i2lz dL_law_1596 ?_
    rw [hval k0]
    refine j_lcmp dL_law_1597 ⟨(nz_r _).1, (nz_r _).2, (nz_r _).1, (nz_r _).2⟩ ?_
    rw [if_neg (Int.lt_irrefl _), if_pos rfl]
    refine j_if_eq (tgt := 1603) dL_law_1598 (by decide) (by decide) (fun _ => ?_) (fun z => absurd rfl z)
    refine j_goto (tgt := 2150) dL_law_1603 (by decide) ?_
    refine J.keep (L' := [(0, .ref 150), (1, .ref 0), (2, .ref 200), (3, .ref 220), (4, .ref 221), (5, iv i)]) [0, 1, 2, 3, 4, 5] rfl ?_
    exact htail _ _ _ hW (by omega) (by omega)
set_option maxHeartbeats 4000000 in
theorem lc_character {L : Nat} {xs : Nat → Int32} {nm : String} {tab : List (Nat × Nat × Nat × Nat)} {Z : jFin} {i B : Int} {nc ns : Nat} {K Ks : fS} {P : Int → fS} {X I : fS} {c : Int} {t : Int → Int} {G : fS} {h : jH} {f : Int → Int} (hL : L ≤ 2048) (hi : 0 ≤ i ∧ i + 4 ≤ L) (hI : lI B K Ks P X I c t G h) (h220 : h 220 = some (jA 4 1 f)) (hB : B + 31000 ≤ 20000000) (hb : 0 ≤ B) (hnc : nc + 11 ≤ 603072 ∧ ns + 346 ≤ 7211113) (htail : ∀ (h' : jH) (nc' ns' : Nat), lW (B + 31000) h' → nc' ≤ nc + 11 → ns' ≤ ns + 346 → J (mLaw L xs nm tab) room_1 lnw Z 2150 [(0, .ref 150), (1, .ref 0), (2, .ref 200), (3, .ref 220), (4, .ref 221), (5, iv i)] [] h' nc' ns') : J (mLaw L xs nm tab) room_1 lnw Z 1606 [(0, .ref 150), (1, .ref 0), (2, .ref 200), (3, .ref 220), (4, .ref 221), (5, iv i)] [] h nc ns := by
  refine j_aload_n dL_law_1606 rfl rfl ?_
  refine j_aload_n dL_law_1607 rfl rfl ?_
  refine j_iload dL_law_1608 rfl ?_
  refine j_iconst dL_law_1610 ?_
  refine j_iadd dL_law_1611 ?_
  refine j_sarr dL_law_1612 ⟨by omega, by omega⟩ hL ?_
  refine j_aload_n dL_law_1613 rfl rfl ?_
  refine j_callSW (o_character hI hB hb h220 (i := (sc xs (i + 1))) (sc_r _ _)) dL_law_1614 jc_L_206 jmS_L_character (fun q => by cases q) rfl rfl (by decide) (jfr_of rfl rfl) (Nat.le_of_ble_eq_true rfl) ⟨Nat.le_of_ble_eq_true rfl, Nat.le_of_ble_eq_true rfl⟩ ⟨by show _ ≤ 603072; omega, by show _ ≤ 7211113; omega⟩ (fun r h1 hp9 => ?_)
  obtain ⟨hk1, ⟨k, rfl⟩, hs⟩ := hp9
  have hG := hI.2.1.eq okM fun j j0 j1 => hk1 j (by omega) (by have j1 : j < 200 + 10 := j1; omega)
  have hm : kI B (mK (G 0)) := by rw [← hI.k.1]; exact hI.k.2
  have hp9 := hI.2.2.1.2.2.1.2.1
  have h79 := hI.2.2.1.2.2.2.1.2.2.2.1
  have hT := hI.2.2.1.2.2.2.2.2.2.2.1
  have hOb := hI.2.2.1.2.2.2.2.2.2.2.2
  have h13 := hI.2.2.1.2.2.2.2.1.2.2.2
  have h14 : 0 ≤ G 14 0 ∧ G 14 0 ≤ 40 := by have a := hI.2.2.1.2.2.2.2.1.1; have b := hI.2.2.1.2.2.2.2.1.2.1; omega
  have hs3 : G 3 0 = 0 ∨ G 3 0 = 1 := by rcases hI.2.2.1.2.1.2.1 with q | q <;> omega
  show J (mLaw L xs nm tab) _ _ _ 1617 _ (iv k :: []) _ _ _
  refine j_istore (L' := [(0, _), (1, _), (2, _), (3, _), (4, _), (5, _), (6, _)]) dL_law_1617 (Nat.le_of_ble_eq_true rfl) rfl ?_
  refine j_aload_n dL_law_1619 rfl rfl ?_
  refine j_aload_n dL_law_1620 rfl rfl ?_
  refine j_iload dL_law_1621 rfl ?_
  refine j_iconst dL_law_1623 ?_
  refine j_iadd dL_law_1624 ?_
  refine j_sarr dL_law_1625 ⟨by omega, by omega⟩ hL ?_
  refine j_callV (c5_character (i := (sc xs (i + 1))) hG (sc_r _ _) h14 h13) dL_law_1626 jc_L_208 jmV_X5_character rfl rfl hG.1 rfl rfl (by simp) jfr_nil (Nat.le_of_ble_eq_true rfl) ⟨Nat.le_of_ble_eq_true rfl, Nat.le_of_ble_eq_true rfl⟩ ⟨by show _ ≤ 603072; omega, by show _ ≤ 7211113; omega⟩ (fun r h2 hp9 => ?_) (fun E h9 q => q.elim)
  obtain ⟨rfl, hG2, hE2⟩ := hp9
  obtain ⟨k2, f2, hk2, hk3, hk6, h222, hval, hW⟩ := hs h2 hG2 hE2
  have hk5 : iv k = iv k2 := Option.some.inj hk2
  show J (mLaw L xs nm tab) _ _ _ 1629 _ (iv _ :: []) _ _ _
  refine j_istore (L' := [(0, _), (1, _), (2, _), (3, _), (4, _), (5, _), (6, _), (7, _)]) dL_law_1629 (Nat.le_of_ble_eq_true rfl) rfl ?_
  rw [hk5]
  clear hk5
  refine j_aload_n dL_law_1631 rfl rfl ?_
  refine j_callV (c5_thrown hG2) dL_law_1632 jc_L_131 jmV_X5_thrown rfl rfl hG2.1 rfl rfl (by simp) jfr_nil (Nat.le_of_ble_eq_true rfl) ⟨Nat.le_of_ble_eq_true rfl, Nat.le_of_ble_eq_true rfl⟩ ⟨by show _ ≤ 603072; omega, by show _ ≤ 7211113; omega⟩ (fun r h3 hp9 => ?_) (fun E h9 q => q.elim)
  obtain ⟨rfl, rfl⟩ := hp9
  show J (mLaw L xs nm tab) _ _ _ 1635 _ (iv _ :: []) _ _ _
  refine j_iload dL_law_1635 rfl ?_
  refine j_icmp_eq (tgt := 1642) dL_law_1637 (by decide) (by omega) (fun _ => ?_) (fun z => absurd hk6 z)
  refine j_iload dL_law_1642 rfl ?_
  refine j_if_ne (tgt := 1659) dL_law_1644 (by decide) (by omega) (fun _ => ?_) (fun k0 => ?_)
  · skip
    refine j_goto (tgt := 2150) dL_law_1659 (by decide) ?_
    refine J.keep (L' := [(0, .ref 150), (1, .ref 0), (2, .ref 200), (3, .ref 220), (4, .ref 221), (5, iv i)]) [0, 1, 2, 3, 4, 5] rfl ?_
    exact htail _ _ _ hW (by omega) (by omega)
  · skip
    refine j_aload_n dL_law_1647 rfl rfl ?_
    refine j_iconst dL_law_1648 ?_
    refine j_laload dL_law_1649 h222 ⟨by decide, by decide⟩ (by decide) ?_
    refine j_iload dL_law_1650 rfl ?_
    refine j_i2lz dL_law_1652 ?_
    rw [hval k0]
    refine j_lcmp dL_law_1653 ⟨(nz_r _).1, (nz_r _).2, (nz_r _).1, (nz_r _).2⟩ ?_
    rw [if_neg (Int.lt_irrefl _), if_pos rfl]
    refine j_if_eq (tgt := 1659) dL_law_1654 (by decide) (by decide) (fun _ => ?_) (fun z => absurd rfl z)
    refine j_goto (tgt := 2150) dL_law_1659 (by decide) ?_
    refine J.keep (L' := [(0, .ref 150), (1, .ref 0), (2, .ref 200), (3, .ref 220), (4, .ref 221), (5, iv i)]) [0, 1, 2, 3, 4, 5] rfl ?_
    exact htail _ _ _ hW (by omega) (by omega)
set_option maxHeartbeats 4000000 in
theorem lc_append {L : Nat} {xs : Nat → Int32} {nm : String} {tab : List (Nat × Nat × Nat × Nat)} {Z : jFin} {i B : Int} {nc ns : Nat} {K Ks : fS} {P : Int → fS} {X I : fS} {c : Int} {t : Int → Int} {G : fS} {h : jH} {f : Int → Int} (hL : L ≤ 2048) (hi : 0 ≤ i ∧ i + 4 ≤ L) (hI : lI B K Ks P X I c t G h) (h220 : h 220 = some (jA 4 1 f)) (hB : B + 31000 ≤ 20000000) (hb : 0 ≤ B) (hnc : nc + 11 ≤ 603072 ∧ ns + 346 ≤ 7211113) (htail : ∀ (h' : jH) (nc' ns' : Nat), lW (B + 31000) h' → nc' ≤ nc + 11 → ns' ≤ ns + 346 → J (mLaw L xs nm tab) room_1 lnw Z 2150 [(0, .ref 150), (1, .ref 0), (2, .ref 200), (3, .ref 220), (4, .ref 221), (5, iv i)] [] h' nc' ns') : J (mLaw L xs nm tab) room_1 lnw Z 1662 [(0, .ref 150), (1, .ref 0), (2, .ref 200), (3, .ref 220), (4, .ref 221), (5, iv i)] [] h nc ns := by
  refine j_aload_n dL_law_1662 rfl rfl ?_
  refine j_aload_n dL_law_1663 rfl rfl ?_
  refine j_iload dL_law_1664 rfl ?_
  refine j_iconst dL_law_1666 ?_
  refine j_iadd dL_law_1667 ?_
  refine j_sarr dL_law_1668 ⟨by omega, by omega⟩ hL ?_
  refine j_i2c dL_law_1669 (ch9_e _) ?_
  refine j_aload_n dL_law_1670 rfl rfl ?_
  refine j_callSW (o_append hI hB hb h220 (ch := (ch9 (sc xs (i + 1)))) (ch9_r _)) dL_law_1671 jc_L_209 jmS_L_append (fun q => by cases q) rfl rfl (by decide) (jfr_of rfl rfl) (Nat.le_of_ble_eq_true rfl) ⟨Nat.le_of_ble_eq_true rfl, Nat.le_of_ble_eq_true rfl⟩ ⟨by show _ ≤ 603072; omega, by show _ ≤ 7211113; omega⟩ (fun r h1 hp9 => ?_)
  obtain ⟨hk1, ⟨k, rfl⟩, hs⟩ := hp9
  have hG := hI.2.1.eq okM fun j j0 j1 => hk1 j (by omega) (by have j1 : j < 200 + 10 := j1; omega)
  have hm : kI B (mK (G 0)) := by rw [← hI.k.1]; exact hI.k.2
  have hp9 := hI.2.2.1.2.2.1.2.1
  have h79 := hI.2.2.1.2.2.2.1.2.2.2.1
  have hT := hI.2.2.1.2.2.2.2.2.2.2.1
  have hOb := hI.2.2.1.2.2.2.2.2.2.2.2
  have h13 := hI.2.2.1.2.2.2.2.1.2.2.2
  have h14 : 0 ≤ G 14 0 ∧ G 14 0 ≤ 40 := by have a := hI.2.2.1.2.2.2.2.1.1; have b := hI.2.2.1.2.2.2.2.1.2.1; omega
  have hs3 : G 3 0 = 0 ∨ G 3 0 = 1 := by rcases hI.2.2.1.2.1.2.1 with q | q <;> omega
  show J (mLaw L xs nm tab) _ _ _ 1674 _ (iv k :: []) _ _ _
  refine j_istore (L' := [(0, _), (1, _), (2, _), (3, _), (4, _), (5, _), (6, _)]) dL_law_1674 (Nat.le_of_ble_eq_true rfl) rfl ?_
  refine j_aload_n dL_law_1676 rfl rfl ?_
  refine j_aload_n dL_law_1677 rfl rfl ?_
  refine j_iload dL_law_1678 rfl ?_
  refine j_iconst dL_law_1680 ?_
  refine j_iadd dL_law_1681 ?_
  refine j_sarr dL_law_1682 ⟨by omega, by omega⟩ hL ?_
  refine j_i2c dL_law_1683 (ch9_e _) ?_
  refine j_callV (c5_append (c := (ch9 (sc xs (i + 1)))) hG (ch9_r _) hT.2.1) dL_law_1684 jc_L_212 jmV_X5_append rfl rfl hG.1 rfl rfl (by simp) jfr_nil (Nat.le_of_ble_eq_true rfl) ⟨Nat.le_of_ble_eq_true rfl, Nat.le_of_ble_eq_true rfl⟩ ⟨by show _ ≤ 603072; omega, by show _ ≤ 7211113; omega⟩ (fun r h2 hp9 => ?_) (fun E h9 q => q.elim)
  obtain ⟨rfl, hG2, hE2⟩ := hp9
  obtain ⟨k2, f2, hk2, hk3, hk6, h222, hval, hW⟩ := hs h2 hG2 hE2
  have hk5 : iv k = iv k2 := Option.some.inj hk2
  show J (mLaw L xs nm tab) _ _ _ 1687 _ (iv _ :: []) _ _ _
  refine j_istore (L' := [(0, _), (1, _), (2, _), (3, _), (4, _), (5, _), (6, _), (7, _)]) dL_law_1687 (Nat.le_of_ble_eq_true rfl) rfl ?_
  rw [hk5]
  clear hk5
  refine j_aload_n dL_law_1689 rfl rfl ?_
  refine j_callV (c5_thrown hG2) dL_law_1690 jc_L_131 jmV_X5_thrown rfl rfl hG2.1 rfl rfl (by simp) jfr_nil (Nat.le_of_ble_eq_true rfl) ⟨Nat.le_of_ble_eq_true rfl, Nat.le_of_ble_eq_true rfl⟩ ⟨by show _ ≤ 603072; omega, by show _ ≤ 7211113; omega⟩ (fun r h3 hp9 => ?_) (fun E h9 q => q.elim)
  obtain ⟨rfl, rfl⟩ := hp9
  show J (mLaw L xs nm tab) _ _ _ 1693 _ (iv _ :: []) _ _ _
  refine j_iload dL_law_1693 rfl ?_
  refine j_icmp_eq (tgt := 1700) dL_law_1695 (by decide) (by omega) (fun _ => ?_) (fun z => absurd hk6 z)
  refine j_iload dL_law_1700 rfl ?_
  refine j_if_ne (tgt := 1717) dL_law_1702 (by decide) (by omega) (fun _ => ?_) (fun k0 => ?_)
  · skip
    refine j_goto (tgt := 2150) dL_law_1717 (by decide) ?_
    refine J.keep (L' := [(0, .ref 150), (1, .ref 0), (2, .ref 200), (3, .ref 220), (4, .ref 221), (5, iv i)]) [0, 1, 2, 3, 4, 5] rfl ?_
    exact htail _ _ _ hW (by omega) (by omega)
  · skip
    refine j_aload_n dL_law_1705 rfl rfl ?_
    refine j_iconst dL_law_1706 ?_
    refine j_laload dL_law_1707 h222 ⟨by decide, by decide⟩ (by decide) ?_
    refine j_iload dL_law_1708 rfl ?_
    refine j_i2lz dL_law_1710 ?_
    rw [hval k0]
    refine j_lcmp dL_law_1711 ⟨(nz_r _).1, (nz_r _).2, (nz_r _).1, (nz_r _).2⟩ ?_
    rw [if_neg (Int.lt_irrefl _), if_pos rfl]
    refine j_if_eq (tgt := 1717) dL_law_1712 (by decide) (by decide) (fun _ => ?_) (fun z => absurd rfl z)
    refine j_goto (tgt := 2150) dL_law_1717 (by decide) ?_
    refine J.keep (L' := [(0, .ref 150), (1, .ref 0), (2, .ref 200), (3, .ref 220), (4, .ref 221), (5, iv i)]) [0, 1, 2, 3, 4, 5] rfl ?_
    exact htail _ _ _ hW (by omega) (by omega)
set_option maxHeartbeats 4000000 in
theorem lc_run {L : Nat} {xs : Nat → Int32} {nm : String} {tab : List (Nat × Nat × Nat × Nat)} {Z : jFin} {i B : Int} {nc ns : Nat} {K Ks : fS} {P : Int → fS} {X I : fS} {c : Int} {t : Int → Int} {G : fS} {h : jH} {f : Int → Int} (hL : L ≤ 2048) (hi : 0 ≤ i ∧ i + 4 ≤ L) (hI : lI B K Ks P X I c t G h) (h220 : h 220 = some (jA 4 1 f)) (hB : B + 31000 ≤ 20000000) (hb : 0 ≤ B) (hnc : nc + 11 ≤ 603072 ∧ ns + 346 ≤ 7211113) (htail : ∀ (h' : jH) (nc' ns' : Nat), lW (B + 31000) h' → nc' ≤ nc + 11 → ns' ≤ ns + 346 → J (mLaw L xs nm tab) room_1 lnw Z 2150 [(0, .ref 150), (1, .ref 0), (2, .ref 200), (3, .ref 220), (4, .ref 221), (5, iv i)] [] h' nc' ns') : J (mLaw L xs nm tab) room_1 lnw Z 1720 [(0, .ref 150), (1, .ref 0), (2, .ref 200), (3, .ref 220), (4, .ref 221), (5, iv i)] [] h nc ns := by
  refine j_aload_n dL_law_1720 rfl rfl ?_
  refine j_aload_n dL_law_1721 rfl rfl ?_
  refine j_callSW (o_run hI hB hb h220  ) dL_law_1722 jc_L_213 jmS_L_run (fun q => by cases q) rfl rfl (by decide) (jfr_of rfl rfl) (Nat.le_of_ble_eq_true rfl) ⟨Nat.le_of_ble_eq_true rfl, Nat.le_of_ble_eq_true rfl⟩ ⟨by show _ ≤ 603072; omega, by show _ ≤ 7211113; omega⟩ (fun r h1 hp9 => ?_)
  obtain ⟨hk1, ⟨k, rfl⟩, hs⟩ := hp9
  have hG := hI.2.1.eq okM fun j j0 j1 => hk1 j (by omega) (by have j1 : j < 200 + 10 := j1; omega)
  have hm : kI B (mK (G 0)) := by rw [← hI.k.1]; exact hI.k.2
  have hp9 := hI.2.2.1.2.2.1.2.1
  have h79 := hI.2.2.1.2.2.2.1.2.2.2.1
  have hT := hI.2.2.1.2.2.2.2.2.2.2.1
  have hOb := hI.2.2.1.2.2.2.2.2.2.2.2
  have h13 := hI.2.2.1.2.2.2.2.1.2.2.2
  have h14 : 0 ≤ G 14 0 ∧ G 14 0 ≤ 40 := by have a := hI.2.2.1.2.2.2.2.1.1; have b := hI.2.2.1.2.2.2.2.1.2.1; omega
  have hs3 : G 3 0 = 0 ∨ G 3 0 = 1 := by rcases hI.2.2.1.2.1.2.1 with q | q <;> omega
  show J (mLaw L xs nm tab) _ _ _ 1725 _ (iv k :: []) _ _ _
  refine j_istore (L' := [(0, _), (1, _), (2, _), (3, _), (4, _), (5, _), (6, _)]) dL_law_1725 (Nat.le_of_ble_eq_true rfl) rfl ?_
  refine j_aload_n dL_law_1727 rfl rfl ?_
  refine j_callV (c5_run  hG hm hT hOb hp9 h79 hB) dL_law_1728 jc_L_215 jmV_X5_run rfl rfl hG.1 rfl rfl (by simp) jfr_nil (Nat.le_of_ble_eq_true rfl) ⟨Nat.le_of_ble_eq_true rfl, Nat.le_of_ble_eq_true rfl⟩ ⟨by show _ ≤ 603072; omega, by show _ ≤ 7211113; omega⟩ (fun r h2 hp9 => ?_) (fun E h9 q => q.elim)
  obtain ⟨x9, G9, rfl, hq9, hG2, hE2⟩ := hp9
  obtain ⟨k2, f2, hk2, hk3, hk6, h222, hval, hW⟩ := (hs x9 G9 hq9).2.2 h2 hG2 hE2
  have hk6 : G9 6 0 = k2 := hk6
  have hk5 : iv k = iv k2 := Option.some.inj hk2
  show J (mLaw L xs nm tab) _ _ _ 1731 _ (iv _ :: []) _ _ _
  refine j_istore (L' := [(0, _), (1, _), (2, _), (3, _), (4, _), (5, _), (6, _), (7, _)]) dL_law_1731 (Nat.le_of_ble_eq_true rfl) rfl ?_
  rw [hk5]
  clear hk5
  refine j_aload_n dL_law_1733 rfl rfl ?_
  refine j_callV (c5_thrown hG2) dL_law_1734 jc_L_131 jmV_X5_thrown rfl rfl hG2.1 rfl rfl (by simp) jfr_nil (Nat.le_of_ble_eq_true rfl) ⟨Nat.le_of_ble_eq_true rfl, Nat.le_of_ble_eq_true rfl⟩ ⟨by show _ ≤ 603072; omega, by show _ ≤ 7211113; omega⟩ (fun r h3 hp9 => ?_) (fun E h9 q => q.elim)
  obtain ⟨rfl, rfl⟩ := hp9
  show J (mLaw L xs nm tab) _ _ _ 1737 _ (iv _ :: []) _ _ _
  refine j_iload dL_law_1737 rfl ?_
  refine j_icmp_eq (tgt := 1744) dL_law_1739 (by decide) (by omega) (fun _ => ?_) (fun z => absurd hk6 z)
  refine j_iload dL_law_1744 rfl ?_
  refine j_if_ne (tgt := 1761) dL_law_1746 (by decide) (by omega) (fun _ => ?_) (fun k0 => ?_)
  · skip
    refine j_goto (tgt := 2150) dL_law_1761 (by decide) ?_
    refine J.keep (L' := [(0, .ref 150), (1, .ref 0), (2, .ref 200), (3, .ref 220), (4, .ref 221), (5, iv i)]) [0, 1, 2, 3, 4, 5] rfl ?_
    exact htail _ _ _ hW (by omega) (by omega)
  · skip
    refine j_aload_n dL_law_1749 rfl rfl ?_
    refine j_iconst dL_law_1750 ?_
    refine j_laload dL_law_1751 h222 ⟨by decide, by decide⟩ (by decide) ?_
    refine j_iload dL_law_1752 rfl ?_
    refine j_i2lz dL_law_1754 ?_
    rw [hval k0]
    refine j_lcmp dL_law_1755 ⟨(nz_r _).1, (nz_r _).2, (nz_r _).1, (nz_r _).2⟩ ?_
    rw [if_neg (Int.lt_irrefl _), if_pos rfl]
    refine j_if_eq (tgt := 1761) dL_law_1756 (by decide) (by decide) (fun _ => ?_) (fun z => absurd rfl z)
    refine j_goto (tgt := 2150) dL_law_1761 (by decide) ?_
    refine J.keep (L' := [(0, .ref 150), (1, .ref 0), (2, .ref 200), (3, .ref 220), (4, .ref 221), (5, iv i)]) [0, 1, 2, 3, 4, 5] rfl ?_
    exact htail _ _ _ hW (by omega) (by omega)
set_option maxHeartbeats 4000000 in
theorem lc_errorPosition {L : Nat} {xs : Nat → Int32} {nm : String} {tab : List (Nat × Nat × Nat × Nat)} {Z : jFin} {i B : Int} {nc ns : Nat} {K Ks : fS} {P : Int → fS} {X I : fS} {c : Int} {t : Int → Int} {G : fS} {h : jH} {f : Int → Int} (hL : L ≤ 2048) (hi : 0 ≤ i ∧ i + 4 ≤ L) (hI : lI B K Ks P X I c t G h) (h220 : h 220 = some (jA 4 1 f)) (hB : B + 31000 ≤ 20000000) (hb : 0 ≤ B) (hnc : nc + 11 ≤ 603072 ∧ ns + 346 ≤ 7211113) (htail : ∀ (h' : jH) (nc' ns' : Nat), lW (B + 31000) h' → nc' ≤ nc + 11 → ns' ≤ ns + 346 → J (mLaw L xs nm tab) room_1 lnw Z 2150 [(0, .ref 150), (1, .ref 0), (2, .ref 200), (3, .ref 220), (4, .ref 221), (5, iv i)] [] h' nc' ns') : J (mLaw L xs nm tab) room_1 lnw Z 1764 [(0, .ref 150), (1, .ref 0), (2, .ref 200), (3, .ref 220), (4, .ref 221), (5, iv i)] [] h nc ns := by
  refine j_aload_n dL_law_1764 rfl rfl ?_
  refine j_callV (o_errorPosition hI hB hb h220) dL_law_1765 jc_L_216 jmV_X4_errorPosition rfl rfl hI.1.1.x.1 rfl rfl (by decide) (jfr_of rfl rfl) (Nat.le_of_ble_eq_true rfl) ⟨Nat.le_of_ble_eq_true rfl, Nat.le_of_ble_eq_true rfl⟩ ⟨by show _ ≤ 603072; omega, by show _ ≤ 7211113; omega⟩ (fun r h1 hp9 => ?_) (fun E h9 q => q.elim)
  obtain ⟨hk1, v, rfl, hv, hs⟩ := hp9
  have hG := hI.2.1.eq okM fun j j0 j1 => hk1 j (by omega)
  have hm : kI B (mK (G 0)) := by rw [← hI.k.1]; exact hI.k.2
  have hp9 := hI.2.2.1.2.2.1.2.1
  have h79 := hI.2.2.1.2.2.2.1.2.2.2.1
  have hT := hI.2.2.1.2.2.2.2.2.2.2.1
  have hOb := hI.2.2.1.2.2.2.2.2.2.2.2
  have h13 := hI.2.2.1.2.2.2.2.1.2.2.2
  have h14 : 0 ≤ G 14 0 ∧ G 14 0 ≤ 40 := by have a := hI.2.2.1.2.2.2.2.1.1; have b := hI.2.2.1.2.2.2.2.1.2.1; omega
  have hs3 : G 3 0 = 0 ∨ G 3 0 = 1 := by rcases hI.2.2.1.2.1.2.1 with q | q <;> omega
  show J (mLaw L xs nm tab) _ _ _ 1768 _ (iv v :: []) _ _ _
  refine j_aload_n dL_law_1768 rfl rfl ?_
  refine j_callV (c5_errorPosition hG) dL_law_1769 jc_L_219 jmV_X5_errorPosition rfl rfl hG.1 rfl rfl (by decide) (jfr_of rfl rfl) (Nat.le_of_ble_eq_true rfl) ⟨Nat.le_of_ble_eq_true rfl, Nat.le_of_ble_eq_true rfl⟩ ⟨by show _ ≤ 603072; omega, by show _ ≤ 7211113; omega⟩ (fun r h2 hp9 => ?_) (fun E h9 q => q.elim)
  obtain ⟨rfl, hG2, hE2⟩ := hp9
  have hW := hs h2 hG2 hE2
  show J (mLaw L xs nm tab) _ _ _ 1772 _ (iv _ :: iv v :: []) _ _ _
  refine j_icmp_eqz (tgt := 2150) dL_law_1772 (by decide) (fun _ => ?_) (fun z => absurd hv z)
  refine J.keep (L' := [(0, .ref 150), (1, .ref 0), (2, .ref 200), (3, .ref 220), (4, .ref 221), (5, iv i)]) [0, 1, 2, 3, 4, 5] rfl ?_
  exact htail _ _ _ hW (by omega) (by omega)
set_option maxHeartbeats 4000000 in
theorem lc_refusal {L : Nat} {xs : Nat → Int32} {nm : String} {tab : List (Nat × Nat × Nat × Nat)} {Z : jFin} {i B : Int} {nc ns : Nat} {K Ks : fS} {P : Int → fS} {X I : fS} {c : Int} {t : Int → Int} {G : fS} {h : jH} {f : Int → Int} (hL : L ≤ 2048) (hi : 0 ≤ i ∧ i + 4 ≤ L) (hI : lI B K Ks P X I c t G h) (h220 : h 220 = some (jA 4 1 f)) (hB : B + 31000 ≤ 20000000) (hb : 0 ≤ B) (hnc : nc + 11 ≤ 603072 ∧ ns + 346 ≤ 7211113) (htail : ∀ (h' : jH) (nc' ns' : Nat), lW (B + 31000) h' → nc' ≤ nc + 11 → ns' ≤ ns + 346 → J (mLaw L xs nm tab) room_1 lnw Z 2150 [(0, .ref 150), (1, .ref 0), (2, .ref 200), (3, .ref 220), (4, .ref 221), (5, iv i)] [] h' nc' ns') : J (mLaw L xs nm tab) room_1 lnw Z 1777 [(0, .ref 150), (1, .ref 0), (2, .ref 200), (3, .ref 220), (4, .ref 221), (5, iv i)] [] h nc ns := by
  refine j_aload_n dL_law_1777 rfl rfl ?_
  refine j_aload_n dL_law_1778 rfl rfl ?_
  refine j_iload dL_law_1779 rfl ?_
  refine j_iconst dL_law_1781 ?_
  refine j_iadd dL_law_1782 ?_
  refine j_sarr dL_law_1783 ⟨by omega, by omega⟩ hL ?_
  refine j_if_eq (tgt := 1791) dL_law_1784 (by decide) (sc_r _ _) (fun c9 => ?_) (fun c9 => ?_)
  · skip
    refine j_iconst dL_law_1791 ?_
    refine j_aload_n dL_law_1792 rfl rfl ?_
    refine j_callSW (o_refusal hI hB hb h220 (d := 0) (.inl rfl)) dL_law_1793 jc_L_220 jmS_L_refusal (fun q => by cases q) rfl rfl (by decide) (jfr_of rfl rfl) (Nat.le_of_ble_eq_true rfl) ⟨Nat.le_of_ble_eq_true rfl, Nat.le_of_ble_eq_true rfl⟩ ⟨by show _ ≤ 603072; omega, by show _ ≤ 7211113; omega⟩ (fun r h1 hp9 => ?_)
    obtain ⟨hk1, ⟨k, rfl⟩, hs⟩ := hp9
    have hG := hI.2.1.eq okM fun j j0 j1 => hk1 j (by omega) (by have j1 : j < 200 + 10 := j1; omega)
    have hm : kI B (mK (G 0)) := by rw [← hI.k.1]; exact hI.k.2
    have hp9 := hI.2.2.1.2.2.1.2.1
    have h79 := hI.2.2.1.2.2.2.1.2.2.2.1
    have hT := hI.2.2.1.2.2.2.2.2.2.2.1
    have hOb := hI.2.2.1.2.2.2.2.2.2.2.2
    have h13 := hI.2.2.1.2.2.2.2.1.2.2.2
    have h14 : 0 ≤ G 14 0 ∧ G 14 0 ≤ 40 := by have a := hI.2.2.1.2.2.2.2.1.1; have b := hI.2.2.1.2.2.2.2.1.2.1; omega
    have hs3 : G 3 0 = 0 ∨ G 3 0 = 1 := by rcases hI.2.2.1.2.1.2.1 with q | q <;> omega
    show J (mLaw L xs nm tab) _ _ _ 1796 _ (iv k :: []) _ _ _
    refine j_istore (L' := [(0, _), (1, _), (2, _), (3, _), (4, _), (5, _), (6, _)]) dL_law_1796 (Nat.le_of_ble_eq_true rfl) rfl ?_
    refine j_aload_n dL_law_1798 rfl rfl ?_
    refine j_aload_n dL_law_1799 rfl rfl ?_
    refine j_iload dL_law_1800 rfl ?_
    refine j_iconst dL_law_1802 ?_
    refine j_iadd dL_law_1803 ?_
    refine j_sarr dL_law_1804 ⟨by omega, by omega⟩ hL ?_
    refine j_if_eq (tgt := 1812) dL_law_1805 (by decide) (sc_r _ _) (fun _ => ?_) (fun z => absurd c9 z)
    refine j_iconst dL_law_1812 ?_
    refine j_callV (c5_refusal (d := 0) hG (.inl rfl) h79) dL_law_1813 jc_L_223 jmV_X5_refusal rfl rfl hG.1 rfl rfl (by simp) jfr_nil (Nat.le_of_ble_eq_true rfl) ⟨Nat.le_of_ble_eq_true rfl, Nat.le_of_ble_eq_true rfl⟩ ⟨by show _ ≤ 603072; omega, by show _ ≤ 7211113; omega⟩ (fun r h2 hp9 => ?_) (fun E h9 q => q.elim)
    obtain ⟨rfl, hG2, hE2⟩ := hp9
    obtain ⟨k2, f2, hk2, hk3, hk6, h222, hval, hW⟩ := hs h2 hG2 hE2
    have hk5 : iv k = iv k2 := Option.some.inj hk2
    show J (mLaw L xs nm tab) _ _ _ 1816 _ (iv _ :: []) _ _ _
    refine j_istore (L' := [(0, _), (1, _), (2, _), (3, _), (4, _), (5, _), (6, _), (7, _)]) dL_law_1816 (Nat.le_of_ble_eq_true rfl) rfl ?_
    rw [hk5]
    clear hk5
    refine j_aload_n dL_law_1818 rfl rfl ?_
    refine j_callV (c5_thrown hG2) dL_law_1819 jc_L_131 jmV_X5_thrown rfl rfl hG2.1 rfl rfl (by simp) jfr_nil (Nat.le_of_ble_eq_true rfl) ⟨Nat.le_of_ble_eq_true rfl, Nat.le_of_ble_eq_true rfl⟩ ⟨by show _ ≤ 603072; omega, by show _ ≤ 7211113; omega⟩ (fun r h3 hp9 => ?_) (fun E h9 q => q.elim)
    obtain ⟨rfl, rfl⟩ := hp9
    show J (mLaw L xs nm tab) _ _ _ 1822 _ (iv _ :: []) _ _ _
    refine j_iload dL_law_1822 rfl ?_
    refine j_icmp_eq (tgt := 1829) dL_law_1824 (by decide) (by omega) (fun _ => ?_) (fun z => absurd hk6 z)
    refine j_iload dL_law_1829 rfl ?_
    refine j_if_ne (tgt := 1846) dL_law_1831 (by decide) (by omega) (fun _ => ?_) (fun k0 => ?_)
    · skip
      refine j_goto (tgt := 2150) dL_law_1846 (by decide) ?_
      refine J.keep (L' := [(0, .ref 150), (1, .ref 0), (2, .ref 200), (3, .ref 220), (4, .ref 221), (5, iv i)]) [0, 1, 2, 3, 4, 5] rfl ?_
      exact htail _ _ _ hW (by omega) (by omega)
    · skip
      refine j_aload_n dL_law_1834 rfl rfl ?_
      refine j_iconst dL_law_1835 ?_
      refine j_laload dL_law_1836 h222 ⟨by decide, by decide⟩ (by decide) ?_
      refine j_iload dL_law_1837 rfl ?_
      refine j_i2lz dL_law_1839 ?_
      rw [hval k0]
      refine j_lcmp dL_law_1840 ⟨(nz_r _).1, (nz_r _).2, (nz_r _).1, (nz_r _).2⟩ ?_
      rw [if_neg (Int.lt_irrefl _), if_pos rfl]
      refine j_if_eq (tgt := 1846) dL_law_1841 (by decide) (by decide) (fun _ => ?_) (fun z => absurd rfl z)
      refine j_goto (tgt := 2150) dL_law_1846 (by decide) ?_
      refine J.keep (L' := [(0, .ref 150), (1, .ref 0), (2, .ref 200), (3, .ref 220), (4, .ref 221), (5, iv i)]) [0, 1, 2, 3, 4, 5] rfl ?_
      exact htail _ _ _ hW (by omega) (by omega)
  · skip
    refine j_iconst dL_law_1787 ?_
    refine j_goto (tgt := 1792) dL_law_1788 (by decide) ?_
    refine j_aload_n dL_law_1792 rfl rfl ?_
    refine j_callSW (o_refusal hI hB hb h220 (d := 1) (.inr rfl)) dL_law_1793 jc_L_220 jmS_L_refusal (fun q => by cases q) rfl rfl (by decide) (jfr_of rfl rfl) (Nat.le_of_ble_eq_true rfl) ⟨Nat.le_of_ble_eq_true rfl, Nat.le_of_ble_eq_true rfl⟩ ⟨by show _ ≤ 603072; omega, by show _ ≤ 7211113; omega⟩ (fun r h1 hp9 => ?_)
    obtain ⟨hk1, ⟨k, rfl⟩, hs⟩ := hp9
    have hG := hI.2.1.eq okM fun j j0 j1 => hk1 j (by omega) (by have j1 : j < 200 + 10 := j1; omega)
    have hm : kI B (mK (G 0)) := by rw [← hI.k.1]; exact hI.k.2
    have hp9 := hI.2.2.1.2.2.1.2.1
    have h79 := hI.2.2.1.2.2.2.1.2.2.2.1
    have hT := hI.2.2.1.2.2.2.2.2.2.2.1
    have hOb := hI.2.2.1.2.2.2.2.2.2.2.2
    have h13 := hI.2.2.1.2.2.2.2.1.2.2.2
    have h14 : 0 ≤ G 14 0 ∧ G 14 0 ≤ 40 := by have a := hI.2.2.1.2.2.2.2.1.1; have b := hI.2.2.1.2.2.2.2.1.2.1; omega
    have hs3 : G 3 0 = 0 ∨ G 3 0 = 1 := by rcases hI.2.2.1.2.1.2.1 with q | q <;> omega
    show J (mLaw L xs nm tab) _ _ _ 1796 _ (iv k :: []) _ _ _
    refine j_istore (L' := [(0, _), (1, _), (2, _), (3, _), (4, _), (5, _), (6, _)]) dL_law_1796 (Nat.le_of_ble_eq_true rfl) rfl ?_
    refine j_aload_n dL_law_1798 rfl rfl ?_
    refine j_aload_n dL_law_1799 rfl rfl ?_
    refine j_iload dL_law_1800 rfl ?_
    refine j_iconst dL_law_1802 ?_
    refine j_iadd dL_law_1803 ?_
    refine j_sarr dL_law_1804 ⟨by omega, by omega⟩ hL ?_
    refine j_if_eq (tgt := 1812) dL_law_1805 (by decide) (sc_r _ _) (fun z => absurd z c9) (fun _ => ?_)
    refine j_iconst dL_law_1808 ?_
    refine j_goto (tgt := 1813) dL_law_1809 (by decide) ?_
    refine j_callV (c5_refusal (d := 1) hG (.inr rfl) h79) dL_law_1813 jc_L_223 jmV_X5_refusal rfl rfl hG.1 rfl rfl (by simp) jfr_nil (Nat.le_of_ble_eq_true rfl) ⟨Nat.le_of_ble_eq_true rfl, Nat.le_of_ble_eq_true rfl⟩ ⟨by show _ ≤ 603072; omega, by show _ ≤ 7211113; omega⟩ (fun r h2 hp9 => ?_) (fun E h9 q => q.elim)
    obtain ⟨rfl, hG2, hE2⟩ := hp9
    obtain ⟨k2, f2, hk2, hk3, hk6, h222, hval, hW⟩ := hs h2 hG2 hE2
    have hk5 : iv k = iv k2 := Option.some.inj hk2
    show J (mLaw L xs nm tab) _ _ _ 1816 _ (iv _ :: []) _ _ _
    refine j_istore (L' := [(0, _), (1, _), (2, _), (3, _), (4, _), (5, _), (6, _), (7, _)]) dL_law_1816 (Nat.le_of_ble_eq_true rfl) rfl ?_
    rw [hk5]
    clear hk5
    refine j_aload_n dL_law_1818 rfl rfl ?_
    refine j_callV (c5_thrown hG2) dL_law_1819 jc_L_131 jmV_X5_thrown rfl rfl hG2.1 rfl rfl (by simp) jfr_nil (Nat.le_of_ble_eq_true rfl) ⟨Nat.le_of_ble_eq_true rfl, Nat.le_of_ble_eq_true rfl⟩ ⟨by show _ ≤ 603072; omega, by show _ ≤ 7211113; omega⟩ (fun r h3 hp9 => ?_) (fun E h9 q => q.elim)
    obtain ⟨rfl, rfl⟩ := hp9
    show J (mLaw L xs nm tab) _ _ _ 1822 _ (iv _ :: []) _ _ _
    refine j_iload dL_law_1822 rfl ?_
    refine j_icmp_eq (tgt := 1829) dL_law_1824 (by decide) (by omega) (fun _ => ?_) (fun z => absurd hk6 z)
    refine j_iload dL_law_1829 rfl ?_
    refine j_if_ne (tgt := 1846) dL_law_1831 (by decide) (by omega) (fun _ => ?_) (fun k0 => ?_)
    · skip
      refine j_goto (tgt := 2150) dL_law_1846 (by decide) ?_
      refine J.keep (L' := [(0, .ref 150), (1, .ref 0), (2, .ref 200), (3, .ref 220), (4, .ref 221), (5, iv i)]) [0, 1, 2, 3, 4, 5] rfl ?_
      exact htail _ _ _ hW (by omega) (by omega)
    · skip
      refine j_aload_n dL_law_1834 rfl rfl ?_
      refine j_iconst dL_law_1835 ?_
      refine j_laload dL_law_1836 h222 ⟨by decide, by decide⟩ (by decide) ?_
      refine j_iload dL_law_1837 rfl ?_
      refine j_i2lz dL_law_1839 ?_
      rw [hval k0]
      refine j_lcmp dL_law_1840 ⟨(nz_r _).1, (nz_r _).2, (nz_r _).1, (nz_r _).2⟩ ?_
      rw [if_neg (Int.lt_irrefl _), if_pos rfl]
      refine j_if_eq (tgt := 1846) dL_law_1841 (by decide) (by decide) (fun _ => ?_) (fun z => absurd rfl z)
      refine j_goto (tgt := 2150) dL_law_1846 (by decide) ?_
      refine J.keep (L' := [(0, .ref 150), (1, .ref 0), (2, .ref 200), (3, .ref 220), (4, .ref 221), (5, iv i)]) [0, 1, 2, 3, 4, 5] rfl ?_
      exact htail _ _ _ hW (by omega) (by omega)
set_option maxHeartbeats 4000000 in
theorem lc_account {L : Nat} {xs : Nat → Int32} {nm : String} {tab : List (Nat × Nat × Nat × Nat)} {Z : jFin} {i B : Int} {nc ns : Nat} {K Ks : fS} {P : Int → fS} {X I : fS} {c : Int} {t : Int → Int} {G : fS} {h : jH} {f : Int → Int} (hL : L ≤ 2048) (hi : 0 ≤ i ∧ i + 4 ≤ L) (hI : lI B K Ks P X I c t G h) (h220 : h 220 = some (jA 4 1 f)) (hB : B + 31000 ≤ 20000000) (hb : 0 ≤ B) (hnc : nc + 11 ≤ 603072 ∧ ns + 346 ≤ 7211113) (htail : ∀ (h' : jH) (nc' ns' : Nat), lW (B + 31000) h' → nc' ≤ nc + 11 → ns' ≤ ns + 346 → J (mLaw L xs nm tab) room_1 lnw Z 2150 [(0, .ref 150), (1, .ref 0), (2, .ref 200), (3, .ref 220), (4, .ref 221), (5, iv i)] [] h' nc' ns') : J (mLaw L xs nm tab) room_1 lnw Z 1849 [(0, .ref 150), (1, .ref 0), (2, .ref 200), (3, .ref 220), (4, .ref 221), (5, iv i)] [] h nc ns := by
  refine j_aload_n dL_law_1849 rfl rfl ?_
  refine j_aload_n dL_law_1850 rfl rfl ?_
  refine j_iload dL_law_1851 rfl ?_
  refine j_iconst dL_law_1853 ?_
  refine j_iadd dL_law_1854 ?_
  refine j_sarr dL_law_1855 ⟨by omega, by omega⟩ hL ?_
  refine j_aload_n dL_law_1856 rfl rfl ?_
  refine j_callSW (o_account hI hB hb h220 (w := (sc xs (i + 1))) (sc_r _ _)) dL_law_1857 jc_L_224 jmS_L_account (fun q => by cases q) rfl rfl (by decide) (jfr_of rfl rfl) (Nat.le_of_ble_eq_true rfl) ⟨Nat.le_of_ble_eq_true rfl, Nat.le_of_ble_eq_true rfl⟩ ⟨by show _ ≤ 603072; omega, by show _ ≤ 7211113; omega⟩ (fun r h1 hp9 => ?_)
  obtain ⟨hk1, ⟨k, rfl⟩, hs⟩ := hp9
  have hG := hI.2.1.eq okM fun j j0 j1 => hk1 j (by omega) (by have j1 : j < 200 + 10 := j1; omega)
  have hm : kI B (mK (G 0)) := by rw [← hI.k.1]; exact hI.k.2
  have hp9 := hI.2.2.1.2.2.1.2.1
  have h79 := hI.2.2.1.2.2.2.1.2.2.2.1
  have hT := hI.2.2.1.2.2.2.2.2.2.2.1
  have hOb := hI.2.2.1.2.2.2.2.2.2.2.2
  have h13 := hI.2.2.1.2.2.2.2.1.2.2.2
  have h14 : 0 ≤ G 14 0 ∧ G 14 0 ≤ 40 := by have a := hI.2.2.1.2.2.2.2.1.1; have b := hI.2.2.1.2.2.2.2.1.2.1; omega
  have hs3 : G 3 0 = 0 ∨ G 3 0 = 1 := by rcases hI.2.2.1.2.1.2.1 with q | q <;> omega
  show J (mLaw L xs nm tab) _ _ _ 1860 _ (iv k :: []) _ _ _
  refine j_istore (L' := [(0, _), (1, _), (2, _), (3, _), (4, _), (5, _), (6, _)]) dL_law_1860 (Nat.le_of_ble_eq_true rfl) rfl ?_
  refine j_aload_n dL_law_1862 rfl rfl ?_
  refine j_aload_n dL_law_1863 rfl rfl ?_
  refine j_iload dL_law_1864 rfl ?_
  refine j_iconst dL_law_1866 ?_
  refine j_iadd dL_law_1867 ?_
  refine j_sarr dL_law_1868 ⟨by omega, by omega⟩ hL ?_
  refine j_callV (c5_account (w := (sc xs (i + 1))) hG rfl hm.1 hm.2.1 (sc_r _ _)) dL_law_1869 jc_L_226 jmV_X5_account rfl rfl hG.1 rfl rfl (by simp) jfr_nil (Nat.le_of_ble_eq_true rfl) ⟨Nat.le_of_ble_eq_true rfl, Nat.le_of_ble_eq_true rfl⟩ ⟨by show _ ≤ 603072; omega, by show _ ≤ 7211113; omega⟩ (fun r h2 hp9 => ?_) (fun E h9 q => q.elim)
  obtain ⟨rfl, hG2, hE2⟩ := hp9
  obtain ⟨k2, f2, hk2, hk3, hk6, h222, hval, hW⟩ := hs h2 hG2 hE2
  have hk5 : iv k = iv k2 := Option.some.inj hk2
  show J (mLaw L xs nm tab) _ _ _ 1872 _ (iv _ :: []) _ _ _
  refine j_istore (L' := [(0, _), (1, _), (2, _), (3, _), (4, _), (5, _), (6, _), (7, _)]) dL_law_1872 (Nat.le_of_ble_eq_true rfl) rfl ?_
  rw [hk5]
  clear hk5
  refine j_aload_n dL_law_1874 rfl rfl ?_
  refine j_callV (c5_thrown hG2) dL_law_1875 jc_L_131 jmV_X5_thrown rfl rfl hG2.1 rfl rfl (by simp) jfr_nil (Nat.le_of_ble_eq_true rfl) ⟨Nat.le_of_ble_eq_true rfl, Nat.le_of_ble_eq_true rfl⟩ ⟨by show _ ≤ 603072; omega, by show _ ≤ 7211113; omega⟩ (fun r h3 hp9 => ?_) (fun E h9 q => q.elim)
  obtain ⟨rfl, rfl⟩ := hp9
  show J (mLaw L xs nm tab) _ _ _ 1878 _ (iv _ :: []) _ _ _
  refine j_iload dL_law_1878 rfl ?_
  refine j_icmp_eq (tgt := 1885) dL_law_1880 (by decide) (by omega) (fun _ => ?_) (fun z => absurd hk6 z)
  refine j_iload dL_law_1885 rfl ?_
  refine j_if_ne (tgt := 1902) dL_law_1887 (by decide) (by omega) (fun _ => ?_) (fun k0 => ?_)
  · skip
    refine j_goto (tgt := 2150) dL_law_1902 (by decide) ?_
    refine J.keep (L' := [(0, .ref 150), (1, .ref 0), (2, .ref 200), (3, .ref 220), (4, .ref 221), (5, iv i)]) [0, 1, 2, 3, 4, 5] rfl ?_
    exact htail _ _ _ hW (by omega) (by omega)
  · skip
    refine j_aload_n dL_law_1890 rfl rfl ?_
    refine j_iconst dL_law_1891 ?_
    refine j_laload dL_law_1892 h222 ⟨by decide, by decide⟩ (by decide) ?_
    refine j_iload dL_law_1893 rfl ?_
    refine j_i2lz dL_law_1895 ?_
    rw [hval k0]
    refine j_lcmp dL_law_1896 ⟨(nz_r _).1, (nz_r _).2, (nz_r _).1, (nz_r _).2⟩ ?_
    rw [if_neg (Int.lt_irrefl _), if_pos rfl]
    refine j_if_eq (tgt := 1902) dL_law_1897 (by decide) (by decide) (fun _ => ?_) (fun z => absurd rfl z)
    refine j_goto (tgt := 2150) dL_law_1902 (by decide) ?_
    refine J.keep (L' := [(0, .ref 150), (1, .ref 0), (2, .ref 200), (3, .ref 220), (4, .ref 221), (5, iv i)]) [0, 1, 2, 3, 4, 5] rfl ?_
    exact htail _ _ _ hW (by omega) (by omega)
set_option maxHeartbeats 4000000 in
theorem lc_isWell {L : Nat} {xs : Nat → Int32} {nm : String} {tab : List (Nat × Nat × Nat × Nat)} {Z : jFin} {i B : Int} {nc ns : Nat} {K Ks : fS} {P : Int → fS} {X I : fS} {c : Int} {t : Int → Int} {G : fS} {h : jH} {f : Int → Int} (hL : L ≤ 2048) (hi : 0 ≤ i ∧ i + 4 ≤ L) (hI : lI B K Ks P X I c t G h) (h220 : h 220 = some (jA 4 1 f)) (hB : B + 31000 ≤ 20000000) (hb : 0 ≤ B) (hnc : nc + 11 ≤ 603072 ∧ ns + 346 ≤ 7211113) (htail : ∀ (h' : jH) (nc' ns' : Nat), lW (B + 31000) h' → nc' ≤ nc + 11 → ns' ≤ ns + 346 → J (mLaw L xs nm tab) room_1 lnw Z 2150 [(0, .ref 150), (1, .ref 0), (2, .ref 200), (3, .ref 220), (4, .ref 221), (5, iv i)] [] h' nc' ns') : J (mLaw L xs nm tab) room_1 lnw Z 1905 [(0, .ref 150), (1, .ref 0), (2, .ref 200), (3, .ref 220), (4, .ref 221), (5, iv i)] [] h nc ns := by
  refine j_aload_n dL_law_1905 rfl rfl ?_
  refine j_callV (o_isWell hI hB hb h220) dL_law_1906 jc_L_227 jmV_X4_isWell rfl rfl hI.1.1.x.1 rfl rfl (by decide) (jfr_of rfl rfl) (Nat.le_of_ble_eq_true rfl) ⟨Nat.le_of_ble_eq_true rfl, Nat.le_of_ble_eq_true rfl⟩ ⟨by show _ ≤ 603072; omega, by show _ ≤ 7211113; omega⟩ (fun r h1 hp9 => ?_) (fun E h9 q => q.elim)
  obtain ⟨hk1, v, rfl, hv, hs⟩ := hp9
  have hG := hI.2.1.eq okM fun j j0 j1 => hk1 j (by omega)
  have hm : kI B (mK (G 0)) := by rw [← hI.k.1]; exact hI.k.2
  have hp9 := hI.2.2.1.2.2.1.2.1
  have h79 := hI.2.2.1.2.2.2.1.2.2.2.1
  have hT := hI.2.2.1.2.2.2.2.2.2.2.1
  have hOb := hI.2.2.1.2.2.2.2.2.2.2.2
  have h13 := hI.2.2.1.2.2.2.2.1.2.2.2
  have h14 : 0 ≤ G 14 0 ∧ G 14 0 ≤ 40 := by have a := hI.2.2.1.2.2.2.2.1.1; have b := hI.2.2.1.2.2.2.2.1.2.1; omega
  have hs3 : G 3 0 = 0 ∨ G 3 0 = 1 := by rcases hI.2.2.1.2.1.2.1 with q | q <;> omega
  show J (mLaw L xs nm tab) _ _ _ 1909 _ (iv v :: []) _ _ _
  refine j_aload_n dL_law_1909 rfl rfl ?_
  refine j_callV (c5_isWell hG rfl hm.1) dL_law_1910 jc_L_231 jmV_X5_isWell rfl rfl hG.1 rfl rfl (by decide) (jfr_of rfl rfl) (Nat.le_of_ble_eq_true rfl) ⟨Nat.le_of_ble_eq_true rfl, Nat.le_of_ble_eq_true rfl⟩ ⟨by show _ ≤ 603072; omega, by show _ ≤ 7211113; omega⟩ (fun r h2 hp9 => ?_) (fun E h9 q => q.elim)
  obtain ⟨rfl, hG2, hE2⟩ := hp9
  have hW := hs h2 hG2 hE2
  show J (mLaw L xs nm tab) _ _ _ 1913 _ (iv _ :: iv v :: []) _ _ _
  refine j_icmp_eqz (tgt := 2150) dL_law_1913 (by decide) (fun _ => ?_) (fun z => absurd hv z)
  refine J.keep (L' := [(0, .ref 150), (1, .ref 0), (2, .ref 200), (3, .ref 220), (4, .ref 221), (5, iv i)]) [0, 1, 2, 3, 4, 5] rfl ?_
  exact htail _ _ _ hW (by omega) (by omega)
set_option maxHeartbeats 4000000 in
theorem lc_meanDepth {L : Nat} {xs : Nat → Int32} {nm : String} {tab : List (Nat × Nat × Nat × Nat)} {Z : jFin} {i B : Int} {nc ns : Nat} {K Ks : fS} {P : Int → fS} {X I : fS} {c : Int} {t : Int → Int} {G : fS} {h : jH} {f : Int → Int} (hL : L ≤ 2048) (hi : 0 ≤ i ∧ i + 4 ≤ L) (hI : lI B K Ks P X I c t G h) (h220 : h 220 = some (jA 4 1 f)) (hB : B + 31000 ≤ 20000000) (hb : 0 ≤ B) (hnc : nc + 11 ≤ 603072 ∧ ns + 346 ≤ 7211113) (htail : ∀ (h' : jH) (nc' ns' : Nat), lW (B + 31000) h' → nc' ≤ nc + 11 → ns' ≤ ns + 346 → J (mLaw L xs nm tab) room_1 lnw Z 2150 [(0, .ref 150), (1, .ref 0), (2, .ref 200), (3, .ref 220), (4, .ref 221), (5, iv i)] [] h' nc' ns') : J (mLaw L xs nm tab) room_1 lnw Z 1918 [(0, .ref 150), (1, .ref 0), (2, .ref 200), (3, .ref 220), (4, .ref 221), (5, iv i)] [] h nc ns := by
  refine j_aload_n dL_law_1918 rfl rfl ?_
  refine j_aload dL_law_1919 rfl ?_
  refine j_callSW (o_meanDepth hI hB hb ⟨f, h220⟩  ) dL_law_1921 jc_L_232 jmS_L_meanDepth (fun q => by cases q) rfl rfl (by decide) (jfr_of rfl rfl) (Nat.le_of_ble_eq_true rfl) ⟨Nat.le_of_ble_eq_true rfl, Nat.le_of_ble_eq_true rfl⟩ ⟨by show _ ≤ 603072; omega, by show _ ≤ 7211113; omega⟩ (fun r h1 hp9 => ?_)
  obtain ⟨hk1, ⟨k, rfl⟩, z9, hz9, hs⟩ := hp9
  have hG := hI.2.1.eq okM fun j j0 j1 => hk1 j (by omega) (by have j1 : j < 200 + 10 := j1; omega)
  have hm : kI B (mK (G 0)) := by rw [← hI.k.1]; exact hI.k.2
  have hp9 := hI.2.2.1.2.2.1.2.1
  have h79 := hI.2.2.1.2.2.2.1.2.2.2.1
  have hT := hI.2.2.1.2.2.2.2.2.2.2.1
  have hOb := hI.2.2.1.2.2.2.2.2.2.2.2
  have h13 := hI.2.2.1.2.2.2.2.1.2.2.2
  have h14 : 0 ≤ G 14 0 ∧ G 14 0 ≤ 40 := by have a := hI.2.2.1.2.2.2.2.1.1; have b := hI.2.2.1.2.2.2.2.1.2.1; omega
  have hs3 : G 3 0 = 0 ∨ G 3 0 = 1 := by rcases hI.2.2.1.2.1.2.1 with q | q <;> omega
  show J (mLaw L xs nm tab) _ _ _ 1924 _ (iv k :: []) _ _ _
  refine j_istore (L' := [(0, _), (1, _), (2, _), (3, _), (4, _), (5, _), (6, _)]) dL_law_1924 (Nat.le_of_ble_eq_true rfl) rfl ?_
  refine j_aload_n dL_law_1926 rfl rfl ?_
  refine j_callV (c5_meanDepth  hG rfl hm.1 hm.2.1) dL_law_1927 jc_L_235 jmV_X5_meanDepth rfl rfl hG.1 rfl rfl (by simp) jfr_nil (Nat.le_of_ble_eq_true rfl) ⟨Nat.le_of_ble_eq_true rfl, Nat.le_of_ble_eq_true rfl⟩ ⟨by show _ ≤ 603072; omega, by show _ ≤ 7211113; omega⟩ (fun r h2 hp9 => ?_) (fun E h9 q => q.elim)
  obtain ⟨rfl, hG2, hE2⟩ := hp9
  obtain ⟨k2, f2, hk2, hk3, hk6, h222, hval, hW⟩ := hs h2 hG2 hE2
  have hk5 : iv k = iv k2 := Option.some.inj hk2
  rw [hz9]
  show J (mLaw L xs nm tab) _ _ _ 1930 _ (.double z9 :: []) _ _ _
  refine j_dstore (L' := [(0, _), (1, _), (2, _), (3, _), (4, _), (5, _), (6, _), (7, _)]) dL_law_1930 (Nat.le_of_ble_eq_true rfl) rfl ?_
  rw [hk5]
  clear hk5
  refine j_aload_n dL_law_1932 rfl rfl ?_
  refine j_callV (c5_thrown hG2) dL_law_1933 jc_L_131 jmV_X5_thrown rfl rfl hG2.1 rfl rfl (by simp) jfr_nil (Nat.le_of_ble_eq_true rfl) ⟨Nat.le_of_ble_eq_true rfl, Nat.le_of_ble_eq_true rfl⟩ ⟨by show _ ≤ 603072; omega, by show _ ≤ 7211113; omega⟩ (fun r h3 hp9 => ?_) (fun E h9 q => q.elim)
  obtain ⟨rfl, rfl⟩ := hp9
  show J (mLaw L xs nm tab) _ _ _ 1936 _ (iv _ :: []) _ _ _
  refine j_iload dL_law_1936 rfl ?_
  refine j_icmp_eq (tgt := 1943) dL_law_1938 (by decide) (by omega) (fun _ => ?_) (fun z => absurd hk6 z)
  refine j_iload dL_law_1943 rfl ?_
  refine j_if_ne (tgt := 1980) dL_law_1945 (by decide) (by omega) (fun _ => ?_) (fun k0 => ?_)
  · skip
    refine j_goto (tgt := 2150) dL_law_1980 (by decide) ?_
    refine J.keep (L' := [(0, .ref 150), (1, .ref 0), (2, .ref 200), (3, .ref 220), (4, .ref 221), (5, iv i)]) [0, 1, 2, 3, 4, 5] rfl ?_
    exact htail _ _ _ hW (by omega) (by omega)
  · skip
    refine j_aload dL_law_1948 rfl ?_
    refine j_iconst dL_law_1950 ?_
    refine j_daload dL_law_1951 h222 ⟨by decide, by decide⟩ (by decide) ?_
    obtain ⟨v1, v2⟩ := hval k0
    refine j_dload dL_law_1952 rfl ?_
    refine j_dcmp dL_law_1954 ?_
    rw [v1, v2]
    show J (mLaw L xs nm tab) _ _ _ 1955 _ (iv 0 :: []) _ _ _
    refine j_if_eq (tgt := 1980) dL_law_1955 (by decide) (by decide) (fun _ => ?_) (fun z => absurd rfl z)
    refine j_goto (tgt := 2150) dL_law_1980 (by decide) ?_
    refine J.keep (L' := [(0, .ref 150), (1, .ref 0), (2, .ref 200), (3, .ref 220), (4, .ref 221), (5, iv i)]) [0, 1, 2, 3, 4, 5] rfl ?_
    exact htail _ _ _ hW (by omega) (by omega)
set_option maxHeartbeats 4000000 in
theorem lc_livingShare {L : Nat} {xs : Nat → Int32} {nm : String} {tab : List (Nat × Nat × Nat × Nat)} {Z : jFin} {i B : Int} {nc ns : Nat} {K Ks : fS} {P : Int → fS} {X I : fS} {c : Int} {t : Int → Int} {G : fS} {h : jH} {f : Int → Int} (hL : L ≤ 2048) (hi : 0 ≤ i ∧ i + 4 ≤ L) (hI : lI B K Ks P X I c t G h) (h220 : h 220 = some (jA 4 1 f)) (hB : B + 31000 ≤ 20000000) (hb : 0 ≤ B) (hnc : nc + 11 ≤ 603072 ∧ ns + 346 ≤ 7211113) (htail : ∀ (h' : jH) (nc' ns' : Nat), lW (B + 31000) h' → nc' ≤ nc + 11 → ns' ≤ ns + 346 → J (mLaw L xs nm tab) room_1 lnw Z 2150 [(0, .ref 150), (1, .ref 0), (2, .ref 200), (3, .ref 220), (4, .ref 221), (5, iv i)] [] h' nc' ns') : J (mLaw L xs nm tab) room_1 lnw Z 1983 [(0, .ref 150), (1, .ref 0), (2, .ref 200), (3, .ref 220), (4, .ref 221), (5, iv i)] [] h nc ns := by
  refine j_aload_n dL_law_1983 rfl rfl ?_
  refine j_aload dL_law_1984 rfl ?_
  refine j_callSW (o_livingShare hI hB hb ⟨f, h220⟩  ) dL_law_1986 jc_L_236 jmS_L_livingShare (fun q => by cases q) rfl rfl (by decide) (jfr_of rfl rfl) (Nat.le_of_ble_eq_true rfl) ⟨Nat.le_of_ble_eq_true rfl, Nat.le_of_ble_eq_true rfl⟩ ⟨by show _ ≤ 603072; omega, by show _ ≤ 7211113; omega⟩ (fun r h1 hp9 => ?_)
  obtain ⟨hk1, ⟨k, rfl⟩, z9, hz9, hs⟩ := hp9
  have hG := hI.2.1.eq okM fun j j0 j1 => hk1 j (by omega) (by have j1 : j < 200 + 10 := j1; omega)
  have hm : kI B (mK (G 0)) := by rw [← hI.k.1]; exact hI.k.2
  have hp9 := hI.2.2.1.2.2.1.2.1
  have h79 := hI.2.2.1.2.2.2.1.2.2.2.1
  have hT := hI.2.2.1.2.2.2.2.2.2.2.1
  have hOb := hI.2.2.1.2.2.2.2.2.2.2.2
  have h13 := hI.2.2.1.2.2.2.2.1.2.2.2
  have h14 : 0 ≤ G 14 0 ∧ G 14 0 ≤ 40 := by have a := hI.2.2.1.2.2.2.2.1.1; have b := hI.2.2.1.2.2.2.2.1.2.1; omega
  have hs3 : G 3 0 = 0 ∨ G 3 0 = 1 := by rcases hI.2.2.1.2.1.2.1 with q | q <;> omega
  show J (mLaw L xs nm tab) _ _ _ 1989 _ (iv k :: []) _ _ _
  refine j_istore (L' := [(0, _), (1, _), (2, _), (3, _), (4, _), (5, _), (6, _)]) dL_law_1989 (Nat.le_of_ble_eq_true rfl) rfl ?_
  refine j_aload_n dL_law_1991 rfl rfl ?_
  refine j_callV (c5_livingShare  hG rfl hm.1) dL_law_1992 jc_L_238 jmV_X5_livingShare rfl rfl hG.1 rfl rfl (by simp) jfr_nil (Nat.le_of_ble_eq_true rfl) ⟨Nat.le_of_ble_eq_true rfl, Nat.le_of_ble_eq_true rfl⟩ ⟨by show _ ≤ 603072; omega, by show _ ≤ 7211113; omega⟩ (fun r h2 hp9 => ?_) (fun E h9 q => q.elim)
  obtain ⟨rfl, hG2, hE2⟩ := hp9
  obtain ⟨k2, f2, hk2, hk3, hk6, h222, hval, hW⟩ := hs h2 hG2 hE2
  have hk5 : iv k = iv k2 := Option.some.inj hk2
  rw [hz9]
  show J (mLaw L xs nm tab) _ _ _ 1995 _ (.float z9 :: []) _ _ _
  refine j_fstore (L' := [(0, _), (1, _), (2, _), (3, _), (4, _), (5, _), (6, _), (7, _)]) dL_law_1995 (Nat.le_of_ble_eq_true rfl) rfl ?_
  rw [hk5]
  clear hk5
  refine j_aload_n dL_law_1997 rfl rfl ?_
  refine j_callV (c5_thrown hG2) dL_law_1998 jc_L_131 jmV_X5_thrown rfl rfl hG2.1 rfl rfl (by simp) jfr_nil (Nat.le_of_ble_eq_true rfl) ⟨Nat.le_of_ble_eq_true rfl, Nat.le_of_ble_eq_true rfl⟩ ⟨by show _ ≤ 603072; omega, by show _ ≤ 7211113; omega⟩ (fun r h3 hp9 => ?_) (fun E h9 q => q.elim)
  obtain ⟨rfl, rfl⟩ := hp9
  show J (mLaw L xs nm tab) _ _ _ 2001 _ (iv _ :: []) _ _ _
  refine j_iload dL_law_2001 rfl ?_
  refine j_icmp_eq (tgt := 2008) dL_law_2003 (by decide) (by omega) (fun _ => ?_) (fun z => absurd hk6 z)
  refine j_iload dL_law_2008 rfl ?_
  refine j_if_ne (tgt := 2046) dL_law_2010 (by decide) (by omega) (fun _ => ?_) (fun k0 => ?_)
  · skip
    refine j_goto (tgt := 2150) dL_law_2046 (by decide) ?_
    refine J.keep (L' := [(0, .ref 150), (1, .ref 0), (2, .ref 200), (3, .ref 220), (4, .ref 221), (5, iv i)]) [0, 1, 2, 3, 4, 5] rfl ?_
    exact htail _ _ _ hW (by omega) (by omega)
  · skip
    refine j_aload dL_law_2013 rfl ?_
    refine j_iconst dL_law_2015 ?_
    refine j_daload dL_law_2016 h222 ⟨by decide, by decide⟩ (by decide) ?_
    obtain ⟨v1, v3, v2⟩ := hval k0
    refine j_fload dL_law_2017 rfl ?_
    refine j_f2d dL_law_2019 v3 ?_
    refine j_dcmp dL_law_2020 ?_
    rw [v1, v2]
    show J (mLaw L xs nm tab) _ _ _ 2021 _ (iv 0 :: []) _ _ _
    refine j_if_eq (tgt := 2046) dL_law_2021 (by decide) (by decide) (fun _ => ?_) (fun z => absurd rfl z)
    refine j_goto (tgt := 2150) dL_law_2046 (by decide) ?_
    refine J.keep (L' := [(0, .ref 150), (1, .ref 0), (2, .ref 200), (3, .ref 220), (4, .ref 221), (5, iv i)]) [0, 1, 2, 3, 4, 5] rfl ?_
    exact htail _ _ _ hW (by omega) (by omega)
set_option maxHeartbeats 4000000 in
theorem lc_undo {L : Nat} {xs : Nat → Int32} {nm : String} {tab : List (Nat × Nat × Nat × Nat)} {Z : jFin} {i B : Int} {nc ns : Nat} {K Ks : fS} {P : Int → fS} {X I : fS} {c : Int} {t : Int → Int} {G : fS} {h : jH} {f : Int → Int} (hL : L ≤ 2048) (hi : 0 ≤ i ∧ i + 4 ≤ L) (hI : lI B K Ks P X I c t G h) (h220 : h 220 = some (jA 4 1 f)) (hB : B + 31000 ≤ 20000000) (hb : 0 ≤ B) (hnc : nc + 11 ≤ 603072 ∧ ns + 346 ≤ 7211113) (htail : ∀ (h' : jH) (nc' ns' : Nat), lW (B + 31000) h' → nc' ≤ nc + 11 → ns' ≤ ns + 346 → J (mLaw L xs nm tab) room_1 lnw Z 2150 [(0, .ref 150), (1, .ref 0), (2, .ref 200), (3, .ref 220), (4, .ref 221), (5, iv i)] [] h' nc' ns') : J (mLaw L xs nm tab) room_1 lnw Z 2049 [(0, .ref 150), (1, .ref 0), (2, .ref 200), (3, .ref 220), (4, .ref 221), (5, iv i)] [] h nc ns := by
  refine j_aload_n dL_law_2049 rfl rfl ?_
  refine j_aload_n dL_law_2050 rfl rfl ?_
  refine j_callSW (o_undo hI hB hb h220  ) dL_law_2051 jc_L_239 jmS_L_undo (fun q => by cases q) rfl rfl (by decide) (jfr_of rfl rfl) (Nat.le_of_ble_eq_true rfl) ⟨Nat.le_of_ble_eq_true rfl, Nat.le_of_ble_eq_true rfl⟩ ⟨by show _ ≤ 603072; omega, by show _ ≤ 7211113; omega⟩ (fun r h1 hp9 => ?_)
  obtain ⟨hk1, ⟨k, rfl⟩, hs⟩ := hp9
  have hG := hI.2.1.eq okM fun j j0 j1 => hk1 j (by omega) (by have j1 : j < 200 + 10 := j1; omega)
  have hm : kI B (mK (G 0)) := by rw [← hI.k.1]; exact hI.k.2
  have hp9 := hI.2.2.1.2.2.1.2.1
  have h79 := hI.2.2.1.2.2.2.1.2.2.2.1
  have hT := hI.2.2.1.2.2.2.2.2.2.2.1
  have hOb := hI.2.2.1.2.2.2.2.2.2.2.2
  have h13 := hI.2.2.1.2.2.2.2.1.2.2.2
  have h14 : 0 ≤ G 14 0 ∧ G 14 0 ≤ 40 := by have a := hI.2.2.1.2.2.2.2.1.1; have b := hI.2.2.1.2.2.2.2.1.2.1; omega
  have hs3 : G 3 0 = 0 ∨ G 3 0 = 1 := by rcases hI.2.2.1.2.1.2.1 with q | q <;> omega
  show J (mLaw L xs nm tab) _ _ _ 2054 _ (iv k :: []) _ _ _
  refine j_istore (L' := [(0, _), (1, _), (2, _), (3, _), (4, _), (5, _), (6, _)]) dL_law_2054 (Nat.le_of_ble_eq_true rfl) rfl ?_
  refine j_aload_n dL_law_2056 rfl rfl ?_
  refine j_callV (c5_undo  hG hp9) dL_law_2057 jc_L_241 jmV_X5_undo rfl rfl hG.1 rfl rfl (by simp) jfr_nil (Nat.le_of_ble_eq_true rfl) ⟨Nat.le_of_ble_eq_true rfl, Nat.le_of_ble_eq_true rfl⟩ ⟨by show _ ≤ 603072; omega, by show _ ≤ 7211113; omega⟩ (fun r h2 hp9 => ?_) (fun E h9 q => q.elim)
  obtain ⟨rfl, hG2, hE2⟩ := hp9
  obtain ⟨k2, f2, hk2, hk3, hk6, h222, hval, hW⟩ := hs h2 hG2 hE2
  have hk5 : iv k = iv k2 := Option.some.inj hk2
  show J (mLaw L xs nm tab) _ _ _ 2060 _ (iv _ :: []) _ _ _
  refine j_istore (L' := [(0, _), (1, _), (2, _), (3, _), (4, _), (5, _), (6, _), (7, _)]) dL_law_2060 (Nat.le_of_ble_eq_true rfl) rfl ?_
  rw [hk5]
  clear hk5
  refine j_aload_n dL_law_2062 rfl rfl ?_
  refine j_callV (c5_thrown hG2) dL_law_2063 jc_L_131 jmV_X5_thrown rfl rfl hG2.1 rfl rfl (by simp) jfr_nil (Nat.le_of_ble_eq_true rfl) ⟨Nat.le_of_ble_eq_true rfl, Nat.le_of_ble_eq_true rfl⟩ ⟨by show _ ≤ 603072; omega, by show _ ≤ 7211113; omega⟩ (fun r h3 hp9 => ?_) (fun E h9 q => q.elim)
  obtain ⟨rfl, rfl⟩ := hp9
  show J (mLaw L xs nm tab) _ _ _ 2066 _ (iv _ :: []) _ _ _
  refine j_iload dL_law_2066 rfl ?_
  refine j_icmp_eq (tgt := 2073) dL_law_2068 (by decide) (by omega) (fun _ => ?_) (fun z => absurd hk6 z)
  refine j_iload dL_law_2073 rfl ?_
  refine j_if_ne (tgt := 2090) dL_law_2075 (by decide) (by omega) (fun _ => ?_) (fun k0 => ?_)
  · skip
    refine j_goto (tgt := 2150) dL_law_2090 (by decide) ?_
    refine J.keep (L' := [(0, .ref 150), (1, .ref 0), (2, .ref 200), (3, .ref 220), (4, .ref 221), (5, iv i)]) [0, 1, 2, 3, 4, 5] rfl ?_
    exact htail _ _ _ hW (by omega) (by omega)
  · skip
    refine j_aload_n dL_law_2078 rfl rfl ?_
    refine j_iconst dL_law_2079 ?_
    refine j_laload dL_law_2080 h222 ⟨by decide, by decide⟩ (by decide) ?_
    refine j_iload dL_law_2081 rfl ?_
    refine j_i2lz dL_law_2083 ?_
    rw [hval k0]
    refine j_lcmp dL_law_2084 ⟨(nz_r _).1, (nz_r _).2, (nz_r _).1, (nz_r _).2⟩ ?_
    rw [if_neg (Int.lt_irrefl _), if_pos rfl]
    refine j_if_eq (tgt := 2090) dL_law_2085 (by decide) (by decide) (fun _ => ?_) (fun z => absurd rfl z)
    refine j_goto (tgt := 2150) dL_law_2090 (by decide) ?_
    refine J.keep (L' := [(0, .ref 150), (1, .ref 0), (2, .ref 200), (3, .ref 220), (4, .ref 221), (5, iv i)]) [0, 1, 2, 3, 4, 5] rfl ?_
    exact htail _ _ _ hW (by omega) (by omega)
set_option maxHeartbeats 4000000 in
theorem lc_save {L : Nat} {xs : Nat → Int32} {nm : String} {tab : List (Nat × Nat × Nat × Nat)} {Z : jFin} {i B : Int} {nc ns : Nat} {K Ks : fS} {P : Int → fS} {X I : fS} {c : Int} {t : Int → Int} {G : fS} {h : jH} {f : Int → Int} (hL : L ≤ 2048) (hi : 0 ≤ i ∧ i + 4 ≤ L) (hI : lI B K Ks P X I c t G h) (h220 : h 220 = some (jA 4 1 f)) (hB : B + 31000 ≤ 20000000) (hb : 0 ≤ B) (hnc : nc + 11 ≤ 603072 ∧ ns + 346 ≤ 7211113) (htail : ∀ (h' : jH) (nc' ns' : Nat), lW (B + 31000) h' → nc' ≤ nc + 11 → ns' ≤ ns + 346 → J (mLaw L xs nm tab) room_1 lnw Z 2150 [(0, .ref 150), (1, .ref 0), (2, .ref 200), (3, .ref 220), (4, .ref 221), (5, iv i)] [] h' nc' ns') : J (mLaw L xs nm tab) room_1 lnw Z 2093 [(0, .ref 150), (1, .ref 0), (2, .ref 200), (3, .ref 220), (4, .ref 221), (5, iv i)] [] h nc ns := by
  refine j_aload_n dL_law_2093 rfl rfl ?_
  refine j_callV (o_save hI hB hb h220) dL_law_2094 jc_L_242 jmV_X4_save rfl rfl hI.1.1.x.1 rfl rfl (by decide) (jfr_of rfl rfl) (Nat.le_of_ble_eq_true rfl) ⟨Nat.le_of_ble_eq_true rfl, Nat.le_of_ble_eq_true rfl⟩ ⟨by show _ ≤ 603072; omega, by show _ ≤ 7211113; omega⟩ (fun r h1 hp9 => ?_) (fun E h9 q => q.elim)
  obtain ⟨hk1, v, rfl, hv, hs⟩ := hp9
  have hG := hI.2.1.eq okM fun j j0 j1 => hk1 j (by omega)
  have hm : kI B (mK (G 0)) := by rw [← hI.k.1]; exact hI.k.2
  have hp9 := hI.2.2.1.2.2.1.2.1
  have h79 := hI.2.2.1.2.2.2.1.2.2.2.1
  have hT := hI.2.2.1.2.2.2.2.2.2.2.1
  have hOb := hI.2.2.1.2.2.2.2.2.2.2.2
  have h13 := hI.2.2.1.2.2.2.2.1.2.2.2
  have h14 : 0 ≤ G 14 0 ∧ G 14 0 ≤ 40 := by have a := hI.2.2.1.2.2.2.2.1.1; have b := hI.2.2.1.2.2.2.2.1.2.1; omega
  have hs3 : G 3 0 = 0 ∨ G 3 0 = 1 := by rcases hI.2.2.1.2.1.2.1 with q | q <;> omega
  show J (mLaw L xs nm tab) _ _ _ 2097 _ (iv v :: []) _ _ _
  refine j_aload_n dL_law_2097 rfl rfl ?_
  refine j_callV (c5_save hG) dL_law_2098 jc_L_245 jmV_X5_save rfl rfl hG.1 rfl rfl (by decide) (jfr_of rfl rfl) (Nat.le_of_ble_eq_true rfl) ⟨Nat.le_of_ble_eq_true rfl, Nat.le_of_ble_eq_true rfl⟩ ⟨by show _ ≤ 603072; omega, by show _ ≤ 7211113; omega⟩ (fun r h2 hp9 => ?_) (fun E h9 q => q.elim)
  obtain ⟨rfl, hG2, hE2⟩ := hp9
  have hW := hs h2 hG2 hE2
  show J (mLaw L xs nm tab) _ _ _ 2101 _ (iv _ :: iv v :: []) _ _ _
  refine j_icmp_eqz (tgt := 2150) dL_law_2101 (by decide) (fun _ => ?_) (fun z => absurd hv z)
  refine J.keep (L' := [(0, .ref 150), (1, .ref 0), (2, .ref 200), (3, .ref 220), (4, .ref 221), (5, iv i)]) [0, 1, 2, 3, 4, 5] rfl ?_
  exact htail _ _ _ hW (by omega) (by omega)
set_option maxHeartbeats 4000000 in
theorem lc_restore {L : Nat} {xs : Nat → Int32} {nm : String} {tab : List (Nat × Nat × Nat × Nat)} {Z : jFin} {i B : Int} {nc ns : Nat} {K Ks : fS} {P : Int → fS} {X I : fS} {c : Int} {t : Int → Int} {G : fS} {h : jH} {f : Int → Int} (hL : L ≤ 2048) (hi : 0 ≤ i ∧ i + 4 ≤ L) (hI : lI B K Ks P X I c t G h) (h220 : h 220 = some (jA 4 1 f)) (hB : B + 31000 ≤ 20000000) (hb : 0 ≤ B) (hnc : nc + 11 ≤ 603072 ∧ ns + 346 ≤ 7211113) (htail : ∀ (h' : jH) (nc' ns' : Nat), lW (B + 31000) h' → nc' ≤ nc + 11 → ns' ≤ ns + 346 → J (mLaw L xs nm tab) room_1 lnw Z 2150 [(0, .ref 150), (1, .ref 0), (2, .ref 200), (3, .ref 220), (4, .ref 221), (5, iv i)] [] h' nc' ns') : J (mLaw L xs nm tab) room_1 lnw Z 2106 [(0, .ref 150), (1, .ref 0), (2, .ref 200), (3, .ref 220), (4, .ref 221), (5, iv i)] [] h nc ns := by
  refine j_aload_n dL_law_2106 rfl rfl ?_
  refine j_aload_n dL_law_2107 rfl rfl ?_
  refine j_callSW (o_restore hI hB hb h220  ) dL_law_2108 jc_L_246 jmS_L_restore (fun q => by cases q) rfl rfl (by decide) (jfr_of rfl rfl) (Nat.le_of_ble_eq_true rfl) ⟨Nat.le_of_ble_eq_true rfl, Nat.le_of_ble_eq_true rfl⟩ ⟨by show _ ≤ 603072; omega, by show _ ≤ 7211113; omega⟩ (fun r h1 hp9 => ?_)
  obtain ⟨hk1, ⟨k, rfl⟩, hs⟩ := hp9
  have hG := hI.2.1.eq okM fun j j0 j1 => hk1 j (by omega) (by have j1 : j < 200 + 10 := j1; omega)
  have hm : kI B (mK (G 0)) := by rw [← hI.k.1]; exact hI.k.2
  have hp9 := hI.2.2.1.2.2.1.2.1
  have h79 := hI.2.2.1.2.2.2.1.2.2.2.1
  have hT := hI.2.2.1.2.2.2.2.2.2.2.1
  have hOb := hI.2.2.1.2.2.2.2.2.2.2.2
  have h13 := hI.2.2.1.2.2.2.2.1.2.2.2
  have h14 : 0 ≤ G 14 0 ∧ G 14 0 ≤ 40 := by have a := hI.2.2.1.2.2.2.2.1.1; have b := hI.2.2.1.2.2.2.2.1.2.1; omega
  have hs3 : G 3 0 = 0 ∨ G 3 0 = 1 := by rcases hI.2.2.1.2.1.2.1 with q | q <;> omega
  show J (mLaw L xs nm tab) _ _ _ 2111 _ (iv k :: []) _ _ _
  refine j_istore (L' := [(0, _), (1, _), (2, _), (3, _), (4, _), (5, _), (6, _)]) dL_law_2111 (Nat.le_of_ble_eq_true rfl) rfl ?_
  refine j_aload_n dL_law_2113 rfl rfl ?_
  refine j_callV (c5_restore  hG hs3) dL_law_2114 jc_L_248 jmV_X5_restore rfl rfl hG.1 rfl rfl (by simp) jfr_nil (Nat.le_of_ble_eq_true rfl) ⟨Nat.le_of_ble_eq_true rfl, Nat.le_of_ble_eq_true rfl⟩ ⟨by show _ ≤ 603072; omega, by show _ ≤ 7211113; omega⟩ (fun r h2 hp9 => ?_) (fun E h9 q => q.elim)
  obtain ⟨rfl, hG2, hE2⟩ := hp9
  obtain ⟨k2, f2, hk2, hk3, hk6, h222, hval, hW⟩ := hs h2 hG2 hE2
  have hk5 : iv k = iv k2 := Option.some.inj hk2
  show J (mLaw L xs nm tab) _ _ _ 2117 _ (iv _ :: []) _ _ _
  refine j_istore (L' := [(0, _), (1, _), (2, _), (3, _), (4, _), (5, _), (6, _), (7, _)]) dL_law_2117 (Nat.le_of_ble_eq_true rfl) rfl ?_
  rw [hk5]
  clear hk5
  refine j_aload_n dL_law_2119 rfl rfl ?_
  refine j_callV (c5_thrown hG2) dL_law_2120 jc_L_131 jmV_X5_thrown rfl rfl hG2.1 rfl rfl (by simp) jfr_nil (Nat.le_of_ble_eq_true rfl) ⟨Nat.le_of_ble_eq_true rfl, Nat.le_of_ble_eq_true rfl⟩ ⟨by show _ ≤ 603072; omega, by show _ ≤ 7211113; omega⟩ (fun r h3 hp9 => ?_) (fun E h9 q => q.elim)
  obtain ⟨rfl, rfl⟩ := hp9
  show J (mLaw L xs nm tab) _ _ _ 2123 _ (iv _ :: []) _ _ _
  refine j_iload dL_law_2123 rfl ?_
  refine j_icmp_eq (tgt := 2130) dL_law_2125 (by decide) (by omega) (fun _ => ?_) (fun z => absurd hk6 z)
  refine j_iload dL_law_2130 rfl ?_
  refine j_if_ne (tgt := 2147) dL_law_2132 (by decide) (by omega) (fun _ => ?_) (fun k0 => ?_)
  · skip
    refine j_goto (tgt := 2150) dL_law_2147 (by decide) ?_
    refine J.keep (L' := [(0, .ref 150), (1, .ref 0), (2, .ref 200), (3, .ref 220), (4, .ref 221), (5, iv i)]) [0, 1, 2, 3, 4, 5] rfl ?_
    exact htail _ _ _ hW (by omega) (by omega)
  · skip
    refine j_aload_n dL_law_2135 rfl rfl ?_
    refine j_iconst dL_law_2136 ?_
    refine j_laload dL_law_2137 h222 ⟨by decide, by decide⟩ (by decide) ?_
    refine j_iload dL_law_2138 rfl ?_
    refine j_i2lz dL_law_2140 ?_
    rw [hval k0]
    refine j_lcmp dL_law_2141 ⟨(nz_r _).1, (nz_r _).2, (nz_r _).1, (nz_r _).2⟩ ?_
    rw [if_neg (Int.lt_irrefl _), if_pos rfl]
    refine j_if_eq (tgt := 2147) dL_law_2142 (by decide) (by decide) (fun _ => ?_) (fun z => absurd rfl z)
    refine j_goto (tgt := 2150) dL_law_2147 (by decide) ?_
    refine J.keep (L' := [(0, .ref 150), (1, .ref 0), (2, .ref 200), (3, .ref 220), (4, .ref 221), (5, iv i)]) [0, 1, 2, 3, 4, 5] rfl ?_
    exact htail _ _ _ hW (by omega) (by omega)
