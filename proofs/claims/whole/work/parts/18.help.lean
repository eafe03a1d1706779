/-! ===== helpers of the translated methods (by mk18.py, half by hand) ===== -/
def iI (z : Int) : Int32 := Int32.ofInt z
def lI (z : Int) : Int64 := Int64.ofInt z
def finM (ret : Option FieldType) (r : (Nat ⊕ Option Value) × List Slot × AH) : Option (Option Value × AH) := match r.1 with
  | .inr v => if rtB ret v = true then some (v, r.2.2) else none
  | _ => none
abbrev ckV (c n : Nat) : List Value → AH → Bool := fun vs h => rcB c vs h && decide (vs.length = n + 1)
abbrev ckS (n : Nat) : List Value → AH → Bool := fun vs _ => decide (vs.length = n)
theorem CN {M : MI} {y : MethodName} {cc : ByteArray} {nL : Nat} {ret : Option FieldType} {dep n : Nat} (h : Cond.code y cc nL ret ∈ GW ∧ Cond.initialized y.cls ∈ GW ∧ (y.cls ≠ "java/lang/invoke/MethodHandle" ∧ y.cls ≠ "java/lang/invoke/VarHandle" ∧ (parseMethodDescriptor y.desc).map (fun d => d.parameters.length) = some n)) (h1 : dep + 1 ≤ M.2.2.2.1) (h2 : nL ≤ 81) : CallN M y cc nL ret dep n := ⟨h.1, h.2.1, h.2.2, h1, h2⟩
theorem JX.ldcK {M : MI} {sh pc i : Nat} {nx : List Nat} {u v : Int32} (hv : u = v) (w : Cond.constant M.1 i u ∈ GW) (d : decode M.2.1 pc = .ok (.ldc i, 2)) : JX Value.int M sh pc (pc + 2) nx (ciI v) := hv ▸ JX.ldc w d
theorem JX.ldcw {M : MI} {sh pc i : Nat} {nx : List Nat} {u v : Int32} (hv : u = v) (w : Cond.constant M.1 i u ∈ GW) (d : decode M.2.1 pc = .ok (.ldc_w i, 3)) : JX Value.int M sh pc (pc + 3) nx (ciI v) := by
  subst hv
  exact JX.leaf fun env h x h' e => by
    cases e
    exact ⟨rfl, fun G X C H locs ls ad bk cells slots st κ hW hL hE => ⟨vok_int, fun k => lv_ldcw C.1 C.2.1 C.2.2.2.1 (C.2.2.2.2.1 _ w) d k⟩⟩
theorem JX.ld2K {M : MI} {sh pc i : Nat} {nx : List Nat} {u v : Int64} (hv : u = v) (w : Cond.constantLong M.1 i u ∈ GW) (d : decode M.2.1 pc = .ok (.ldc2_w i, 3)) : JX Value.long M sh pc (pc + 3) nx (clL v) := hv ▸ JX.ld2 w d
theorem JX.leafS {α : Type} {inj : α → Value} {M : MI} {sh pc pc' : Nat} {nx : List Nat} {f : Ex α}
    (hf : ∀ env h x h', f env h = some (x, h') → h' = h ∧ ∀ G X, CCx M G X → ∀ H locs ls ad bk cells slots (st : List Value) κ, Wd G h κ ad bk H → Lcs ls M.2.2.1 env ad → (∀ v, Slot.val v ∈ env → vok (hN h) v) → va_S (aBs G) X.2.1.1.heap H locs → wds st = sh → vok (hN h) (inj x) ∧ (wX X H locs cells slots (F0 X.2.1.2.1 pc' ls (cvv ad (inj x) :: st)) → wX X H locs cells slots (F0 X.2.1.2.1 pc ls st))) : JX inj M sh pc pc' nx f := by
  intro env h x h' e κ hκ
  obtain ⟨rfl, k⟩ := hf env h x h' e
  refine ⟨κ, hκ, kle_rf κ, fun G X C _ st hst A H locs ls ad bk cells slots hW hL hE hV hS hn0 had hc hs => ?_⟩
  obtain ⟨k1, k2⟩ := k G X C H locs ls ad bk cells slots (st.map (cvv ad)) κ.1 hW hL hE hS (by rw [cats_map]; exact hst)
  exact k2 (A pc' (Or.inl rfl) H locs ls ad bk cells slots hW hL hE (fun v hv => (List.mem_cons.mp hv).elim (fun q => q ▸ k1) (hV v)) hS hn0 had hc hs)
/-! static rows -/
def stI (f : List Int32) (g : Ex Int32) : Ex Int32 := fun env h => (g env h).bind fun r => if ¬ r.1 < 0 ∧ r.1.toNatClampNeg < 10 then some (f.getD r.1.toNatClampNeg 0, r.2) else none
theorem JX.stl {n : String} {f : List Int32} (sel : ∀ G U H, SFk G U H → stF G n f U H) {M : MI} {sh pc i : Nat} {nx : List Nat} (w : Cond.fieldLinkNest M.1 i RX11 n "[I" RX11 ∈ NW) (d : decode M.2.1 pc = .ok (.getstatic i, 3)) (d2 : decode M.2.1 (pc + 3) = .ok (.arraylength, 1)) : JX Value.int M sh pc (pc + 4) nx (ciI (iI 10)) :=
  JX.leafS fun env h x h' e => by
    cases e
    refine ⟨rfl, fun G X C H locs ls ad bk cells slots st κ hW hL hE hS _ => ⟨vok_int, fun k => ?_⟩⟩
    obtain ⟨t, h1, h2⟩ := sel _ _ _ C.2.2.2.2.2.1.2.2.2
    exact va_getsN C.1 C.2.1 h1 hS C.2.2.2.1 (va_Nw.use rfl (C.2.2.2.2.2.1.2.1 _ w)) (fun _ z => z) d (va_tlen C.1 C.2.1 h2 hS (v := iI 10) (by decide) d2 k)
theorem JX.sta {n : String} {f : List Int32} (sel : ∀ G U H, SFk G U H → stF G n f U H) {M : MI} {sh pc i j : Nat} {nx : List Nat} {k : Fin 4} (hk : (k : Nat) = j) (w : Cond.fieldLinkNest M.1 i RX11 n "[I" RX11 ∈ NW) (d : decode M.2.1 pc = .ok (.getstatic i, 3)) (d1 : decode M.2.1 (pc + 3) = .ok (.iload_n k, 1)) (d2 : decode M.2.1 (pc + 4) = .ok (.iaload, 1)) : JX Value.int M sh pc (pc + 5) nx (stI f (lvI j)) :=
  JX.leafS fun env h x h' e => by
    obtain ⟨⟨y, h1⟩, e1, e9⟩ := Option.bind_eq_some_iff.mp e
    obtain ⟨rfl, e2⟩ := lvI_some e1
    split at e9
    · rename_i hy
      cases e9
      refine ⟨rfl, fun G X C H locs ls ad bk cells slots st κ hW hL hE hS _ => ⟨vok_int, fun z => ?_⟩⟩
      obtain ⟨t, h1, h2⟩ := sel _ _ _ C.2.2.2.2.2.1.2.2.2
      exact va_getsN C.1 C.2.1 h1 hS C.2.2.2.1 (va_Nw.use rfl (C.2.2.2.2.2.1.2.1 _ w)) (fun _ z => z) d (lv_iload_n C.1 C.2.1 d1 hk (hL.2.2 _ _ e2) (va_ti C.1 C.2.1 h2 hS (fun q => q.elim hy.1 (fun z => Nat.not_le.mpr hy.2 z)) rfl d2 z))
    · cases e9
def st0 (G : GX) (U : State) (H : Heap) (h : SFk G U H) : stF G "NUMBER_LEAST" nLst U H := h.1
def st1' (G : GX) (U : State) (H : Heap) (h : SFk G U H) : stF G "NUMBER_MOST" nMst U H := h.2.1
def st2' (G : GX) (U : State) (H : Heap) (h : SFk G U H) : stF G "NUMBER_WITHOUT" nWto U H := h.2.2.1
/-! switches -/
theorem iI_toInt_self (x : Int32) : iI x.toInt = x := Int32.ofInt_toInt x
theorem TSw.tab_in {cc : ByteArray} {pc : Nat} {x : Int32} {tgt : Nat} {dflt lo hi off : Int} {offs : Array Int} {len : Nat} (d : decode cc pc = .ok (.tableswitch dflt lo hi offs, len)) (h1 : ¬ x.toInt < lo) (h2 : ¬ hi < x.toInt) (h3 : offs[(x.toInt - lo).toNat]? = some off) (h4 : (pc : Int) + off = (tgt : Int)) : TSw cc pc x tgt :=
  Or.inl ⟨dflt, lo, hi, offs, len, d, Or.inr ⟨h1, h2, off, h3, h4⟩⟩
theorem TSw.tab_out {cc : ByteArray} {pc : Nat} {x : Int32} {tgt : Nat} {dflt lo hi : Int} {offs : Array Int} {len : Nat} (L : List Int) (d : decode cc pc = .ok (.tableswitch dflt lo hi offs, len)) (hc : (List.range offs.size).all (fun j => L.contains (lo + (j : Int)) || offs[j]? == some dflt) = true) (hs : (offs.size : Int) = hi - lo + 1) (hx : ∀ v ∈ L, x ≠ iI v) (h4 : (pc : Int) + dflt = (tgt : Int)) : TSw cc pc x tgt := by
  refine Or.inl ⟨dflt, lo, hi, offs, len, d, ?_⟩
  by_cases h1 : x.toInt < lo
  · exact Or.inl ⟨Or.inl h1, h4⟩
  by_cases h2 : hi < x.toInt
  · exact Or.inl ⟨Or.inr h2, h4⟩
  refine Or.inr ⟨h1, h2, dflt, ?_, h4⟩
  have hj : (x.toInt - lo).toNat < offs.size := by omega
  have h3 := List.all_eq_true.mp hc _ (List.mem_range.mpr hj)
  simp only [Bool.or_eq_true, beq_iff_eq] at h3
  rcases h3 with h3 | h3
  · have e : lo + (((x.toInt - lo).toNat : Nat) : Int) = x.toInt := by omega
    rw [e] at h3
    exact absurd (iI_toInt_self x).symm (hx _ (List.contains_iff_mem.mp h3))
  · exact h3
theorem TSw.look_in {cc : ByteArray} {pc : Nat} {x : Int32} {tgt : Nat} {dflt off : Int} {ps : Array (Int × Int)} {len : Nat} (d : decode cc pc = .ok (.lookupswitch dflt ps, len)) (h1 : (ps.toList.zip (ps.toList.drop 1)).all (fun (a, next) => a.1 < next.1) = true) (h2 : Op.lookupswitch.offset ps.toList dflt x.toInt = off) (h4 : (pc : Int) + off = (tgt : Int)) : TSw cc pc x tgt :=
  Or.inr ⟨dflt, ps, len, off, d, h1, h2, h4⟩
theorem look_none : ∀ (l : List (Int × Int)) (dflt k : Int), (∀ a ∈ l, a.1 ≠ k) → Op.lookupswitch.offset l dflt k = dflt
  | [], _, _, _ => rfl
  | (a, o) :: r, dflt, k, h => by
    rw [Op.lookupswitch.offset_cons, if_neg (h (a, o) (List.mem_cons_self)), look_none r dflt k (fun b hb => h b (List.mem_cons_of_mem _ hb))]
theorem TSw.look_out {cc : ByteArray} {pc : Nat} {x : Int32} {tgt : Nat} {dflt : Int} {ps : Array (Int × Int)} {len : Nat} (L : List Int) (d : decode cc pc = .ok (.lookupswitch dflt ps, len)) (h1 : (ps.toList.zip (ps.toList.drop 1)).all (fun (a, next) => a.1 < next.1) = true) (hL : ps.toList.map (fun a => a.1) = L) (hx : ∀ v ∈ L, x ≠ iI v) (h4 : (pc : Int) + dflt = (tgt : Int)) : TSw cc pc x tgt :=
  Or.inr ⟨dflt, ps, len, dflt, d, h1, look_none _ _ _ (fun a ha e => hx a.1 (by rw [← hL]; exact List.mem_map_of_mem ha) (by rw [e]; exact (iI_toInt_self x).symm)), h4⟩
theorem rowO : Cond.methodLink RX5 3 objectInit ∈ GW ∧ Cond.instanceMethod objectInit ∈ GW ∧ Cond.code objectInit ⟨#[0xb1]⟩ 1 none ∈ GW := ⟨gw34, gw27, gw28⟩
theorem fok0 : ∀ k, k < vwN 0 → fokT (vwY 0 k) = true := by decide +kernel
theorem fok1 : ∀ k, k < vwN 1 → fokT (vwY 1 k) = true := by decide +kernel
theorem fok2 : ∀ k, k < vwN 2 → fokT (vwY 2 k) = true := by decide +kernel
theorem fok3 : ∀ k, k < vwN 3 → fokT (vwY 3 k) = true := by decide +kernel
theorem fok4 : ∀ k, k < vwN 4 → fokT (vwY 4 k) = true := by decide +kernel
theorem fok5 : ∀ k, k < vwN 5 → fokT (vwY 5 k) = true := by decide +kernel
theorem fok6 : ∀ k, k < vwN 6 → fokT (vwY 6 k) = true := by decide +kernel
theorem fok7 : ∀ k, k < vwN 7 → fokT (vwY 7 k) = true := by decide +kernel
theorem fok8 : ∀ k, k < vwN 8 → fokT (vwY 8 k) = true := by decide +kernel
theorem fok9 : ∀ k, k < vwN 9 → fokT (vwY 9 k) = true := by decide +kernel
theorem fok10 : ∀ k, k < vwN 10 → fokT (vwY 10 k) = true := by decide +kernel
theorem fok11 : ∀ k, k < vwN 11 → fokT (vwY 11 k) = true := by decide +kernel
theorem fok12 : ∀ k, k < vwN 12 → fokT (vwY 12 k) = true := by decide +kernel
theorem kbm2 : (Int8.ofInt (-2)).toInt32 = iI (-2) := by decide
theorem kb6 : (Int8.ofInt 6).toInt32 = iI 6 := by decide
theorem kb7 : (Int8.ofInt 7).toInt32 = iI 7 := by decide
theorem kb8 : (Int8.ofInt 8).toInt32 = iI 8 := by decide
theorem kb9 : (Int8.ofInt 9).toInt32 = iI 9 := by decide
theorem kb10 : (Int8.ofInt 10).toInt32 = iI 10 := by decide
theorem kb11 : (Int8.ofInt 11).toInt32 = iI 11 := by decide
theorem kb12 : (Int8.ofInt 12).toInt32 = iI 12 := by decide
theorem kb13 : (Int8.ofInt 13).toInt32 = iI 13 := by decide
theorem kb14 : (Int8.ofInt 14).toInt32 = iI 14 := by decide
theorem kb15 : (Int8.ofInt 15).toInt32 = iI 15 := by decide
theorem kb16 : (Int8.ofInt 16).toInt32 = iI 16 := by decide
theorem kb17 : (Int8.ofInt 17).toInt32 = iI 17 := by decide
theorem kb18 : (Int8.ofInt 18).toInt32 = iI 18 := by decide
theorem kb19 : (Int8.ofInt 19).toInt32 = iI 19 := by decide
theorem kb20 : (Int8.ofInt 20).toInt32 = iI 20 := by decide
theorem kb21 : (Int8.ofInt 21).toInt32 = iI 21 := by decide
theorem kb22 : (Int8.ofInt 22).toInt32 = iI 22 := by decide
theorem kb23 : (Int8.ofInt 23).toInt32 = iI 23 := by decide
theorem kb24 : (Int8.ofInt 24).toInt32 = iI 24 := by decide
theorem kb25 : (Int8.ofInt 25).toInt32 = iI 25 := by decide
theorem kb26 : (Int8.ofInt 26).toInt32 = iI 26 := by decide
theorem kb27 : (Int8.ofInt 27).toInt32 = iI 27 := by decide
theorem kb28 : (Int8.ofInt 28).toInt32 = iI 28 := by decide
theorem kb29 : (Int8.ofInt 29).toInt32 = iI 29 := by decide
theorem kb30 : (Int8.ofInt 30).toInt32 = iI 30 := by decide
theorem kb31 : (Int8.ofInt 31).toInt32 = iI 31 := by decide
theorem kb32 : (Int8.ofInt 32).toInt32 = iI 32 := by decide
theorem kb33 : (Int8.ofInt 33).toInt32 = iI 33 := by decide
theorem kb34 : (Int8.ofInt 34).toInt32 = iI 34 := by decide
theorem kb35 : (Int8.ofInt 35).toInt32 = iI 35 := by decide
theorem kb36 : (Int8.ofInt 36).toInt32 = iI 36 := by decide
theorem kb37 : (Int8.ofInt 37).toInt32 = iI 37 := by decide
theorem kb38 : (Int8.ofInt 38).toInt32 = iI 38 := by decide
theorem kb39 : (Int8.ofInt 39).toInt32 = iI 39 := by decide
theorem kb40 : (Int8.ofInt 40).toInt32 = iI 40 := by decide
theorem kb41 : (Int8.ofInt 41).toInt32 = iI 41 := by decide
theorem kb42 : (Int8.ofInt 42).toInt32 = iI 42 := by decide
theorem kb43 : (Int8.ofInt 43).toInt32 = iI 43 := by decide
theorem kb44 : (Int8.ofInt 44).toInt32 = iI 44 := by decide
theorem kb45 : (Int8.ofInt 45).toInt32 = iI 45 := by decide
theorem kb47 : (Int8.ofInt 47).toInt32 = iI 47 := by decide
theorem kb48 : (Int8.ofInt 48).toInt32 = iI 48 := by decide
theorem kb57 : (Int8.ofInt 57).toInt32 = iI 57 := by decide
theorem kb58 : (Int8.ofInt 58).toInt32 = iI 58 := by decide
theorem kb59 : (Int8.ofInt 59).toInt32 = iI 59 := by decide
theorem kb60 : (Int8.ofInt 60).toInt32 = iI 60 := by decide
theorem kb61 : (Int8.ofInt 61).toInt32 = iI 61 := by decide
theorem kb62 : (Int8.ofInt 62).toInt32 = iI 62 := by decide
theorem kb64 : (Int8.ofInt 64).toInt32 = iI 64 := by decide
theorem kb91 : (Int8.ofInt 91).toInt32 = iI 91 := by decide
theorem kb93 : (Int8.ofInt 93).toInt32 = iI 93 := by decide
theorem kb97 : (Int8.ofInt 97).toInt32 = iI 97 := by decide
theorem kb99 : (Int8.ofInt 99).toInt32 = iI 99 := by decide
theorem kb100 : (Int8.ofInt 100).toInt32 = iI 100 := by decide
theorem kb122 : (Int8.ofInt 122).toInt32 = iI 122 := by decide
theorem ks200 : (Int16.ofInt 200).toInt32 = iI 200 := by decide
theorem ks255 : (Int16.ofInt 255).toInt32 = iI 255 := by decide
theorem ks256 : (Int16.ofInt 256).toInt32 = iI 256 := by decide
theorem ks257 : (Int16.ofInt 257).toInt32 = iI 257 := by decide
theorem ks300 : (Int16.ofInt 300).toInt32 = iI 300 := by decide
theorem ks310 : (Int16.ofInt 310).toInt32 = iI 310 := by decide
theorem ks368 : (Int16.ofInt 368).toInt32 = iI 368 := by decide
theorem ks400 : (Int16.ofInt 400).toInt32 = iI 400 := by decide
theorem ks401 : (Int16.ofInt 401).toInt32 = iI 401 := by decide
theorem ks500 : (Int16.ofInt 500).toInt32 = iI 500 := by decide
theorem ks678 : (Int16.ofInt 678).toInt32 = iI 678 := by decide
theorem ks680 : (Int16.ofInt 680).toInt32 = iI 680 := by decide
theorem ks795 : (Int16.ofInt 795).toInt32 = iI 795 := by decide
theorem ks798 : (Int16.ofInt 798).toInt32 = iI 798 := by decide
theorem ks999 : (Int16.ofInt 999).toInt32 = iI 999 := by decide
theorem ks1000 : (Int16.ofInt 1000).toInt32 = iI 1000 := by decide
theorem ks1001 : (Int16.ofInt 1001).toInt32 = iI 1001 := by decide
theorem ks1009 : (Int16.ofInt 1009).toInt32 = iI 1009 := by decide
theorem ks1600 : (Int16.ofInt 1600).toInt32 = iI 1600 := by decide
theorem ks1800 : (Int16.ofInt 1800).toInt32 = iI 1800 := by decide
theorem ks3200 : (Int16.ofInt 3200).toInt32 = iI 3200 := by decide
theorem ks10300 : (Int16.ofInt 10300).toInt32 = iI 10300 := by decide
theorem ks10700 : (Int16.ofInt 10700).toInt32 = iI 10700 := by decide
theorem ks11098 : (Int16.ofInt 11098).toInt32 = iI 11098 := by decide
theorem ks16384 : (Int16.ofInt 16384).toInt32 = iI 16384 := by decide
theorem ks21398 : (Int16.ofInt 21398).toInt32 = iI 21398 := by decide
theorem ks31698 : (Int16.ofInt 31698).toInt32 = iI 31698 := by decide
theorem fk0_12 : FLk RX0 12 0 0 := Or.inl gw59
theorem fk0_18 : FLk RX0 18 0 1 := Or.inl gw62
theorem fk10_102 : FLk RX10 102 7 0 := Or.inr nw303
theorem fk10_111 : FLk RX10 111 9 9 := Or.inr nw361
theorem fk10_118 : FLk RX10 118 9 8 := Or.inr nw358
theorem fk10_12 : FLk RX10 12 10 0 := Or.inl gw432
theorem fk10_121 : FLk RX10 121 9 0 := Or.inr nw333
theorem fk10_124 : FLk RX10 124 3 2 := Or.inr nw267
theorem fk10_130 : FLk RX10 130 3 3 := Or.inr nw270
theorem fk10_140 : FLk RX10 140 1 0 := Or.inr nw247
theorem fk10_150 : FLk RX10 150 9 10 := Or.inr nw367
theorem fk10_165 : FLk RX10 165 3 7 := Or.inr nw276
theorem fk10_184 : FLk RX10 184 9 7 := Or.inr nw356
theorem fk10_204 : FLk RX10 204 9 3 := Or.inr nw344
theorem fk10_21 : FLk RX10 21 10 1 := Or.inl gw436
theorem fk10_210 : FLk RX10 210 9 1 := Or.inr nw337
theorem fk10_213 : FLk RX10 213 9 6 := Or.inr nw353
theorem fk10_216 : FLk RX10 216 9 2 := Or.inr nw341
theorem fk10_219 : FLk RX10 219 9 5 := Or.inr nw350
theorem fk10_231 : FLk RX10 231 9 13 := Or.inr nw375
theorem fk10_241 : FLk RX10 241 9 14 := Or.inr nw377
theorem fk10_253 : FLk RX10 253 3 0 := Or.inr nw264
theorem fk10_266 : FLk RX10 266 9 12 := Or.inr nw373
theorem fk10_28 : FLk RX10 28 10 2 := Or.inl gw440
theorem fk10_291 : FLk RX10 291 9 4 := Or.inr nw347
theorem fk10_35 : FLk RX10 35 10 3 := Or.inl gw442
theorem fk10_42 : FLk RX10 42 10 4 := Or.inl gw443
theorem fk10_46 : FLk RX10 46 10 5 := Or.inl gw445
theorem fk10_49 : FLk RX10 49 10 6 := Or.inl gw447
theorem fk10_52 : FLk RX10 52 10 7 := Or.inl gw449
theorem fk10_55 : FLk RX10 55 10 8 := Or.inl gw451
theorem fk10_58 : FLk RX10 58 10 9 := Or.inl gw452
theorem fk10_64 : FLk RX10 64 10 10 := Or.inl gw453
theorem fk10_68 : FLk RX10 68 10 11 := Or.inl gw458
theorem fk10_71 : FLk RX10 71 10 12 := Or.inl gw460
theorem fk10_75 : FLk RX10 75 10 13 := Or.inl gw461
theorem fk10_79 : FLk RX10 79 10 14 := Or.inl gw462
theorem fk10_82 : FLk RX10 82 10 15 := Or.inl gw464
theorem fk10_85 : FLk RX10 85 10 16 := Or.inl gw466
theorem fk10_88 : FLk RX10 88 10 17 := Or.inl gw468
theorem fk10_91 : FLk RX10 91 10 18 := Or.inl gw470
theorem fk11_10 : FLk RX11 10 11 0 := Or.inl gw551
theorem fk11_100 : FLk RX11 100 8 0 := Or.inr nw538
theorem fk11_103 : FLk RX11 103 6 5 := Or.inr nw223
theorem fk11_112 : FLk RX11 112 10 10 := Or.inr nw457
theorem fk11_116 : FLk RX11 116 9 0 := Or.inr nw334
theorem fk11_124 : FLk RX11 124 9 5 := Or.inr nw349
theorem fk11_127 : FLk RX11 127 9 4 := Or.inr nw346
theorem fk11_133 : FLk RX11 133 9 11 := Or.inr nw369
theorem fk11_136 : FLk RX11 136 9 10 := Or.inr nw366
theorem fk11_139 : FLk RX11 139 9 12 := Or.inr nw372
theorem fk11_148 : FLk RX11 148 10 14 := Or.inr nw463
theorem fk11_151 : FLk RX11 151 10 15 := Or.inr nw465
theorem fk11_158 : FLk RX11 158 9 7 := Or.inr nw355
theorem fk11_16 : FLk RX11 16 11 1 := Or.inl gw552
theorem fk11_167 : FLk RX11 167 9 9 := Or.inr nw362
theorem fk11_179 : FLk RX11 179 9 2 := Or.inr nw340
theorem fk11_182 : FLk RX11 182 9 3 := Or.inr nw343
theorem fk11_185 : FLk RX11 185 9 1 := Or.inr nw336
theorem fk11_194 : FLk RX11 194 9 6 := Or.inr nw352
theorem fk11_203 : FLk RX11 203 10 1 := Or.inr nw439
theorem fk11_207 : FLk RX11 207 1 0 := Or.inr nw248
theorem fk11_22 : FLk RX11 22 11 2 := Or.inl gw553
theorem fk11_253 : FLk RX11 253 10 11 := Or.inr nw459
theorem fk11_29 : FLk RX11 29 11 3 := Or.inl gw554
theorem fk11_305 : FLk RX11 305 10 16 := Or.inr nw467
theorem fk11_308 : FLk RX11 308 10 17 := Or.inr nw469
theorem fk11_311 : FLk RX11 311 10 18 := Or.inr nw471
theorem fk11_36 : FLk RX11 36 11 4 := Or.inl gw555
theorem fk11_43 : FLk RX11 43 11 5 := Or.inl gw556
theorem fk11_50 : FLk RX11 50 11 6 := Or.inl gw557
theorem fk11_54 : FLk RX11 54 11 7 := Or.inl gw558
theorem fk11_58 : FLk RX11 58 11 8 := Or.inl gw559
theorem fk11_62 : FLk RX11 62 11 9 := Or.inl gw560
theorem fk11_91 : FLk RX11 91 4 11 := Or.inr nw152
theorem fk11_92 : FLk RX11 92 4 12 := Or.inr nw154
theorem fk11_93 : FLk RX11 93 10 0 := Or.inr nw435
theorem fk12_100 : FLk RX12 100 12 29 := Or.inl gw1345
theorem fk12_103 : FLk RX12 103 12 30 := Or.inl gw1346
theorem fk12_106 : FLk RX12 106 12 31 := Or.inl gw1347
theorem fk12_110 : FLk RX12 110 12 32 := Or.inl gw1348
theorem fk12_113 : FLk RX12 113 12 33 := Or.inl gw1349
theorem fk12_117 : FLk RX12 117 12 34 := Or.inl gw1350
theorem fk12_121 : FLk RX12 121 12 35 := Or.inl gw1351
theorem fk12_124 : FLk RX12 124 12 36 := Or.inl gw1352
theorem fk12_127 : FLk RX12 127 12 37 := Or.inl gw1353
theorem fk12_13 : FLk RX12 13 12 1 := Or.inl gw1317
theorem fk12_130 : FLk RX12 130 12 38 := Or.inl gw1354
theorem fk12_133 : FLk RX12 133 12 39 := Or.inl gw1355
theorem fk12_136 : FLk RX12 136 12 40 := Or.inl gw1356
theorem fk12_139 : FLk RX12 139 12 41 := Or.inl gw1357
theorem fk12_142 : FLk RX12 142 12 42 := Or.inl gw1358
theorem fk12_145 : FLk RX12 145 12 43 := Or.inl gw1359
theorem fk12_148 : FLk RX12 148 12 44 := Or.inl gw1360
theorem fk12_151 : FLk RX12 151 12 45 := Or.inl gw1361
theorem fk12_154 : FLk RX12 154 12 46 := Or.inl gw1362
theorem fk12_157 : FLk RX12 157 12 47 := Or.inl gw1363
theorem fk12_160 : FLk RX12 160 12 48 := Or.inl gw1364
theorem fk12_164 : FLk RX12 164 12 49 := Or.inl gw1365
theorem fk12_167 : FLk RX12 167 12 50 := Or.inl gw1366
theorem fk12_17 : FLk RX12 17 12 2 := Or.inl gw1318
theorem fk12_170 : FLk RX12 170 12 51 := Or.inl gw1367
theorem fk12_173 : FLk RX12 173 12 52 := Or.inl gw1368
theorem fk12_176 : FLk RX12 176 12 53 := Or.inl gw1369
theorem fk12_179 : FLk RX12 179 12 54 := Or.inl gw1370
theorem fk12_182 : FLk RX12 182 12 55 := Or.inl gw1371
theorem fk12_185 : FLk RX12 185 12 56 := Or.inl gw1372
theorem fk12_188 : FLk RX12 188 12 57 := Or.inl gw1373
theorem fk12_191 : FLk RX12 191 12 58 := Or.inl gw1374
theorem fk12_194 : FLk RX12 194 12 59 := Or.inl gw1375
theorem fk12_197 : FLk RX12 197 12 60 := Or.inl gw1376
theorem fk12_20 : FLk RX12 20 12 3 := Or.inl gw1319
theorem fk12_200 : FLk RX12 200 12 61 := Or.inl gw1377
theorem fk12_203 : FLk RX12 203 12 62 := Or.inl gw1378
theorem fk12_206 : FLk RX12 206 12 63 := Or.inl gw1379
theorem fk12_209 : FLk RX12 209 12 64 := Or.inl gw1380
theorem fk12_212 : FLk RX12 212 12 65 := Or.inl gw1381
theorem fk12_215 : FLk RX12 215 12 66 := Or.inl gw1382
theorem fk12_218 : FLk RX12 218 12 67 := Or.inl gw1383
theorem fk12_221 : FLk RX12 221 12 68 := Or.inl gw1384
theorem fk12_23 : FLk RX12 23 12 4 := Or.inl gw1320
theorem fk12_26 : FLk RX12 26 12 5 := Or.inl gw1321
theorem fk12_29 : FLk RX12 29 12 6 := Or.inl gw1322
theorem fk12_32 : FLk RX12 32 12 7 := Or.inl gw1323
theorem fk12_36 : FLk RX12 36 12 8 := Or.inl gw1324
theorem fk12_39 : FLk RX12 39 12 9 := Or.inl gw1325
theorem fk12_42 : FLk RX12 42 12 10 := Or.inl gw1326
theorem fk12_45 : FLk RX12 45 12 11 := Or.inl gw1327
theorem fk12_48 : FLk RX12 48 12 12 := Or.inl gw1328
theorem fk12_51 : FLk RX12 51 12 13 := Or.inl gw1329
theorem fk12_54 : FLk RX12 54 12 14 := Or.inl gw1330
theorem fk12_57 : FLk RX12 57 12 15 := Or.inl gw1331
theorem fk12_60 : FLk RX12 60 12 16 := Or.inl gw1332
theorem fk12_63 : FLk RX12 63 12 17 := Or.inl gw1333
theorem fk12_66 : FLk RX12 66 12 18 := Or.inl gw1334
theorem fk12_69 : FLk RX12 69 12 19 := Or.inl gw1335
theorem fk12_72 : FLk RX12 72 12 20 := Or.inl gw1336
theorem fk12_75 : FLk RX12 75 12 21 := Or.inl gw1337
theorem fk12_78 : FLk RX12 78 12 22 := Or.inl gw1338
theorem fk12_81 : FLk RX12 81 12 23 := Or.inl gw1339
theorem fk12_84 : FLk RX12 84 12 24 := Or.inl gw1340
theorem fk12_88 : FLk RX12 88 12 25 := Or.inl gw1341
theorem fk12_9 : FLk RX12 9 12 0 := Or.inl gw1316
theorem fk12_91 : FLk RX12 91 12 26 := Or.inl gw1342
theorem fk12_94 : FLk RX12 94 12 27 := Or.inl gw1343
theorem fk12_97 : FLk RX12 97 12 28 := Or.inl gw1344
theorem fk1_12 : FLk RX1 12 1 0 := Or.inl gw245
theorem fk1_18 : FLk RX1 18 1 1 := Or.inl gw249
theorem fk2_12 : FLk RX2 12 2 0 := Or.inl gw519
theorem fk2_18 : FLk RX2 18 2 1 := Or.inl gw520
theorem fk2_21 : FLk RX2 21 2 2 := Or.inl gw521
theorem fk2_27 : FLk RX2 27 10 10 := Or.inr nw454
theorem fk2_33 : FLk RX2 33 9 9 := Or.inr nw360
theorem fk2_42 : FLk RX2 42 9 2 := Or.inr nw339
theorem fk3_12 : FLk RX3 12 3 0 := Or.inl gw263
theorem fk3_18 : FLk RX3 18 3 1 := Or.inl gw265
theorem fk3_21 : FLk RX3 21 3 2 := Or.inl gw266
theorem fk3_24 : FLk RX3 24 3 3 := Or.inl gw268
theorem fk3_27 : FLk RX3 27 3 4 := Or.inl gw271
theorem fk3_30 : FLk RX3 30 3 5 := Or.inl gw272
theorem fk3_33 : FLk RX3 33 3 6 := Or.inl gw273
theorem fk3_36 : FLk RX3 36 3 7 := Or.inl gw275
theorem fk4_12 : FLk RX4 12 4 0 := Or.inl gw140
theorem fk4_160 : FLk RX4 160 6 0 := Or.inr nw216
theorem fk4_171 : FLk RX4 171 0 0 := Or.inr nw61
theorem fk4_18 : FLk RX4 18 4 1 := Or.inl gw141
theorem fk4_21 : FLk RX4 21 4 2 := Or.inl gw142
theorem fk4_24 : FLk RX4 24 4 3 := Or.inl gw143
theorem fk4_27 : FLk RX4 27 4 4 := Or.inl gw144
theorem fk4_31 : FLk RX4 31 4 5 := Or.inl gw145
theorem fk4_34 : FLk RX4 34 4 6 := Or.inl gw146
theorem fk4_37 : FLk RX4 37 4 7 := Or.inl gw147
theorem fk4_40 : FLk RX4 40 4 8 := Or.inl gw148
theorem fk4_43 : FLk RX4 43 4 9 := Or.inl gw149
theorem fk4_49 : FLk RX4 49 4 10 := Or.inl gw150
theorem fk4_53 : FLk RX4 53 4 11 := Or.inl gw151
theorem fk4_56 : FLk RX4 56 4 12 := Or.inl gw153
theorem fk4_95 : FLk RX4 95 6 5 := Or.inr nw222
theorem fk5_15 : FLk RX5 15 5 1 := Or.inl gw36
theorem fk6_12 : FLk RX6 12 6 0 := Or.inl gw215
theorem fk6_21 : FLk RX6 21 6 1 := Or.inl gw217
theorem fk6_25 : FLk RX6 25 6 2 := Or.inl gw218
theorem fk6_28 : FLk RX6 28 6 3 := Or.inl gw219
theorem fk6_31 : FLk RX6 31 6 4 := Or.inl gw220
theorem fk6_34 : FLk RX6 34 6 5 := Or.inl gw221
theorem fk6_56 : FLk RX6 56 0 0 := Or.inr nw60
theorem fk7_111 : FLk RX7 111 3 3 := Or.inr nw269
theorem fk7_114 : FLk RX7 114 10 10 := Or.inr nw456
theorem fk7_118 : FLk RX7 118 9 10 := Or.inr nw365
theorem fk7_12 : FLk RX7 12 7 0 := Or.inl gw302
theorem fk7_130 : FLk RX7 130 3 6 := Or.inr nw274
theorem fk7_143 : FLk RX7 143 10 4 := Or.inr nw444
theorem fk7_146 : FLk RX7 146 10 5 := Or.inr nw446
theorem fk7_149 : FLk RX7 149 9 11 := Or.inr nw370
theorem fk7_18 : FLk RX7 18 7 1 := Or.inl gw304
theorem fk7_21 : FLk RX7 21 7 2 := Or.inl gw305
theorem fk7_24 : FLk RX7 24 7 3 := Or.inl gw306
theorem fk7_27 : FLk RX7 27 7 4 := Or.inl gw307
theorem fk7_30 : FLk RX7 30 7 5 := Or.inl gw308
theorem fk7_33 : FLk RX7 33 10 7 := Or.inr nw450
theorem fk7_42 : FLk RX7 42 10 6 := Or.inr nw448
theorem fk7_49 : FLk RX7 49 10 2 := Or.inr nw441
theorem fk7_57 : FLk RX7 57 10 0 := Or.inr nw433
theorem fk7_90 : FLk RX7 90 10 1 := Or.inr nw437
theorem fk7_94 : FLk RX7 94 1 0 := Or.inr nw246
theorem fk8_12 : FLk RX8 12 8 0 := Or.inl gw537
theorem fk8_18 : FLk RX8 18 8 1 := Or.inl gw539
theorem fk8_21 : FLk RX8 21 8 2 := Or.inl gw540
theorem fk8_45 : FLk RX8 45 10 1 := Or.inr nw438
theorem fk8_49 : FLk RX8 49 10 0 := Or.inr nw434
theorem fk8_53 : FLk RX8 53 10 10 := Or.inr nw455
theorem fk8_57 : FLk RX8 57 9 10 := Or.inr nw364
theorem fk9_12 : FLk RX9 12 9 0 := Or.inl gw332
theorem fk9_18 : FLk RX9 18 9 1 := Or.inl gw335
theorem fk9_21 : FLk RX9 21 9 2 := Or.inl gw338
theorem fk9_24 : FLk RX9 24 9 3 := Or.inl gw342
theorem fk9_27 : FLk RX9 27 9 4 := Or.inl gw345
theorem fk9_30 : FLk RX9 30 9 5 := Or.inl gw348
theorem fk9_33 : FLk RX9 33 9 6 := Or.inl gw351
theorem fk9_36 : FLk RX9 36 9 7 := Or.inl gw354
theorem fk9_39 : FLk RX9 39 9 8 := Or.inl gw357
theorem fk9_42 : FLk RX9 42 9 9 := Or.inl gw359
theorem fk9_45 : FLk RX9 45 9 10 := Or.inl gw363
theorem fk9_49 : FLk RX9 49 9 11 := Or.inl gw368
theorem fk9_52 : FLk RX9 52 9 12 := Or.inl gw371
theorem fk9_55 : FLk RX9 55 9 13 := Or.inl gw374
theorem fk9_58 : FLk RX9 58 9 14 := Or.inl gw376
theorem nX11_init : Cond.code yX11_init cX11_init 1 none ∈ GW ∧ Cond.initialized yX11_init.cls ∈ GW ∧ (yX11_init.cls ≠ "java/lang/invoke/MethodHandle" ∧ yX11_init.cls ≠ "java/lang/invoke/VarHandle" ∧ (parseMethodDescriptor yX11_init.desc).map (fun d => d.parameters.length) = some 0) := ⟨gw25, gw1, by decide, by decide, by decide +kernel⟩
theorem nX11_feed : Cond.code yX11_feed cX11_feed 6 (some (.int)) ∈ GW ∧ Cond.initialized yX11_feed.cls ∈ GW ∧ (yX11_feed.cls ≠ "java/lang/invoke/MethodHandle" ∧ yX11_feed.cls ≠ "java/lang/invoke/VarHandle" ∧ (parseMethodDescriptor yX11_feed.desc).map (fun d => d.parameters.length) = some 5) := ⟨gw585, gw1, by decide, by decide, by decide +kernel⟩
theorem nX11_end : Cond.code yX11_end cX11_end 2 (some (.boolean)) ∈ GW ∧ Cond.initialized yX11_end.cls ∈ GW ∧ (yX11_end.cls ≠ "java/lang/invoke/MethodHandle" ∧ yX11_end.cls ≠ "java/lang/invoke/VarHandle" ∧ (parseMethodDescriptor yX11_end.desc).map (fun d => d.parameters.length) = some 1) := ⟨gw610, gw1, by decide, by decide, by decide +kernel⟩
theorem nX11_store : Cond.code yX11_store cX11_store 3 (some (.int)) ∈ GW ∧ Cond.initialized yX11_store.cls ∈ GW ∧ (yX11_store.cls ≠ "java/lang/invoke/MethodHandle" ∧ yX11_store.cls ≠ "java/lang/invoke/VarHandle" ∧ (parseMethodDescriptor yX11_store.desc).map (fun d => d.parameters.length) = some 0) := ⟨gw618, gw1, by decide, by decide, by decide +kernel⟩
theorem nX11_fault : Cond.code yX11_fault cX11_fault 2 (some (.int)) ∈ GW ∧ Cond.initialized yX11_fault.cls ∈ GW ∧ (yX11_fault.cls ≠ "java/lang/invoke/MethodHandle" ∧ yX11_fault.cls ≠ "java/lang/invoke/VarHandle" ∧ (parseMethodDescriptor yX11_fault.desc).map (fun d => d.parameters.length) = some 1) := ⟨gw756, gw1, by decide, by decide, by decide +kernel⟩
theorem nX11_has : Cond.code yX11_has cX11_has 2 (some (.int)) ∈ GW ∧ Cond.initialized yX11_has.cls ∈ GW ∧ (yX11_has.cls ≠ "java/lang/invoke/MethodHandle" ∧ yX11_has.cls ≠ "java/lang/invoke/VarHandle" ∧ (parseMethodDescriptor yX11_has.desc).map (fun d => d.parameters.length) = some 1) := ⟨gw760, gw1, by decide, by decide, by decide +kernel⟩
theorem nX11_backup : Cond.code yX11_backup cX11_backup 3 (some (.int)) ∈ GW ∧ Cond.initialized yX11_backup.cls ∈ GW ∧ (yX11_backup.cls ≠ "java/lang/invoke/MethodHandle" ∧ yX11_backup.cls ≠ "java/lang/invoke/VarHandle" ∧ (parseMethodDescriptor yX11_backup.desc).map (fun d => d.parameters.length) = some 2) := ⟨gw807, gw1, by decide, by decide, by decide +kernel⟩
theorem nX11_piece : Cond.code yX11_piece cX11_piece 5 (some (.int)) ∈ GW ∧ Cond.initialized yX11_piece.cls ∈ GW ∧ (yX11_piece.cls ≠ "java/lang/invoke/MethodHandle" ∧ yX11_piece.cls ≠ "java/lang/invoke/VarHandle" ∧ (parseMethodDescriptor yX11_piece.desc).map (fun d => d.parameters.length) = some 3) := ⟨gw824, gw1, by decide, by decide, by decide +kernel⟩
theorem nX11_box : Cond.code yX11_box cX11_box 3 (some (.int)) ∈ GW ∧ Cond.initialized yX11_box.cls ∈ GW ∧ (yX11_box.cls ≠ "java/lang/invoke/MethodHandle" ∧ yX11_box.cls ≠ "java/lang/invoke/VarHandle" ∧ (parseMethodDescriptor yX11_box.desc).map (fun d => d.parameters.length) = some 2) := ⟨gw834, gw1, by decide, by decide, by decide +kernel⟩
theorem nX11_octet : Cond.code yX11_octet cX11_octet 3 (some (.int)) ∈ GW ∧ Cond.initialized yX11_octet.cls ∈ GW ∧ (yX11_octet.cls ≠ "java/lang/invoke/MethodHandle" ∧ yX11_octet.cls ≠ "java/lang/invoke/VarHandle" ∧ (parseMethodDescriptor yX11_octet.desc).map (fun d => d.parameters.length) = some 2) := ⟨gw896, gw1, by decide, by decide, by decide +kernel⟩
theorem nX11_cuts : Cond.code yX11_cuts cX11_cuts 3 (some (.int)) ∈ GW ∧ Cond.initialized yX11_cuts.cls ∈ GW ∧ (yX11_cuts.cls ≠ "java/lang/invoke/MethodHandle" ∧ yX11_cuts.cls ≠ "java/lang/invoke/VarHandle" ∧ (parseMethodDescriptor yX11_cuts.desc).map (fun d => d.parameters.length) = some 1) := ⟨gw910, gw1, by decide, by decide, by decide +kernel⟩
theorem nX11_shared : Cond.code yX11_shared cX11_shared 3 (some (.int)) ∈ GW ∧ Cond.initialized yX11_shared.cls ∈ GW ∧ (yX11_shared.cls ≠ "java/lang/invoke/MethodHandle" ∧ yX11_shared.cls ≠ "java/lang/invoke/VarHandle" ∧ (parseMethodDescriptor yX11_shared.desc).map (fun d => d.parameters.length) = some 2) := ⟨gw955, gw1, by decide, by decide, by decide +kernel⟩
theorem nX11_edit : Cond.code yX11_edit cX11_edit 4 (some (.int)) ∈ GW ∧ Cond.initialized yX11_edit.cls ∈ GW ∧ (yX11_edit.cls ≠ "java/lang/invoke/MethodHandle" ∧ yX11_edit.cls ≠ "java/lang/invoke/VarHandle" ∧ (parseMethodDescriptor yX11_edit.desc).map (fun d => d.parameters.length) = some 3) := ⟨gw963, gw1, by decide, by decide, by decide +kernel⟩
theorem nX11_why : Cond.code yX11_why cX11_why 6 (some (.int)) ∈ GW ∧ Cond.initialized yX11_why.cls ∈ GW ∧ (yX11_why.cls ≠ "java/lang/invoke/MethodHandle" ∧ yX11_why.cls ≠ "java/lang/invoke/VarHandle" ∧ (parseMethodDescriptor yX11_why.desc).map (fun d => d.parameters.length) = some 2) := ⟨gw986, gw1, by decide, by decide, by decide +kernel⟩
theorem nX11_fetches : Cond.code yX11_fetches cX11_fetches 3 (some (.int)) ∈ GW ∧ Cond.initialized yX11_fetches.cls ∈ GW ∧ (yX11_fetches.cls ≠ "java/lang/invoke/MethodHandle" ∧ yX11_fetches.cls ≠ "java/lang/invoke/VarHandle" ∧ (parseMethodDescriptor yX11_fetches.desc).map (fun d => d.parameters.length) = some 2) := ⟨gw994, gw1, by decide, by decide, by decide +kernel⟩
theorem nX11_later : Cond.code yX11_later cX11_later 3 (some (.int)) ∈ GW ∧ Cond.initialized yX11_later.cls ∈ GW ∧ (yX11_later.cls ≠ "java/lang/invoke/MethodHandle" ∧ yX11_later.cls ≠ "java/lang/invoke/VarHandle" ∧ (parseMethodDescriptor yX11_later.desc).map (fun d => d.parameters.length) = some 2) := ⟨gw1029, gw1, by decide, by decide, by decide +kernel⟩
theorem nX11_expires : Cond.code yX11_expires cX11_expires 3 (some (.int)) ∈ GW ∧ Cond.initialized yX11_expires.cls ∈ GW ∧ (yX11_expires.cls ≠ "java/lang/invoke/MethodHandle" ∧ yX11_expires.cls ≠ "java/lang/invoke/VarHandle" ∧ (parseMethodDescriptor yX11_expires.desc).map (fun d => d.parameters.length) = some 1) := ⟨gw1041, gw1, by decide, by decide, by decide +kernel⟩
theorem nX11_gain : Cond.code yX11_gain cX11_gain 2 (some (.int)) ∈ GW ∧ Cond.initialized yX11_gain.cls ∈ GW ∧ (yX11_gain.cls ≠ "java/lang/invoke/MethodHandle" ∧ yX11_gain.cls ≠ "java/lang/invoke/VarHandle" ∧ (parseMethodDescriptor yX11_gain.desc).map (fun d => d.parameters.length) = some 1) := ⟨gw1046, gw1, by decide, by decide, by decide +kernel⟩
theorem nX11_odds : Cond.code yX11_odds cX11_odds 3 (some (.int)) ∈ GW ∧ Cond.initialized yX11_odds.cls ∈ GW ∧ (yX11_odds.cls ≠ "java/lang/invoke/MethodHandle" ∧ yX11_odds.cls ≠ "java/lang/invoke/VarHandle" ∧ (parseMethodDescriptor yX11_odds.desc).map (fun d => d.parameters.length) = some 1) := ⟨gw1088, gw1, by decide, by decide, by decide +kernel⟩
theorem nX11_meet : Cond.code yX11_meet cX11_meet 2 (some (.int)) ∈ GW ∧ Cond.initialized yX11_meet.cls ∈ GW ∧ (yX11_meet.cls ≠ "java/lang/invoke/MethodHandle" ∧ yX11_meet.cls ≠ "java/lang/invoke/VarHandle" ∧ (parseMethodDescriptor yX11_meet.desc).map (fun d => d.parameters.length) = some 0) := ⟨gw1096, gw1, by decide, by decide, by decide +kernel⟩
theorem nX11_windows : Cond.code yX11_windows cX11_windows 2 (some (.int)) ∈ GW ∧ Cond.initialized yX11_windows.cls ∈ GW ∧ (yX11_windows.cls ≠ "java/lang/invoke/MethodHandle" ∧ yX11_windows.cls ≠ "java/lang/invoke/VarHandle" ∧ (parseMethodDescriptor yX11_windows.desc).map (fun d => d.parameters.length) = some 1) := ⟨gw1107, gw1, by decide, by decide, by decide +kernel⟩
theorem nX11_tells : Cond.code yX11_tells cX11_tells 5 (some (.int)) ∈ GW ∧ Cond.initialized yX11_tells.cls ∈ GW ∧ (yX11_tells.cls ≠ "java/lang/invoke/MethodHandle" ∧ yX11_tells.cls ≠ "java/lang/invoke/VarHandle" ∧ (parseMethodDescriptor yX11_tells.desc).map (fun d => d.parameters.length) = some 2) := ⟨gw1128, gw1, by decide, by decide, by decide +kernel⟩
theorem nX11_save : Cond.code yX11_save cX11_save 2 (some (.int)) ∈ GW ∧ Cond.initialized yX11_save.cls ∈ GW ∧ (yX11_save.cls ≠ "java/lang/invoke/MethodHandle" ∧ yX11_save.cls ≠ "java/lang/invoke/VarHandle" ∧ (parseMethodDescriptor yX11_save.desc).map (fun d => d.parameters.length) = some 0) := ⟨gw1144, gw1, by decide, by decide, by decide +kernel⟩
theorem nX11_forget : Cond.code yX11_forget cX11_forget 2 (some (.boolean)) ∈ GW ∧ Cond.initialized yX11_forget.cls ∈ GW ∧ (yX11_forget.cls ≠ "java/lang/invoke/MethodHandle" ∧ yX11_forget.cls ≠ "java/lang/invoke/VarHandle" ∧ (parseMethodDescriptor yX11_forget.desc).map (fun d => d.parameters.length) = some 1) := ⟨gw1231, gw1, by decide, by decide, by decide +kernel⟩
theorem nX11_days : Cond.code yX11_days cX11_days 2 (some (.int)) ∈ GW ∧ Cond.initialized yX11_days.cls ∈ GW ∧ (yX11_days.cls ≠ "java/lang/invoke/MethodHandle" ∧ yX11_days.cls ≠ "java/lang/invoke/VarHandle" ∧ (parseMethodDescriptor yX11_days.desc).map (fun d => d.parameters.length) = some 1) := ⟨gw1240, gw1, by decide, by decide, by decide +kernel⟩
theorem nX11_chance : Cond.code yX11_chance cX11_chance 4 (some (.int)) ∈ GW ∧ Cond.initialized yX11_chance.cls ∈ GW ∧ (yX11_chance.cls ≠ "java/lang/invoke/MethodHandle" ∧ yX11_chance.cls ≠ "java/lang/invoke/VarHandle" ∧ (parseMethodDescriptor yX11_chance.desc).map (fun d => d.parameters.length) = some 1) := ⟨gw1249, gw1, by decide, by decide, by decide +kernel⟩
theorem nX11_clean : Cond.code yX11_clean cX11_clean 2 (some (.int)) ∈ GW ∧ Cond.initialized yX11_clean.cls ∈ GW ∧ (yX11_clean.cls ≠ "java/lang/invoke/MethodHandle" ∧ yX11_clean.cls ≠ "java/lang/invoke/VarHandle" ∧ (parseMethodDescriptor yX11_clean.desc).map (fun d => d.parameters.length) = some 0) := ⟨gw1264, gw1, by decide, by decide, by decide +kernel⟩
theorem nX11_spoil : Cond.code yX11_spoil cX11_spoil 4 (some (.boolean)) ∈ GW ∧ Cond.initialized yX11_spoil.cls ∈ GW ∧ (yX11_spoil.cls ≠ "java/lang/invoke/MethodHandle" ∧ yX11_spoil.cls ≠ "java/lang/invoke/VarHandle" ∧ (parseMethodDescriptor yX11_spoil.desc).map (fun d => d.parameters.length) = some 2) := ⟨gw1272, gw1, by decide, by decide, by decide +kernel⟩
theorem nX11_smash : Cond.code yX11_smash cX11_smash 2 (some (.boolean)) ∈ GW ∧ Cond.initialized yX11_smash.cls ∈ GW ∧ (yX11_smash.cls ≠ "java/lang/invoke/MethodHandle" ∧ yX11_smash.cls ≠ "java/lang/invoke/VarHandle" ∧ (parseMethodDescriptor yX11_smash.desc).map (fun d => d.parameters.length) = some 1) := ⟨gw1276, gw1, by decide, by decide, by decide +kernel⟩
theorem nX11_undo : Cond.code yX11_undo cX11_undo 1 (some (.boolean)) ∈ GW ∧ Cond.initialized yX11_undo.cls ∈ GW ∧ (yX11_undo.cls ≠ "java/lang/invoke/MethodHandle" ∧ yX11_undo.cls ≠ "java/lang/invoke/VarHandle" ∧ (parseMethodDescriptor yX11_undo.desc).map (fun d => d.parameters.length) = some 0) := ⟨gw1280, gw1, by decide, by decide, by decide +kernel⟩
theorem nX11_seed : Cond.code yX11_seed cX11_seed 2 (some (.boolean)) ∈ GW ∧ Cond.initialized yX11_seed.cls ∈ GW ∧ (yX11_seed.cls ≠ "java/lang/invoke/MethodHandle" ∧ yX11_seed.cls ≠ "java/lang/invoke/VarHandle" ∧ (parseMethodDescriptor yX11_seed.desc).map (fun d => d.parameters.length) = some 1) := ⟨gw1295, gw1, by decide, by decide, by decide +kernel⟩
theorem nX11_kept : Cond.code yX11_kept cX11_kept 5 (some (.int)) ∈ GW ∧ Cond.initialized yX11_kept.cls ∈ GW ∧ (yX11_kept.cls ≠ "java/lang/invoke/MethodHandle" ∧ yX11_kept.cls ≠ "java/lang/invoke/VarHandle" ∧ (parseMethodDescriptor yX11_kept.desc).map (fun d => d.parameters.length) = some 2) := ⟨gw1299, gw1, by decide, by decide, by decide +kernel⟩
theorem nX11_status : Cond.code yX11_status cX11_status 2 (some (.int)) ∈ GW ∧ Cond.initialized yX11_status.cls ∈ GW ∧ (yX11_status.cls ≠ "java/lang/invoke/MethodHandle" ∧ yX11_status.cls ≠ "java/lang/invoke/VarHandle" ∧ (parseMethodDescriptor yX11_status.desc).map (fun d => d.parameters.length) = some 1) := ⟨gw1303, gw1, by decide, by decide, by decide +kernel⟩
theorem nX11_refuse : Cond.code yX11_refuse cX11_refuse 2 (some (.int)) ∈ GW ∧ Cond.initialized yX11_refuse.cls ∈ GW ∧ (yX11_refuse.cls ≠ "java/lang/invoke/MethodHandle" ∧ yX11_refuse.cls ≠ "java/lang/invoke/VarHandle" ∧ (parseMethodDescriptor yX11_refuse.desc).map (fun d => d.parameters.length) = some 1) := ⟨gw593, gw1, by decide, by decide, by decide +kernel⟩
theorem nX11_feedNumber : Cond.code yX11_feedNumber cX11_feedNumber 3 none ∈ GW ∧ Cond.initialized yX11_feedNumber.cls ∈ GW ∧ (yX11_feedNumber.cls ≠ "java/lang/invoke/MethodHandle" ∧ yX11_feedNumber.cls ≠ "java/lang/invoke/VarHandle" ∧ (parseMethodDescriptor yX11_feedNumber.desc).map (fun d => d.parameters.length) = some 1) := ⟨gw605, gw1, by decide, by decide, by decide +kernel⟩
theorem nX11_takeFile : Cond.code yX11_takeFile cX11_takeFile 2 (some (.boolean)) ∈ GW ∧ Cond.initialized yX11_takeFile.cls ∈ GW ∧ (yX11_takeFile.cls ≠ "java/lang/invoke/MethodHandle" ∧ yX11_takeFile.cls ≠ "java/lang/invoke/VarHandle" ∧ (parseMethodDescriptor yX11_takeFile.desc).map (fun d => d.parameters.length) = some 0) := ⟨gw914, gw1, by decide, by decide, by decide +kernel⟩
theorem nX11_canPass : Cond.code yX11_canPass cX11_canPass 2 (some (.boolean)) ∈ GW ∧ Cond.initialized yX11_canPass.cls ∈ GW ∧ (yX11_canPass.cls ≠ "java/lang/invoke/MethodHandle" ∧ yX11_canPass.cls ≠ "java/lang/invoke/VarHandle" ∧ (parseMethodDescriptor yX11_canPass.desc).map (fun d => d.parameters.length) = some 1) := ⟨gw1033, gw1, by decide, by decide, by decide +kernel⟩
theorem nX5_init : Cond.code yX5_init cX5_init 1 none ∈ GW ∧ Cond.initialized yX5_init.cls ∈ GW ∧ (yX5_init.cls ≠ "java/lang/invoke/MethodHandle" ∧ yX5_init.cls ≠ "java/lang/invoke/VarHandle" ∧ (parseMethodDescriptor yX5_init.desc).map (fun d => d.parameters.length) = some 0) := ⟨gw33, gw2, by decide, by decide, by decide +kernel⟩
theorem nX5_size : Cond.code yX5_size cX5_size 1 (some (.int)) ∈ GW ∧ Cond.initialized yX5_size.cls ∈ GW ∧ (yX5_size.cls ≠ "java/lang/invoke/MethodHandle" ∧ yX5_size.cls ≠ "java/lang/invoke/VarHandle" ∧ (parseMethodDescriptor yX5_size.desc).map (fun d => d.parameters.length) = some 0) := ⟨gw589, gw2, by decide, by decide, by decide +kernel⟩
theorem nX5_at : Cond.code yX5_at cX5_at 2 (some (.int)) ∈ GW ∧ Cond.initialized yX5_at.cls ∈ GW ∧ (yX5_at.cls ≠ "java/lang/invoke/MethodHandle" ∧ yX5_at.cls ≠ "java/lang/invoke/VarHandle" ∧ (parseMethodDescriptor yX5_at.desc).map (fun d => d.parameters.length) = some 1) := ⟨gw597, gw2, by decide, by decide, by decide +kernel⟩
theorem nX5_put : Cond.code yX5_put cX5_put 3 none ∈ GW ∧ Cond.initialized yX5_put.cls ∈ GW ∧ (yX5_put.cls ≠ "java/lang/invoke/MethodHandle" ∧ yX5_put.cls ≠ "java/lang/invoke/VarHandle" ∧ (parseMethodDescriptor yX5_put.desc).map (fun d => d.parameters.length) = some 2) := ⟨gw601, gw2, by decide, by decide, by decide +kernel⟩
theorem nX5_add : Cond.code yX5_add cX5_add 2 none ∈ GW ∧ Cond.initialized yX5_add.cls ∈ GW ∧ (yX5_add.cls ≠ "java/lang/invoke/MethodHandle" ∧ yX5_add.cls ≠ "java/lang/invoke/VarHandle" ∧ (parseMethodDescriptor yX5_add.desc).map (fun d => d.parameters.length) = some 1) := ⟨gw123, gw2, by decide, by decide, by decide +kernel⟩
theorem nX5_pop : Cond.code yX5_pop cX5_pop 2 (some (.int)) ∈ GW ∧ Cond.initialized yX5_pop.cls ∈ GW ∧ (yX5_pop.cls ≠ "java/lang/invoke/MethodHandle" ∧ yX5_pop.cls ≠ "java/lang/invoke/VarHandle" ∧ (parseMethodDescriptor yX5_pop.desc).map (fun d => d.parameters.length) = some 0) := ⟨gw875, gw2, by decide, by decide, by decide +kernel⟩
theorem nX5_clear : Cond.code yX5_clear cX5_clear 1 none ∈ GW ∧ Cond.initialized yX5_clear.cls ∈ GW ∧ (yX5_clear.cls ≠ "java/lang/invoke/MethodHandle" ∧ yX5_clear.cls ≠ "java/lang/invoke/VarHandle" ∧ (parseMethodDescriptor yX5_clear.desc).map (fun d => d.parameters.length) = some 0) := ⟨gw211, gw2, by decide, by decide, by decide +kernel⟩
theorem nX5_cutTo : Cond.code yX5_cutTo cX5_cutTo 2 none ∈ GW ∧ Cond.initialized yX5_cutTo.cls ∈ GW ∧ (yX5_cutTo.cls ≠ "java/lang/invoke/MethodHandle" ∧ yX5_cutTo.cls ≠ "java/lang/invoke/VarHandle" ∧ (parseMethodDescriptor yX5_cutTo.desc).map (fun d => d.parameters.length) = some 1) := ⟨gw614, gw2, by decide, by decide, by decide +kernel⟩
theorem nX5_fill : Cond.code yX5_fill cX5_fill 4 none ∈ GW ∧ Cond.initialized yX5_fill.cls ∈ GW ∧ (yX5_fill.cls ≠ "java/lang/invoke/MethodHandle" ∧ yX5_fill.cls ≠ "java/lang/invoke/VarHandle" ∧ (parseMethodDescriptor yX5_fill.desc).map (fun d => d.parameters.length) = some 2) := ⟨gw202, gw2, by decide, by decide, by decide +kernel⟩
theorem nX5_copyFrom : Cond.code yX5_copyFrom cX5_copyFrom 2 none ∈ GW ∧ Cond.initialized yX5_copyFrom.cls ∈ GW ∧ (yX5_copyFrom.cls ≠ "java/lang/invoke/MethodHandle" ∧ yX5_copyFrom.cls ≠ "java/lang/invoke/VarHandle" ∧ (parseMethodDescriptor yX5_copyFrom.desc).map (fun d => d.parameters.length) = some 1) := ⟨gw918, gw2, by decide, by decide, by decide +kernel⟩
theorem nX5_total : Cond.code yX5_total cX5_total 3 (some (.int)) ∈ GW ∧ Cond.initialized yX5_total.cls ∈ GW ∧ (yX5_total.cls ≠ "java/lang/invoke/MethodHandle" ∧ yX5_total.cls ≠ "java/lang/invoke/VarHandle" ∧ (parseMethodDescriptor yX5_total.desc).map (fun d => d.parameters.length) = some 0) := ⟨gw801, gw2, by decide, by decide, by decide +kernel⟩
theorem nX5_indexOf : Cond.code yX5_indexOf cX5_indexOf 3 (some (.int)) ∈ GW ∧ Cond.initialized yX5_indexOf.cls ∈ GW ∧ (yX5_indexOf.cls ≠ "java/lang/invoke/MethodHandle" ∧ yX5_indexOf.cls ≠ "java/lang/invoke/VarHandle" ∧ (parseMethodDescriptor yX5_indexOf.desc).map (fun d => d.parameters.length) = some 1) := ⟨gw651, gw2, by decide, by decide, by decide +kernel⟩
theorem nX0_init : Cond.code yX0_init cX0_init 1 none ∈ GW ∧ Cond.initialized yX0_init.cls ∈ GW ∧ (yX0_init.cls ≠ "java/lang/invoke/MethodHandle" ∧ yX0_init.cls ≠ "java/lang/invoke/VarHandle" ∧ (parseMethodDescriptor yX0_init.desc).map (fun d => d.parameters.length) = some 0) := ⟨gw55, gw4, by decide, by decide, by decide +kernel⟩
theorem nX0_holds : Cond.code yX0_holds cX0_holds 7 (some (.boolean)) ∈ GW ∧ Cond.initialized yX0_holds.cls ∈ GW ∧ (yX0_holds.cls ≠ "java/lang/invoke/MethodHandle" ∧ yX0_holds.cls ≠ "java/lang/invoke/VarHandle" ∧ (parseMethodDescriptor yX0_holds.desc).map (fun d => d.parameters.length) = some 1) := ⟨gw867, gw4, by decide, by decide, by decide +kernel⟩
theorem nX0_result : Cond.code yX0_result cX0_result 3 (some (.int)) ∈ GW ∧ Cond.initialized yX0_result.cls ∈ GW ∧ (yX0_result.cls ≠ "java/lang/invoke/MethodHandle" ∧ yX0_result.cls ≠ "java/lang/invoke/VarHandle" ∧ (parseMethodDescriptor yX0_result.desc).map (fun d => d.parameters.length) = some 3) := ⟨gw879, gw4, by decide, by decide, by decide +kernel⟩
theorem nX0_bounded : Cond.code yX0_bounded cX0_bounded 2 (some (.int)) ∈ GW ∧ Cond.initialized yX0_bounded.cls ∈ GW ∧ (yX0_bounded.cls ≠ "java/lang/invoke/MethodHandle" ∧ yX0_bounded.cls ≠ "java/lang/invoke/VarHandle" ∧ (parseMethodDescriptor yX0_bounded.desc).map (fun d => d.parameters.length) = some 1) := ⟨gw882, gw4, by decide, by decide, by decide +kernel⟩
theorem nX6_init : Cond.code yX6_init cX6_init 1 none ∈ GW ∧ Cond.initialized yX6_init.cls ∈ GW ∧ (yX6_init.cls ≠ "java/lang/invoke/MethodHandle" ∧ yX6_init.cls ≠ "java/lang/invoke/VarHandle" ∧ (parseMethodDescriptor yX6_init.desc).map (fun d => d.parameters.length) = some 0) := ⟨gw193, gw13, by decide, by decide, by decide +kernel⟩
theorem nX6_begin : Cond.code yX6_begin cX6_begin 2 none ∈ GW ∧ Cond.initialized yX6_begin.cls ∈ GW ∧ (yX6_begin.cls ≠ "java/lang/invoke/MethodHandle" ∧ yX6_begin.cls ≠ "java/lang/invoke/VarHandle" ∧ (parseMethodDescriptor yX6_begin.desc).map (fun d => d.parameters.length) = some 0) := ⟨gw207, gw13, by decide, by decide, by decide +kernel⟩
theorem nX6_number : Cond.code yX6_number cX6_number 2 (some (.int)) ∈ GW ∧ Cond.initialized yX6_number.cls ∈ GW ∧ (yX6_number.cls ≠ "java/lang/invoke/MethodHandle" ∧ yX6_number.cls ≠ "java/lang/invoke/VarHandle" ∧ (parseMethodDescriptor yX6_number.desc).map (fun d => d.parameters.length) = some 1) := ⟨gw764, gw13, by decide, by decide, by decide +kernel⟩
theorem nX6_testOf : Cond.code yX6_testOf cX6_testOf 2 (some (.object "PieceStore$Code")) ∈ GW ∧ Cond.initialized yX6_testOf.cls ∈ GW ∧ (yX6_testOf.cls ≠ "java/lang/invoke/MethodHandle" ∧ yX6_testOf.cls ≠ "java/lang/invoke/VarHandle" ∧ (parseMethodDescriptor yX6_testOf.desc).map (fun d => d.parameters.length) = some 1) := ⟨gw690, gw13, by decide, by decide, by decide +kernel⟩
theorem nX6_isBorder : Cond.code yX6_isBorder cX6_isBorder 6 (some (.boolean)) ∈ GW ∧ Cond.initialized yX6_isBorder.cls ∈ GW ∧ (yX6_isBorder.cls ≠ "java/lang/invoke/MethodHandle" ∧ yX6_isBorder.cls ≠ "java/lang/invoke/VarHandle" ∧ (parseMethodDescriptor yX6_isBorder.desc).map (fun d => d.parameters.length) = some 4) := ⟨gw937, gw13, by decide, by decide, by decide +kernel⟩
theorem nX6_isHook : Cond.code yX6_isHook cX6_isHook 5 (some (.boolean)) ∈ GW ∧ Cond.initialized yX6_isHook.cls ∈ GW ∧ (yX6_isHook.cls ≠ "java/lang/invoke/MethodHandle" ∧ yX6_isHook.cls ≠ "java/lang/invoke/VarHandle" ∧ (parseMethodDescriptor yX6_isHook.desc).map (fun d => d.parameters.length) = some 4) := ⟨gw1193, gw13, by decide, by decide, by decide +kernel⟩
theorem nX6_isForCleaning : Cond.code yX6_isForCleaning cX6_isForCleaning 5 (some (.boolean)) ∈ GW ∧ Cond.initialized yX6_isForCleaning.cls ∈ GW ∧ (yX6_isForCleaning.cls ≠ "java/lang/invoke/MethodHandle" ∧ yX6_isForCleaning.cls ≠ "java/lang/invoke/VarHandle" ∧ (parseMethodDescriptor yX6_isForCleaning.desc).map (fun d => d.parameters.length) = some 4) := ⟨gw861, gw13, by decide, by decide, by decide +kernel⟩
theorem nX4_init : Cond.code yX4_init cX4_init 2 none ∈ GW ∧ Cond.initialized yX4_init.cls ∈ GW ∧ (yX4_init.cls ≠ "java/lang/invoke/MethodHandle" ∧ yX4_init.cls ≠ "java/lang/invoke/VarHandle" ∧ (parseMethodDescriptor yX4_init.desc).map (fun d => d.parameters.length) = some 0) := ⟨gw47, gw3, by decide, by decide, by decide +kernel⟩
theorem nX4_packedWord : Cond.code yX4_packedWord cX4_packedWord 4 (some (.int)) ∈ GW ∧ Cond.initialized yX4_packedWord.cls ∈ GW ∧ (yX4_packedWord.cls ≠ "java/lang/invoke/MethodHandle" ∧ yX4_packedWord.cls ≠ "java/lang/invoke/VarHandle" ∧ (parseMethodDescriptor yX4_packedWord.desc).map (fun d => d.parameters.length) = some 1) := ⟨gw70, gw3, by decide, by decide, by decide +kernel⟩
theorem nX4_read : Cond.code yX4_read cX4_read 4 (some (.boolean)) ∈ GW ∧ Cond.initialized yX4_read.cls ∈ GW ∧ (yX4_read.cls ≠ "java/lang/invoke/MethodHandle" ∧ yX4_read.cls ≠ "java/lang/invoke/VarHandle" ∧ (parseMethodDescriptor yX4_read.desc).map (fun d => d.parameters.length) = some 2) := ⟨gw622, gw3, by decide, by decide, by decide +kernel⟩
theorem nX4_split : Cond.code yX4_split cX4_split 5 none ∈ GW ∧ Cond.initialized yX4_split.cls ∈ GW ∧ (yX4_split.cls ≠ "java/lang/invoke/MethodHandle" ∧ yX4_split.cls ≠ "java/lang/invoke/VarHandle" ∧ (parseMethodDescriptor yX4_split.desc).map (fun d => d.parameters.length) = some 1) := ⟨gw626, gw3, by decide, by decide, by decide +kernel⟩
theorem nX4_addToken : Cond.code yX4_addToken cX4_addToken 4 none ∈ GW ∧ Cond.initialized yX4_addToken.cls ∈ GW ∧ (yX4_addToken.cls ≠ "java/lang/invoke/MethodHandle" ∧ yX4_addToken.cls ≠ "java/lang/invoke/VarHandle" ∧ (parseMethodDescriptor yX4_addToken.desc).map (fun d => d.parameters.length) = some 3) := ⟨gw647, gw3, by decide, by decide, by decide +kernel⟩
theorem nX4_isLetter : Cond.code yX4_isLetter cX4_isLetter 1 (some (.boolean)) ∈ GW ∧ Cond.initialized yX4_isLetter.cls ∈ GW ∧ (yX4_isLetter.cls ≠ "java/lang/invoke/MethodHandle" ∧ yX4_isLetter.cls ≠ "java/lang/invoke/VarHandle" ∧ (parseMethodDescriptor yX4_isLetter.desc).map (fun d => d.parameters.length) = some 1) := ⟨gw632, gw3, by decide, by decide, by decide +kernel⟩
theorem nX4_isDigit : Cond.code yX4_isDigit cX4_isDigit 1 (some (.boolean)) ∈ GW ∧ Cond.initialized yX4_isDigit.cls ∈ GW ∧ (yX4_isDigit.cls ≠ "java/lang/invoke/MethodHandle" ∧ yX4_isDigit.cls ≠ "java/lang/invoke/VarHandle" ∧ (parseMethodDescriptor yX4_isDigit.desc).map (fun d => d.parameters.length) = some 1) := ⟨gw639, gw3, by decide, by decide, by decide +kernel⟩
theorem nX4_breakOff : Cond.code yX4_breakOff cX4_breakOff 4 (some (.int)) ∈ GW ∧ Cond.initialized yX4_breakOff.cls ∈ GW ∧ (yX4_breakOff.cls ≠ "java/lang/invoke/MethodHandle" ∧ yX4_breakOff.cls ≠ "java/lang/invoke/VarHandle" ∧ (parseMethodDescriptor yX4_breakOff.desc).map (fun d => d.parameters.length) = some 3) := ⟨gw643, gw3, by decide, by decide, by decide +kernel⟩
theorem nX4_splitWord : Cond.code yX4_splitWord cX4_splitWord 5 (some (.int)) ∈ GW ∧ Cond.initialized yX4_splitWord.cls ∈ GW ∧ (yX4_splitWord.cls ≠ "java/lang/invoke/MethodHandle" ∧ yX4_splitWord.cls ≠ "java/lang/invoke/VarHandle" ∧ (parseMethodDescriptor yX4_splitWord.desc).map (fun d => d.parameters.length) = some 2) := ⟨gw636, gw3, by decide, by decide, by decide +kernel⟩
theorem nX4_splitNumber : Cond.code yX4_splitNumber cX4_splitNumber 5 (some (.int)) ∈ GW ∧ Cond.initialized yX4_splitNumber.cls ∈ GW ∧ (yX4_splitNumber.cls ≠ "java/lang/invoke/MethodHandle" ∧ yX4_splitNumber.cls ≠ "java/lang/invoke/VarHandle" ∧ (parseMethodDescriptor yX4_splitNumber.desc).map (fun d => d.parameters.length) = some 2) := ⟨gw656, gw3, by decide, by decide, by decide +kernel⟩
theorem nX4_goOn : Cond.code yX4_goOn cX4_goOn 1 none ∈ GW ∧ Cond.initialized yX4_goOn.cls ∈ GW ∧ (yX4_goOn.cls ≠ "java/lang/invoke/MethodHandle" ∧ yX4_goOn.cls ≠ "java/lang/invoke/VarHandle" ∧ (parseMethodDescriptor yX4_goOn.desc).map (fun d => d.parameters.length) = some 0) := ⟨gw661, gw3, by decide, by decide, by decide +kernel⟩
theorem nX4_isWord : Cond.code yX4_isWord cX4_isWord 2 (some (.boolean)) ∈ GW ∧ Cond.initialized yX4_isWord.cls ∈ GW ∧ (yX4_isWord.cls ≠ "java/lang/invoke/MethodHandle" ∧ yX4_isWord.cls ≠ "java/lang/invoke/VarHandle" ∧ (parseMethodDescriptor yX4_isWord.desc).map (fun d => d.parameters.length) = some 1) := ⟨gw706, gw3, by decide, by decide, by decide +kernel⟩
theorem nX4_isSign : Cond.code yX4_isSign cX4_isSign 2 (some (.boolean)) ∈ GW ∧ Cond.initialized yX4_isSign.cls ∈ GW ∧ (yX4_isSign.cls ≠ "java/lang/invoke/MethodHandle" ∧ yX4_isSign.cls ≠ "java/lang/invoke/VarHandle" ∧ (parseMethodDescriptor yX4_isSign.desc).map (fun d => d.parameters.length) = some 1) := ⟨gw722, gw3, by decide, by decide, by decide +kernel⟩
theorem nX4_fails : Cond.code yX4_fails cX4_fails 3 (some (.boolean)) ∈ GW ∧ Cond.initialized yX4_fails.cls ∈ GW ∧ (yX4_fails.cls ≠ "java/lang/invoke/MethodHandle" ∧ yX4_fails.cls ≠ "java/lang/invoke/VarHandle" ∧ (parseMethodDescriptor yX4_fails.desc).map (fun d => d.parameters.length) = some 2) := ⟨gw669, gw3, by decide, by decide, by decide +kernel⟩
theorem nX4_isWrong : Cond.code yX4_isWrong cX4_isWrong 1 (some (.boolean)) ∈ GW ∧ Cond.initialized yX4_isWrong.cls ∈ GW ∧ (yX4_isWrong.cls ≠ "java/lang/invoke/MethodHandle" ∧ yX4_isWrong.cls ≠ "java/lang/invoke/VarHandle" ∧ (parseMethodDescriptor yX4_isWrong.desc).map (fun d => d.parameters.length) = some 0) := ⟨gw673, gw3, by decide, by decide, by decide +kernel⟩
theorem nX4_takes : Cond.code yX4_takes cX4_takes 2 (some (.boolean)) ∈ GW ∧ Cond.initialized yX4_takes.cls ∈ GW ∧ (yX4_takes.cls ≠ "java/lang/invoke/MethodHandle" ∧ yX4_takes.cls ≠ "java/lang/invoke/VarHandle" ∧ (parseMethodDescriptor yX4_takes.desc).map (fun d => d.parameters.length) = some 1) := ⟨gw726, gw3, by decide, by decide, by decide +kernel⟩
theorem nX4_statement : Cond.code yX4_statement cX4_statement 4 (some (.boolean)) ∈ GW ∧ Cond.initialized yX4_statement.cls ∈ GW ∧ (yX4_statement.cls ≠ "java/lang/invoke/MethodHandle" ∧ yX4_statement.cls ≠ "java/lang/invoke/VarHandle" ∧ (parseMethodDescriptor yX4_statement.desc).map (fun d => d.parameters.length) = some 1) := ⟨gw665, gw3, by decide, by decide, by decide +kernel⟩
theorem nX4_tellsNumber : Cond.code yX4_tellsNumber cX4_tellsNumber 3 (some (.boolean)) ∈ GW ∧ Cond.initialized yX4_tellsNumber.cls ∈ GW ∧ (yX4_tellsNumber.cls ≠ "java/lang/invoke/MethodHandle" ∧ yX4_tellsNumber.cls ≠ "java/lang/invoke/VarHandle" ∧ (parseMethodDescriptor yX4_tellsNumber.desc).map (fun d => d.parameters.length) = some 2) := ⟨gw677, gw3, by decide, by decide, by decide +kernel⟩
theorem nX4_tellsTest : Cond.code yX4_tellsTest cX4_tellsTest 3 (some (.boolean)) ∈ GW ∧ Cond.initialized yX4_tellsTest.cls ∈ GW ∧ (yX4_tellsTest.cls ≠ "java/lang/invoke/MethodHandle" ∧ yX4_tellsTest.cls ≠ "java/lang/invoke/VarHandle" ∧ (parseMethodDescriptor yX4_tellsTest.desc).map (fun d => d.parameters.length) = some 2) := ⟨gw686, gw3, by decide, by decide, by decide +kernel⟩
theorem nX4_opens : Cond.code yX4_opens cX4_opens 1 (some (.boolean)) ∈ GW ∧ Cond.initialized yX4_opens.cls ∈ GW ∧ (yX4_opens.cls ≠ "java/lang/invoke/MethodHandle" ∧ yX4_opens.cls ≠ "java/lang/invoke/VarHandle" ∧ (parseMethodDescriptor yX4_opens.desc).map (fun d => d.parameters.length) = some 0) := ⟨gw710, gw3, by decide, by decide, by decide +kernel⟩
theorem nX4_closes : Cond.code yX4_closes cX4_closes 1 (some (.boolean)) ∈ GW ∧ Cond.initialized yX4_closes.cls ∈ GW ∧ (yX4_closes.cls ≠ "java/lang/invoke/MethodHandle" ∧ yX4_closes.cls ≠ "java/lang/invoke/VarHandle" ∧ (parseMethodDescriptor yX4_closes.desc).map (fun d => d.parameters.length) = some 0) := ⟨gw714, gw3, by decide, by decide, by decide +kernel⟩
theorem nX4_adds : Cond.code yX4_adds cX4_adds 2 (some (.boolean)) ∈ GW ∧ Cond.initialized yX4_adds.cls ∈ GW ∧ (yX4_adds.cls ≠ "java/lang/invoke/MethodHandle" ∧ yX4_adds.cls ≠ "java/lang/invoke/VarHandle" ∧ (parseMethodDescriptor yX4_adds.desc).map (fun d => d.parameters.length) = some 1) := ⟨gw718, gw3, by decide, by decide, by decide +kernel⟩
theorem nX4_readTest : Cond.code yX4_readTest cX4_readTest 3 (some (.boolean)) ∈ GW ∧ Cond.initialized yX4_readTest.cls ∈ GW ∧ (yX4_readTest.cls ≠ "java/lang/invoke/MethodHandle" ∧ yX4_readTest.cls ≠ "java/lang/invoke/VarHandle" ∧ (parseMethodDescriptor yX4_readTest.desc).map (fun d => d.parameters.length) = some 0) := ⟨gw694, gw3, by decide, by decide, by decide +kernel⟩
theorem nX4_readBoth : Cond.code yX4_readBoth cX4_readBoth 3 (some (.boolean)) ∈ GW ∧ Cond.initialized yX4_readBoth.cls ∈ GW ∧ (yX4_readBoth.cls ≠ "java/lang/invoke/MethodHandle" ∧ yX4_readBoth.cls ≠ "java/lang/invoke/VarHandle" ∧ (parseMethodDescriptor yX4_readBoth.desc).map (fun d => d.parameters.length) = some 0) := ⟨gw698, gw3, by decide, by decide, by decide +kernel⟩
theorem nX4_readFact : Cond.code yX4_readFact cX4_readFact 1 (some (.boolean)) ∈ GW ∧ Cond.initialized yX4_readFact.cls ∈ GW ∧ (yX4_readFact.cls ≠ "java/lang/invoke/MethodHandle" ∧ yX4_readFact.cls ≠ "java/lang/invoke/VarHandle" ∧ (parseMethodDescriptor yX4_readFact.desc).map (fun d => d.parameters.length) = some 0) := ⟨gw702, gw3, by decide, by decide, by decide +kernel⟩
theorem nX4_readComparison : Cond.code yX4_readComparison cX4_readComparison 2 (some (.boolean)) ∈ GW ∧ Cond.initialized yX4_readComparison.cls ∈ GW ∧ (yX4_readComparison.cls ≠ "java/lang/invoke/MethodHandle" ∧ yX4_readComparison.cls ≠ "java/lang/invoke/VarHandle" ∧ (parseMethodDescriptor yX4_readComparison.desc).map (fun d => d.parameters.length) = some 0) := ⟨gw750, gw3, by decide, by decide, by decide +kernel⟩
theorem nX4_readSum : Cond.code yX4_readSum cX4_readSum 4 (some (.boolean)) ∈ GW ∧ Cond.initialized yX4_readSum.cls ∈ GW ∧ (yX4_readSum.cls ≠ "java/lang/invoke/MethodHandle" ∧ yX4_readSum.cls ≠ "java/lang/invoke/VarHandle" ∧ (parseMethodDescriptor yX4_readSum.desc).map (fun d => d.parameters.length) = some 0) := ⟨gw730, gw3, by decide, by decide, by decide +kernel⟩
theorem nX4_readProduct : Cond.code yX4_readProduct cX4_readProduct 4 (some (.boolean)) ∈ GW ∧ Cond.initialized yX4_readProduct.cls ∈ GW ∧ (yX4_readProduct.cls ≠ "java/lang/invoke/MethodHandle" ∧ yX4_readProduct.cls ≠ "java/lang/invoke/VarHandle" ∧ (parseMethodDescriptor yX4_readProduct.desc).map (fun d => d.parameters.length) = some 0) := ⟨gw734, gw3, by decide, by decide, by decide +kernel⟩
theorem nX4_readPart : Cond.code yX4_readPart cX4_readPart 2 (some (.boolean)) ∈ GW ∧ Cond.initialized yX4_readPart.cls ∈ GW ∧ (yX4_readPart.cls ≠ "java/lang/invoke/MethodHandle" ∧ yX4_readPart.cls ≠ "java/lang/invoke/VarHandle" ∧ (parseMethodDescriptor yX4_readPart.desc).map (fun d => d.parameters.length) = some 0) := ⟨gw738, gw3, by decide, by decide, by decide +kernel⟩
theorem nX4_readCall : Cond.code yX4_readCall cX4_readCall 2 (some (.boolean)) ∈ GW ∧ Cond.initialized yX4_readCall.cls ∈ GW ∧ (yX4_readCall.cls ≠ "java/lang/invoke/MethodHandle" ∧ yX4_readCall.cls ≠ "java/lang/invoke/VarHandle" ∧ (parseMethodDescriptor yX4_readCall.desc).map (fun d => d.parameters.length) = some 1) := ⟨gw742, gw3, by decide, by decide, by decide +kernel⟩
theorem nX4_isFact : Cond.code yX4_isFact cX4_isFact 2 (some (.boolean)) ∈ GW ∧ Cond.initialized yX4_isFact.cls ∈ GW ∧ (yX4_isFact.cls ≠ "java/lang/invoke/MethodHandle" ∧ yX4_isFact.cls ≠ "java/lang/invoke/VarHandle" ∧ (parseMethodDescriptor yX4_isFact.desc).map (fun d => d.parameters.length) = some 1) := ⟨gw746, gw3, by decide, by decide, by decide +kernel⟩
theorem nX1_init : Cond.code yX1_init cX1_init 1 none ∈ GW ∧ Cond.initialized yX1_init.cls ∈ GW ∧ (yX1_init.cls ≠ "java/lang/invoke/MethodHandle" ∧ yX1_init.cls ≠ "java/lang/invoke/VarHandle" ∧ (parseMethodDescriptor yX1_init.desc).map (fun d => d.parameters.length) = some 0) := ⟨gw241, gw14, by decide, by decide, by decide +kernel⟩
theorem nX1_cut : Cond.code yX1_cut cX1_cut 13 none ∈ GW ∧ Cond.initialized yX1_cut.cls ∈ GW ∧ (yX1_cut.cls ≠ "java/lang/invoke/MethodHandle" ∧ yX1_cut.cls ≠ "java/lang/invoke/VarHandle" ∧ (parseMethodDescriptor yX1_cut.desc).map (fun d => d.parameters.length) = some 3) := ⟨gw928, gw14, by decide, by decide, by decide +kernel⟩
theorem nX1_count : Cond.code yX1_count cX1_count 1 (some (.int)) ∈ GW ∧ Cond.initialized yX1_count.cls ∈ GW ∧ (yX1_count.cls ≠ "java/lang/invoke/MethodHandle" ∧ yX1_count.cls ≠ "java/lang/invoke/VarHandle" ∧ (parseMethodDescriptor yX1_count.desc).map (fun d => d.parameters.length) = some 0) := ⟨gw943, gw14, by decide, by decide, by decide +kernel⟩
theorem nX1_firstOf : Cond.code yX1_firstOf cX1_firstOf 2 (some (.int)) ∈ GW ∧ Cond.initialized yX1_firstOf.cls ∈ GW ∧ (yX1_firstOf.cls ≠ "java/lang/invoke/MethodHandle" ∧ yX1_firstOf.cls ≠ "java/lang/invoke/VarHandle" ∧ (parseMethodDescriptor yX1_firstOf.desc).map (fun d => d.parameters.length) = some 1) := ⟨gw951, gw14, by decide, by decide, by decide +kernel⟩
theorem nX1_lengthOf : Cond.code yX1_lengthOf cX1_lengthOf 2 (some (.int)) ∈ GW ∧ Cond.initialized yX1_lengthOf.cls ∈ GW ∧ (yX1_lengthOf.cls ≠ "java/lang/invoke/MethodHandle" ∧ yX1_lengthOf.cls ≠ "java/lang/invoke/VarHandle" ∧ (parseMethodDescriptor yX1_lengthOf.desc).map (fun d => d.parameters.length) = some 1) := ⟨gw947, gw14, by decide, by decide, by decide +kernel⟩
theorem nX3_init : Cond.code yX3_init cX3_init 1 none ∈ GW ∧ Cond.initialized yX3_init.cls ∈ GW ∧ (yX3_init.cls ≠ "java/lang/invoke/MethodHandle" ∧ yX3_init.cls ≠ "java/lang/invoke/VarHandle" ∧ (parseMethodDescriptor yX3_init.desc).map (fun d => d.parameters.length) = some 0) := ⟨gw259, gw15, by decide, by decide, by decide +kernel⟩
theorem nX3_clear : Cond.code yX3_clear cX3_clear 1 none ∈ GW ∧ Cond.initialized yX3_clear.cls ∈ GW ∧ (yX3_clear.cls ≠ "java/lang/invoke/MethodHandle" ∧ yX3_clear.cls ≠ "java/lang/invoke/VarHandle" ∧ (parseMethodDescriptor yX3_clear.desc).map (fun d => d.parameters.length) = some 0) := ⟨gw417, gw15, by decide, by decide, by decide +kernel⟩
theorem nX3_printOf : Cond.code yX3_printOf cX3_printOf 5 (some (.int)) ∈ GW ∧ Cond.initialized yX3_printOf.cls ∈ GW ∧ (yX3_printOf.cls ≠ "java/lang/invoke/MethodHandle" ∧ yX3_printOf.cls ≠ "java/lang/invoke/VarHandle" ∧ (parseMethodDescriptor yX3_printOf.desc).map (fun d => d.parameters.length) = some 3) := ⟨gw977, gw15, by decide, by decide, by decide +kernel⟩
theorem nX3_find : Cond.code yX3_find cX3_find 7 (some (.int)) ∈ GW ∧ Cond.initialized yX3_find.cls ∈ GW ∧ (yX3_find.cls ≠ "java/lang/invoke/MethodHandle" ∧ yX3_find.cls ≠ "java/lang/invoke/VarHandle" ∧ (parseMethodDescriptor yX3_find.desc).map (fun d => d.parameters.length) = some 3) := ⟨gw974, gw15, by decide, by decide, by decide +kernel⟩
theorem nX3_isAt : Cond.code yX3_isAt cX3_isAt 5 (some (.boolean)) ∈ GW ∧ Cond.initialized yX3_isAt.cls ∈ GW ∧ (yX3_isAt.cls ≠ "java/lang/invoke/MethodHandle" ∧ yX3_isAt.cls ≠ "java/lang/invoke/VarHandle" ∧ (parseMethodDescriptor yX3_isAt.desc).map (fun d => d.parameters.length) = some 3) := ⟨gw982, gw15, by decide, by decide, by decide +kernel⟩
theorem nX3_findOrAdd : Cond.code yX3_findOrAdd cX3_findOrAdd 8 (some (.int)) ∈ GW ∧ Cond.initialized yX3_findOrAdd.cls ∈ GW ∧ (yX3_findOrAdd.cls ≠ "java/lang/invoke/MethodHandle" ∧ yX3_findOrAdd.cls ≠ "java/lang/invoke/VarHandle" ∧ (parseMethodDescriptor yX3_findOrAdd.desc).map (fun d => d.parameters.length) = some 3) := ⟨gw1184, gw15, by decide, by decide, by decide +kernel⟩
theorem nX3_layOut : Cond.code yX3_layOut cX3_layOut 4 none ∈ GW ∧ Cond.initialized yX3_layOut.cls ∈ GW ∧ (yX3_layOut.cls ≠ "java/lang/invoke/MethodHandle" ∧ yX3_layOut.cls ≠ "java/lang/invoke/VarHandle" ∧ (parseMethodDescriptor yX3_layOut.desc).map (fun d => d.parameters.length) = some 2) := ⟨gw904, gw15, by decide, by decide, by decide +kernel⟩
theorem nX9_init : Cond.code yX9_init cX9_init 1 none ∈ GW ∧ Cond.initialized yX9_init.cls ∈ GW ∧ (yX9_init.cls ≠ "java/lang/invoke/MethodHandle" ∧ yX9_init.cls ≠ "java/lang/invoke/VarHandle" ∧ (parseMethodDescriptor yX9_init.desc).map (fun d => d.parameters.length) = some 0) := ⟨gw328, gw17, by decide, by decide, by decide +kernel⟩
theorem nX9_begin : Cond.code yX9_begin cX9_begin 1 none ∈ GW ∧ Cond.initialized yX9_begin.cls ∈ GW ∧ (yX9_begin.cls ≠ "java/lang/invoke/MethodHandle" ∧ yX9_begin.cls ≠ "java/lang/invoke/VarHandle" ∧ (parseMethodDescriptor yX9_begin.desc).map (fun d => d.parameters.length) = some 0) := ⟨gw424, gw17, by decide, by decide, by decide +kernel⟩
theorem nX9_emptyBoxes : Cond.code yX9_emptyBoxes cX9_emptyBoxes 1 none ∈ GW ∧ Cond.initialized yX9_emptyBoxes.cls ∈ GW ∧ (yX9_emptyBoxes.cls ≠ "java/lang/invoke/MethodHandle" ∧ yX9_emptyBoxes.cls ≠ "java/lang/invoke/VarHandle" ∧ (parseMethodDescriptor yX9_emptyBoxes.desc).map (fun d => d.parameters.length) = some 0) := ⟨gw428, gw17, by decide, by decide, by decide +kernel⟩
theorem nX9_copyFrom : Cond.code yX9_copyFrom cX9_copyFrom 2 none ∈ GW ∧ Cond.initialized yX9_copyFrom.cls ∈ GW ∧ (yX9_copyFrom.cls ≠ "java/lang/invoke/MethodHandle" ∧ yX9_copyFrom.cls ≠ "java/lang/invoke/VarHandle" ∧ (parseMethodDescriptor yX9_copyFrom.desc).map (fun d => d.parameters.length) = some 1) := ⟨gw1165, gw17, by decide, by decide, by decide +kernel⟩
theorem nX9_copyRest : Cond.code yX9_copyRest cX9_copyRest 2 none ∈ GW ∧ Cond.initialized yX9_copyRest.cls ∈ GW ∧ (yX9_copyRest.cls ≠ "java/lang/invoke/MethodHandle" ∧ yX9_copyRest.cls ≠ "java/lang/invoke/VarHandle" ∧ (parseMethodDescriptor yX9_copyRest.desc).map (fun d => d.parameters.length) = some 1) := ⟨gw1055, gw17, by decide, by decide, by decide +kernel⟩
theorem nX9_boxEnd : Cond.code yX9_boxEnd cX9_boxEnd 2 (some (.int)) ∈ GW ∧ Cond.initialized yX9_boxEnd.cls ∈ GW ∧ (yX9_boxEnd.cls ≠ "java/lang/invoke/MethodHandle" ∧ yX9_boxEnd.cls ≠ "java/lang/invoke/VarHandle" ∧ (parseMethodDescriptor yX9_boxEnd.desc).map (fun d => d.parameters.length) = some 1) := ⟨gw838, gw17, by decide, by decide, by decide +kernel⟩
theorem nX9_openBox : Cond.code yX9_openBox cX9_openBox 3 none ∈ GW ∧ Cond.initialized yX9_openBox.cls ∈ GW ∧ (yX9_openBox.cls ≠ "java/lang/invoke/MethodHandle" ∧ yX9_openBox.cls ≠ "java/lang/invoke/VarHandle" ∧ (parseMethodDescriptor yX9_openBox.desc).map (fun d => d.parameters.length) = some 2) := ⟨gw1065, gw17, by decide, by decide, by decide +kernel⟩
theorem nX9_append : Cond.code yX9_append cX9_append 5 none ∈ GW ∧ Cond.initialized yX9_append.cls ∈ GW ∧ (yX9_append.cls ≠ "java/lang/invoke/MethodHandle" ∧ yX9_append.cls ≠ "java/lang/invoke/VarHandle" ∧ (parseMethodDescriptor yX9_append.desc).map (fun d => d.parameters.length) = some 3) := ⟨gw1070, gw17, by decide, by decide, by decide +kernel⟩
theorem nX9_write : Cond.code yX9_write cX9_write 6 none ∈ GW ∧ Cond.initialized yX9_write.cls ∈ GW ∧ (yX9_write.cls ≠ "java/lang/invoke/MethodHandle" ∧ yX9_write.cls ≠ "java/lang/invoke/VarHandle" ∧ (parseMethodDescriptor yX9_write.desc).map (fun d => d.parameters.length) = some 4) := ⟨gw1079, gw17, by decide, by decide, by decide +kernel⟩
theorem nX9_dropBackup : Cond.code yX9_dropBackup cX9_dropBackup 2 none ∈ GW ∧ Cond.initialized yX9_dropBackup.cls ∈ GW ∧ (yX9_dropBackup.cls ≠ "java/lang/invoke/MethodHandle" ∧ yX9_dropBackup.cls ≠ "java/lang/invoke/VarHandle" ∧ (parseMethodDescriptor yX9_dropBackup.desc).map (fun d => d.parameters.length) = some 1) := ⟨gw1236, gw17, by decide, by decide, by decide +kernel⟩
theorem nX10_init : Cond.code yX10_init cX10_init 1 none ∈ GW ∧ Cond.initialized yX10_init.cls ∈ GW ∧ (yX10_init.cls ≠ "java/lang/invoke/MethodHandle" ∧ yX10_init.cls ≠ "java/lang/invoke/VarHandle" ∧ (parseMethodDescriptor yX10_init.desc).map (fun d => d.parameters.length) = some 0) := ⟨gw187, gw12, by decide, by decide, by decide +kernel⟩
theorem nX10_begin : Cond.code yX10_begin cX10_begin 2 none ∈ GW ∧ Cond.initialized yX10_begin.cls ∈ GW ∧ (yX10_begin.cls ≠ "java/lang/invoke/MethodHandle" ∧ yX10_begin.cls ≠ "java/lang/invoke/VarHandle" ∧ (parseMethodDescriptor yX10_begin.desc).map (fun d => d.parameters.length) = some 1) := ⟨gw413, gw12, by decide, by decide, by decide +kernel⟩
theorem nX10_hasBackup : Cond.code yX10_hasBackup cX10_hasBackup 2 (some (.boolean)) ∈ GW ∧ Cond.initialized yX10_hasBackup.cls ∈ GW ∧ (yX10_hasBackup.cls ≠ "java/lang/invoke/MethodHandle" ∧ yX10_hasBackup.cls ≠ "java/lang/invoke/VarHandle" ∧ (parseMethodDescriptor yX10_hasBackup.desc).map (fun d => d.parameters.length) = some 1) := ⟨gw773, gw12, by decide, by decide, by decide +kernel⟩
theorem nX10_spotOf : Cond.code yX10_spotOf cX10_spotOf 3 (some (.int)) ∈ GW ∧ Cond.initialized yX10_spotOf.cls ∈ GW ∧ (yX10_spotOf.cls ≠ "java/lang/invoke/MethodHandle" ∧ yX10_spotOf.cls ≠ "java/lang/invoke/VarHandle" ∧ (parseMethodDescriptor yX10_spotOf.desc).map (fun d => d.parameters.length) = some 2) := ⟨gw796, gw12, by decide, by decide, by decide +kernel⟩
theorem nX10_formAt : Cond.code yX10_formAt cX10_formAt 2 (some (.int)) ∈ GW ∧ Cond.initialized yX10_formAt.cls ∈ GW ∧ (yX10_formAt.cls ≠ "java/lang/invoke/MethodHandle" ∧ yX10_formAt.cls ≠ "java/lang/invoke/VarHandle" ∧ (parseMethodDescriptor yX10_formAt.desc).map (fun d => d.parameters.length) = some 1) := ⟨gw820, gw12, by decide, by decide, by decide +kernel⟩
theorem nX10_lengthAt : Cond.code yX10_lengthAt cX10_lengthAt 2 (some (.int)) ∈ GW ∧ Cond.initialized yX10_lengthAt.cls ∈ GW ∧ (yX10_lengthAt.cls ≠ "java/lang/invoke/MethodHandle" ∧ yX10_lengthAt.cls ≠ "java/lang/invoke/VarHandle" ∧ (parseMethodDescriptor yX10_lengthAt.desc).map (fun d => d.parameters.length) = some 1) := ⟨gw816, gw12, by decide, by decide, by decide +kernel⟩
theorem nX10_printAt : Cond.code yX10_printAt cX10_printAt 2 (some (.int)) ∈ GW ∧ Cond.initialized yX10_printAt.cls ∈ GW ∧ (yX10_printAt.cls ≠ "java/lang/invoke/MethodHandle" ∧ yX10_printAt.cls ≠ "java/lang/invoke/VarHandle" ∧ (parseMethodDescriptor yX10_printAt.desc).map (fun d => d.parameters.length) = some 1) := ⟨gw830, gw12, by decide, by decide, by decide +kernel⟩
theorem nX10_bytesOf : Cond.code yX10_bytesOf cX10_bytesOf 4 (some (.int)) ∈ GW ∧ Cond.initialized yX10_bytesOf.cls ∈ GW ∧ (yX10_bytesOf.cls ≠ "java/lang/invoke/MethodHandle" ∧ yX10_bytesOf.cls ≠ "java/lang/invoke/VarHandle" ∧ (parseMethodDescriptor yX10_bytesOf.desc).map (fun d => d.parameters.length) = some 1) := ⟨gw812, gw12, by decide, by decide, by decide +kernel⟩
theorem nX10_layOut : Cond.code yX10_layOut cX10_layOut 3 none ∈ GW ∧ Cond.initialized yX10_layOut.cls ∈ GW ∧ (yX10_layOut.cls ≠ "java/lang/invoke/MethodHandle" ∧ yX10_layOut.cls ≠ "java/lang/invoke/VarHandle" ∧ (parseMethodDescriptor yX10_layOut.desc).map (fun d => d.parameters.length) = some 1) := ⟨gw900, gw12, by decide, by decide, by decide +kernel⟩
theorem nX10_cutFile : Cond.code yX10_cutFile cX10_cutFile 1 none ∈ GW ∧ Cond.initialized yX10_cutFile.cls ∈ GW ∧ (yX10_cutFile.cls ≠ "java/lang/invoke/MethodHandle" ∧ yX10_cutFile.cls ≠ "java/lang/invoke/VarHandle" ∧ (parseMethodDescriptor yX10_cutFile.desc).map (fun d => d.parameters.length) = some 0) := ⟨gw924, gw12, by decide, by decide, by decide +kernel⟩
theorem nX10_bytesWith : Cond.code yX10_bytesWith cX10_bytesWith 6 (some (.int)) ∈ GW ∧ Cond.initialized yX10_bytesWith.cls ∈ GW ∧ (yX10_bytesWith.cls ≠ "java/lang/invoke/MethodHandle" ∧ yX10_bytesWith.cls ≠ "java/lang/invoke/VarHandle" ∧ (parseMethodDescriptor yX10_bytesWith.desc).map (fun d => d.parameters.length) = some 2) := ⟨gw959, gw12, by decide, by decide, by decide +kernel⟩
theorem nX10_countForeign : Cond.code yX10_countForeign cX10_countForeign 5 (some (.int)) ∈ GW ∧ Cond.initialized yX10_countForeign.cls ∈ GW ∧ (yX10_countForeign.cls ≠ "java/lang/invoke/MethodHandle" ∧ yX10_countForeign.cls ≠ "java/lang/invoke/VarHandle" ∧ (parseMethodDescriptor yX10_countForeign.desc).map (fun d => d.parameters.length) = some 1) := ⟨gw967, gw12, by decide, by decide, by decide +kernel⟩
theorem nX10_isGone : Cond.code yX10_isGone cX10_isGone 4 (some (.boolean)) ∈ GW ∧ Cond.initialized yX10_isGone.cls ∈ GW ∧ (yX10_isGone.cls ≠ "java/lang/invoke/MethodHandle" ∧ yX10_isGone.cls ≠ "java/lang/invoke/VarHandle" ∧ (parseMethodDescriptor yX10_isGone.desc).map (fun d => d.parameters.length) = some 2) := ⟨gw778, gw12, by decide, by decide, by decide +kernel⟩
theorem nX10_countBackups : Cond.code yX10_countBackups cX10_countBackups 4 (some (.int)) ∈ GW ∧ Cond.initialized yX10_countBackups.cls ∈ GW ∧ (yX10_countBackups.cls ≠ "java/lang/invoke/MethodHandle" ∧ yX10_countBackups.cls ≠ "java/lang/invoke/VarHandle" ∧ (parseMethodDescriptor yX10_countBackups.desc).map (fun d => d.parameters.length) = some 1) := ⟨gw769, gw12, by decide, by decide, by decide +kernel⟩
theorem nX10_markPieces : Cond.code yX10_markPieces cX10_markPieces 3 none ∈ GW ∧ Cond.initialized yX10_markPieces.cls ∈ GW ∧ (yX10_markPieces.cls ≠ "java/lang/invoke/MethodHandle" ∧ yX10_markPieces.cls ≠ "java/lang/invoke/VarHandle" ∧ (parseMethodDescriptor yX10_markPieces.desc).map (fun d => d.parameters.length) = some 1) := ⟨gw792, gw12, by decide, by decide, by decide +kernel⟩
theorem nX10_markLive : Cond.code yX10_markLive cX10_markLive 3 none ∈ GW ∧ Cond.initialized yX10_markLive.cls ∈ GW ∧ (yX10_markLive.cls ≠ "java/lang/invoke/MethodHandle" ∧ yX10_markLive.cls ≠ "java/lang/invoke/VarHandle" ∧ (parseMethodDescriptor yX10_markLive.desc).map (fun d => d.parameters.length) = some 1) := ⟨gw787, gw12, by decide, by decide, by decide +kernel⟩
theorem nX10_countLive : Cond.code yX10_countLive cX10_countLive 2 (some (.int)) ∈ GW ∧ Cond.initialized yX10_countLive.cls ∈ GW ∧ (yX10_countLive.cls ≠ "java/lang/invoke/MethodHandle" ∧ yX10_countLive.cls ≠ "java/lang/invoke/VarHandle" ∧ (parseMethodDescriptor yX10_countLive.desc).map (fun d => d.parameters.length) = some 1) := ⟨gw783, gw12, by decide, by decide, by decide +kernel⟩
theorem nX10_countLiveBytes : Cond.code yX10_countLiveBytes cX10_countLiveBytes 2 (some (.int)) ∈ GW ∧ Cond.initialized yX10_countLiveBytes.cls ∈ GW ∧ (yX10_countLiveBytes.cls ≠ "java/lang/invoke/MethodHandle" ∧ yX10_countLiveBytes.cls ≠ "java/lang/invoke/VarHandle" ∧ (parseMethodDescriptor yX10_countLiveBytes.desc).map (fun d => d.parameters.length) = some 1) := ⟨gw1037, gw12, by decide, by decide, by decide +kernel⟩
theorem nX10_liveBytes : Cond.code yX10_liveBytes cX10_liveBytes 5 (some (.int)) ∈ GW ∧ Cond.initialized yX10_liveBytes.cls ∈ GW ∧ (yX10_liveBytes.cls ≠ "java/lang/invoke/MethodHandle" ∧ yX10_liveBytes.cls ≠ "java/lang/invoke/VarHandle" ∧ (parseMethodDescriptor yX10_liveBytes.desc).map (fun d => d.parameters.length) = some 2) := ⟨gw857, gw12, by decide, by decide, by decide +kernel⟩
theorem nX10_countLiveIn : Cond.code yX10_countLiveIn cX10_countLiveIn 4 (some (.int)) ∈ GW ∧ Cond.initialized yX10_countLiveIn.cls ∈ GW ∧ (yX10_countLiveIn.cls ≠ "java/lang/invoke/MethodHandle" ∧ yX10_countLiveIn.cls ≠ "java/lang/invoke/VarHandle" ∧ (parseMethodDescriptor yX10_countLiveIn.desc).map (fun d => d.parameters.length) = some 1) := ⟨gw844, gw12, by decide, by decide, by decide +kernel⟩
theorem nX10_lostAt : Cond.code yX10_lostAt cX10_lostAt 4 (some (.int)) ∈ GW ∧ Cond.initialized yX10_lostAt.cls ∈ GW ∧ (yX10_lostAt.cls ≠ "java/lang/invoke/MethodHandle" ∧ yX10_lostAt.cls ≠ "java/lang/invoke/VarHandle" ∧ (parseMethodDescriptor yX10_lostAt.desc).map (fun d => d.parameters.length) = some 1) := ⟨gw990, gw12, by decide, by decide, by decide +kernel⟩
theorem nX10_countBoxesOf : Cond.code yX10_countBoxesOf cX10_countBoxesOf 3 (some (.int)) ∈ GW ∧ Cond.initialized yX10_countBoxesOf.cls ∈ GW ∧ (yX10_countBoxesOf.cls ≠ "java/lang/invoke/MethodHandle" ∧ yX10_countBoxesOf.cls ≠ "java/lang/invoke/VarHandle" ∧ (parseMethodDescriptor yX10_countBoxesOf.desc).map (fun d => d.parameters.length) = some 1) := ⟨gw1092, gw12, by decide, by decide, by decide +kernel⟩
theorem nX10_remember : Cond.code yX10_remember cX10_remember 1 none ∈ GW ∧ Cond.initialized yX10_remember.cls ∈ GW ∧ (yX10_remember.cls ≠ "java/lang/invoke/MethodHandle" ∧ yX10_remember.cls ≠ "java/lang/invoke/VarHandle" ∧ (parseMethodDescriptor yX10_remember.desc).map (fun d => d.parameters.length) = some 0) := ⟨gw1161, gw12, by decide, by decide, by decide +kernel⟩
theorem nX10_goBack : Cond.code yX10_goBack cX10_goBack 3 (some (.boolean)) ∈ GW ∧ Cond.initialized yX10_goBack.cls ∈ GW ∧ (yX10_goBack.cls ≠ "java/lang/invoke/MethodHandle" ∧ yX10_goBack.cls ≠ "java/lang/invoke/VarHandle" ∧ (parseMethodDescriptor yX10_goBack.desc).map (fun d => d.parameters.length) = some 0) := ⟨gw1284, gw12, by decide, by decide, by decide +kernel⟩
theorem nX10_becomes : Cond.code yX10_becomes cX10_becomes 3 none ∈ GW ∧ Cond.initialized yX10_becomes.cls ∈ GW ∧ (yX10_becomes.cls ≠ "java/lang/invoke/MethodHandle" ∧ yX10_becomes.cls ≠ "java/lang/invoke/VarHandle" ∧ (parseMethodDescriptor yX10_becomes.desc).map (fun d => d.parameters.length) = some 1) := ⟨gw1268, gw12, by decide, by decide, by decide +kernel⟩
theorem nX10_freeNumber : Cond.code yX10_freeNumber cX10_freeNumber 1 (some (.int)) ∈ GW ∧ Cond.initialized yX10_freeNumber.cls ∈ GW ∧ (yX10_freeNumber.cls ≠ "java/lang/invoke/MethodHandle" ∧ yX10_freeNumber.cls ≠ "java/lang/invoke/VarHandle" ∧ (parseMethodDescriptor yX10_freeNumber.desc).map (fun d => d.parameters.length) = some 0) := ⟨gw1152, gw12, by decide, by decide, by decide +kernel⟩
theorem nX10_canSave : Cond.code yX10_canSave cX10_canSave 2 (some (.boolean)) ∈ GW ∧ Cond.initialized yX10_canSave.cls ∈ GW ∧ (yX10_canSave.cls ≠ "java/lang/invoke/MethodHandle" ∧ yX10_canSave.cls ≠ "java/lang/invoke/VarHandle" ∧ (parseMethodDescriptor yX10_canSave.desc).map (fun d => d.parameters.length) = some 0) := ⟨gw1148, gw12, by decide, by decide, by decide +kernel⟩
theorem nX10_saveFile : Cond.code yX10_saveFile cX10_saveFile 6 (some (.int)) ∈ GW ∧ Cond.initialized yX10_saveFile.cls ∈ GW ∧ (yX10_saveFile.cls ≠ "java/lang/invoke/MethodHandle" ∧ yX10_saveFile.cls ≠ "java/lang/invoke/VarHandle" ∧ (parseMethodDescriptor yX10_saveFile.desc).map (fun d => d.parameters.length) = some 0) := ⟨gw1157, gw12, by decide, by decide, by decide +kernel⟩
theorem nX10_writePiece : Cond.code yX10_writePiece cX10_writePiece 3 (some (.int)) ∈ GW ∧ Cond.initialized yX10_writePiece.cls ∈ GW ∧ (yX10_writePiece.cls ≠ "java/lang/invoke/MethodHandle" ∧ yX10_writePiece.cls ≠ "java/lang/invoke/VarHandle" ∧ (parseMethodDescriptor yX10_writePiece.desc).map (fun d => d.parameters.length) = some 1) := ⟨gw1222, gw12, by decide, by decide, by decide +kernel⟩
theorem nX10_passDays : Cond.code yX10_passDays cX10_passDays 4 (some (.int)) ∈ GW ∧ Cond.initialized yX10_passDays.cls ∈ GW ∧ (yX10_passDays.cls ≠ "java/lang/invoke/MethodHandle" ∧ yX10_passDays.cls ≠ "java/lang/invoke/VarHandle" ∧ (parseMethodDescriptor yX10_passDays.desc).map (fun d => d.parameters.length) = some 1) := ⟨gw1244, gw12, by decide, by decide, by decide +kernel⟩
theorem nX10_draw : Cond.code yX10_draw cX10_draw 2 (some (.int)) ∈ GW ∧ Cond.initialized yX10_draw.cls ∈ GW ∧ (yX10_draw.cls ≠ "java/lang/invoke/MethodHandle" ∧ yX10_draw.cls ≠ "java/lang/invoke/VarHandle" ∧ (parseMethodDescriptor yX10_draw.desc).map (fun d => d.parameters.length) = some 1) := ⟨gw1257, gw12, by decide, by decide, by decide +kernel⟩
theorem nX10_rotBox : Cond.code yX10_rotBox cX10_rotBox 2 (some (.boolean)) ∈ GW ∧ Cond.initialized yX10_rotBox.cls ∈ GW ∧ (yX10_rotBox.cls ≠ "java/lang/invoke/MethodHandle" ∧ yX10_rotBox.cls ≠ "java/lang/invoke/VarHandle" ∧ (parseMethodDescriptor yX10_rotBox.desc).map (fun d => d.parameters.length) = some 0) := ⟨gw1253, gw12, by decide, by decide, by decide +kernel⟩
theorem nX10_isForCleaning : Cond.code yX10_isForCleaning cX10_isForCleaning 2 (some (.boolean)) ∈ GW ∧ Cond.initialized yX10_isForCleaning.cls ∈ GW ∧ (yX10_isForCleaning.cls ≠ "java/lang/invoke/MethodHandle" ∧ yX10_isForCleaning.cls ≠ "java/lang/invoke/VarHandle" ∧ (parseMethodDescriptor yX10_isForCleaning.desc).map (fun d => d.parameters.length) = some 1) := ⟨gw849, gw12, by decide, by decide, by decide +kernel⟩
theorem nX10_isMarkedForCleaning : Cond.code yX10_isMarkedForCleaning cX10_isMarkedForCleaning 4 (some (.boolean)) ∈ GW ∧ Cond.initialized yX10_isMarkedForCleaning.cls ∈ GW ∧ (yX10_isMarkedForCleaning.cls ≠ "java/lang/invoke/MethodHandle" ∧ yX10_isMarkedForCleaning.cls ≠ "java/lang/invoke/VarHandle" ∧ (parseMethodDescriptor yX10_isMarkedForCleaning.desc).map (fun d => d.parameters.length) = some 1) := ⟨gw853, gw12, by decide, by decide, by decide +kernel⟩
theorem nX10_cleanInto : Cond.code yX10_cleanInto cX10_cleanInto 4 (some (.int)) ∈ GW ∧ Cond.initialized yX10_cleanInto.cls ∈ GW ∧ (yX10_cleanInto.cls ≠ "java/lang/invoke/MethodHandle" ∧ yX10_cleanInto.cls ≠ "java/lang/invoke/VarHandle" ∧ (parseMethodDescriptor yX10_cleanInto.desc).map (fun d => d.parameters.length) = some 1) := ⟨gw1050, gw12, by decide, by decide, by decide +kernel⟩
theorem nX10_copyBox : Cond.code yX10_copyBox cX10_copyBox 4 none ∈ GW ∧ Cond.initialized yX10_copyBox.cls ∈ GW ∧ (yX10_copyBox.cls ≠ "java/lang/invoke/MethodHandle" ∧ yX10_copyBox.cls ≠ "java/lang/invoke/VarHandle" ∧ (parseMethodDescriptor yX10_copyBox.desc).map (fun d => d.parameters.length) = some 2) := ⟨gw1061, gw12, by decide, by decide, by decide +kernel⟩
theorem nX10_moveLive : Cond.code yX10_moveLive cX10_moveLive 4 none ∈ GW ∧ Cond.initialized yX10_moveLive.cls ∈ GW ∧ (yX10_moveLive.cls ≠ "java/lang/invoke/MethodHandle" ∧ yX10_moveLive.cls ≠ "java/lang/invoke/VarHandle" ∧ (parseMethodDescriptor yX10_moveLive.desc).map (fun d => d.parameters.length) = some 2) := ⟨gw1075, gw12, by decide, by decide, by decide +kernel⟩
theorem nX7_init : Cond.code yX7_init cX7_init 1 none ∈ GW ∧ Cond.initialized yX7_init.cls ∈ GW ∧ (yX7_init.cls ≠ "java/lang/invoke/MethodHandle" ∧ yX7_init.cls ≠ "java/lang/invoke/VarHandle" ∧ (parseMethodDescriptor yX7_init.desc).map (fun d => d.parameters.length) = some 0) := ⟨gw298, gw16, by decide, by decide, by decide +kernel⟩
theorem nX7_saveSegment : Cond.code yX7_saveSegment cX7_saveSegment 8 none ∈ GW ∧ Cond.initialized yX7_saveSegment.cls ∈ GW ∧ (yX7_saveSegment.cls ≠ "java/lang/invoke/MethodHandle" ∧ yX7_saveSegment.cls ≠ "java/lang/invoke/VarHandle" ∧ (parseMethodDescriptor yX7_saveSegment.desc).map (fun d => d.parameters.length) = some 3) := ⟨gw1172, gw16, by decide, by decide, by decide +kernel⟩
theorem nX7_readPieces : Cond.code yX7_readPieces cX7_readPieces 8 none ∈ GW ∧ Cond.initialized yX7_readPieces.cls ∈ GW ∧ (yX7_readPieces.cls ≠ "java/lang/invoke/MethodHandle" ∧ yX7_readPieces.cls ≠ "java/lang/invoke/VarHandle" ∧ (parseMethodDescriptor yX7_readPieces.desc).map (fun d => d.parameters.length) = some 3) := ⟨gw1177, gw16, by decide, by decide, by decide +kernel⟩
theorem nX7_readHooks : Cond.code yX7_readHooks cX7_readHooks 4 none ∈ GW ∧ Cond.initialized yX7_readHooks.cls ∈ GW ∧ (yX7_readHooks.cls ≠ "java/lang/invoke/MethodHandle" ∧ yX7_readHooks.cls ≠ "java/lang/invoke/VarHandle" ∧ (parseMethodDescriptor yX7_readHooks.desc).map (fun d => d.parameters.length) = some 1) := ⟨gw1197, gw16, by decide, by decide, by decide +kernel⟩
theorem nX7_findChampions : Cond.code yX7_findChampions cX7_findChampions 4 none ∈ GW ∧ Cond.initialized yX7_findChampions.cls ∈ GW ∧ (yX7_findChampions.cls ≠ "java/lang/invoke/MethodHandle" ∧ yX7_findChampions.cls ≠ "java/lang/invoke/VarHandle" ∧ (parseMethodDescriptor yX7_findChampions.desc).map (fun d => d.parameters.length) = some 1) := ⟨gw1203, gw16, by decide, by decide, by decide +kernel⟩
theorem nX7_nextChampion : Cond.code yX7_nextChampion cX7_nextChampion 6 (some (.int)) ∈ GW ∧ Cond.initialized yX7_nextChampion.cls ∈ GW ∧ (yX7_nextChampion.cls ≠ "java/lang/invoke/MethodHandle" ∧ yX7_nextChampion.cls ≠ "java/lang/invoke/VarHandle" ∧ (parseMethodDescriptor yX7_nextChampion.desc).map (fun d => d.parameters.length) = some 0) := ⟨gw1207, gw16, by decide, by decide, by decide +kernel⟩
theorem nX7_countHooks : Cond.code yX7_countHooks cX7_countHooks 4 (some (.int)) ∈ GW ∧ Cond.initialized yX7_countHooks.cls ∈ GW ∧ (yX7_countHooks.cls ≠ "java/lang/invoke/MethodHandle" ∧ yX7_countHooks.cls ≠ "java/lang/invoke/VarHandle" ∧ (parseMethodDescriptor yX7_countHooks.desc).map (fun d => d.parameters.length) = some 1) := ⟨gw1211, gw16, by decide, by decide, by decide +kernel⟩
theorem nX7_pieceHad : Cond.code yX7_pieceHad cX7_pieceHad 8 (some (.int)) ∈ GW ∧ Cond.initialized yX7_pieceHad.cls ∈ GW ∧ (yX7_pieceHad.cls ≠ "java/lang/invoke/MethodHandle" ∧ yX7_pieceHad.cls ≠ "java/lang/invoke/VarHandle" ∧ (parseMethodDescriptor yX7_pieceHad.desc).map (fun d => d.parameters.length) = some 3) := ⟨gw1215, gw16, by decide, by decide, by decide +kernel⟩
theorem nX7_pieceAmong : Cond.code yX7_pieceAmong cX7_pieceAmong 6 (some (.int)) ∈ GW ∧ Cond.initialized yX7_pieceAmong.cls ∈ GW ∧ (yX7_pieceAmong.cls ≠ "java/lang/invoke/MethodHandle" ∧ yX7_pieceAmong.cls ≠ "java/lang/invoke/VarHandle" ∧ (parseMethodDescriptor yX7_pieceAmong.desc).map (fun d => d.parameters.length) = some 4) := ⟨gw1218, gw16, by decide, by decide, by decide +kernel⟩
theorem nX7_tellHooks : Cond.code yX7_tellHooks cX7_tellHooks 7 none ∈ GW ∧ Cond.initialized yX7_tellHooks.cls ∈ GW ∧ (yX7_tellHooks.cls ≠ "java/lang/invoke/MethodHandle" ∧ yX7_tellHooks.cls ≠ "java/lang/invoke/VarHandle" ∧ (parseMethodDescriptor yX7_tellHooks.desc).map (fun d => d.parameters.length) = some 3) := ⟨gw1226, gw16, by decide, by decide, by decide +kernel⟩
theorem nX7_untell : Cond.code yX7_untell cX7_untell 4 none ∈ GW ∧ Cond.initialized yX7_untell.cls ∈ GW ∧ (yX7_untell.cls ≠ "java/lang/invoke/MethodHandle" ∧ yX7_untell.cls ≠ "java/lang/invoke/VarHandle" ∧ (parseMethodDescriptor yX7_untell.desc).map (fun d => d.parameters.length) = some 2) := ⟨gw1288, gw16, by decide, by decide, by decide +kernel⟩
theorem nX2_init : Cond.code yX2_init cX2_init 1 none ∈ GW ∧ Cond.initialized yX2_init.cls ∈ GW ∧ (yX2_init.cls ≠ "java/lang/invoke/MethodHandle" ∧ yX2_init.cls ≠ "java/lang/invoke/VarHandle" ∧ (parseMethodDescriptor yX2_init.desc).map (fun d => d.parameters.length) = some 0) := ⟨gw515, gw18, by decide, by decide, by decide +kernel⟩
theorem nX2_visit : Cond.code yX2_visit cX2_visit 4 none ∈ GW ∧ Cond.initialized yX2_visit.cls ∈ GW ∧ (yX2_visit.cls ≠ "java/lang/invoke/MethodHandle" ∧ yX2_visit.cls ≠ "java/lang/invoke/VarHandle" ∧ (parseMethodDescriptor yX2_visit.desc).map (fun d => d.parameters.length) = some 2) := ⟨gw998, gw18, by decide, by decide, by decide +kernel⟩
theorem nX2_count : Cond.code yX2_count cX2_count 6 (some (.int)) ∈ GW ∧ Cond.initialized yX2_count.cls ∈ GW ∧ (yX2_count.cls ≠ "java/lang/invoke/MethodHandle" ∧ yX2_count.cls ≠ "java/lang/invoke/VarHandle" ∧ (parseMethodDescriptor yX2_count.desc).map (fun d => d.parameters.length) = some 2) := ⟨gw1006, gw18, by decide, by decide, by decide +kernel⟩
theorem nX2_freePlace : Cond.code yX2_freePlace cX2_freePlace 1 (some (.int)) ∈ GW ∧ Cond.initialized yX2_freePlace.cls ∈ GW ∧ (yX2_freePlace.cls ≠ "java/lang/invoke/MethodHandle" ∧ yX2_freePlace.cls ≠ "java/lang/invoke/VarHandle" ∧ (parseMethodDescriptor yX2_freePlace.desc).map (fun d => d.parameters.length) = some 0) := ⟨gw1012, gw18, by decide, by decide, by decide +kernel⟩
theorem nX2_placeToClear : Cond.code yX2_placeToClear cX2_placeToClear 6 (some (.int)) ∈ GW ∧ Cond.initialized yX2_placeToClear.cls ∈ GW ∧ (yX2_placeToClear.cls ≠ "java/lang/invoke/MethodHandle" ∧ yX2_placeToClear.cls ≠ "java/lang/invoke/VarHandle" ∧ (parseMethodDescriptor yX2_placeToClear.desc).map (fun d => d.parameters.length) = some 2) := ⟨gw1016, gw18, by decide, by decide, by decide +kernel⟩
theorem nX2_isLater : Cond.code yX2_isLater cX2_isLater 6 (some (.boolean)) ∈ GW ∧ Cond.initialized yX2_isLater.cls ∈ GW ∧ (yX2_isLater.cls ≠ "java/lang/invoke/MethodHandle" ∧ yX2_isLater.cls ≠ "java/lang/invoke/VarHandle" ∧ (parseMethodDescriptor yX2_isLater.desc).map (fun d => d.parameters.length) = some 3) := ⟨gw1020, gw18, by decide, by decide, by decide +kernel⟩
theorem nX2_nextVisit : Cond.code yX2_nextVisit cX2_nextVisit 4 (some (.int)) ∈ GW ∧ Cond.initialized yX2_nextVisit.cls ∈ GW ∧ (yX2_nextVisit.cls ≠ "java/lang/invoke/MethodHandle" ∧ yX2_nextVisit.cls ≠ "java/lang/invoke/VarHandle" ∧ (parseMethodDescriptor yX2_nextVisit.desc).map (fun d => d.parameters.length) = some 2) := ⟨gw1024, gw18, by decide, by decide, by decide +kernel⟩
theorem nX8_init : Cond.code yX8_init cX8_init 1 none ∈ GW ∧ Cond.initialized yX8_init.cls ∈ GW ∧ (yX8_init.cls ≠ "java/lang/invoke/MethodHandle" ∧ yX8_init.cls ≠ "java/lang/invoke/VarHandle" ∧ (parseMethodDescriptor yX8_init.desc).map (fun d => d.parameters.length) = some 0) := ⟨gw533, gw19, by decide, by decide, by decide +kernel⟩
theorem nX8_meetRows : Cond.code yX8_meetRows cX8_meetRows 3 (some (.boolean)) ∈ GW ∧ Cond.initialized yX8_meetRows.cls ∈ GW ∧ (yX8_meetRows.cls ≠ "java/lang/invoke/MethodHandle" ∧ yX8_meetRows.cls ≠ "java/lang/invoke/VarHandle" ∧ (parseMethodDescriptor yX8_meetRows.desc).map (fun d => d.parameters.length) = some 1) := ⟨gw1100, gw19, by decide, by decide, by decide +kernel⟩
theorem nX8_windowsLeft : Cond.code yX8_windowsLeft cX8_windowsLeft 6 (some (.int)) ∈ GW ∧ Cond.initialized yX8_windowsLeft.cls ∈ GW ∧ (yX8_windowsLeft.cls ≠ "java/lang/invoke/MethodHandle" ∧ yX8_windowsLeft.cls ≠ "java/lang/invoke/VarHandle" ∧ (parseMethodDescriptor yX8_windowsLeft.desc).map (fun d => d.parameters.length) = some 2) := ⟨gw1111, gw19, by decide, by decide, by decide +kernel⟩
theorem nX8_lengthBy : Cond.code yX8_lengthBy cX8_lengthBy 3 (some (.int)) ∈ GW ∧ Cond.initialized yX8_lengthBy.cls ∈ GW ∧ (yX8_lengthBy.cls ≠ "java/lang/invoke/MethodHandle" ∧ yX8_lengthBy.cls ≠ "java/lang/invoke/VarHandle" ∧ (parseMethodDescriptor yX8_lengthBy.desc).map (fun d => d.parameters.length) = some 2) := ⟨gw1124, gw19, by decide, by decide, by decide +kernel⟩
theorem nX8_isMet : Cond.code yX8_isMet cX8_isMet 3 (some (.boolean)) ∈ GW ∧ Cond.initialized yX8_isMet.cls ∈ GW ∧ (yX8_isMet.cls ≠ "java/lang/invoke/MethodHandle" ∧ yX8_isMet.cls ≠ "java/lang/invoke/VarHandle" ∧ (parseMethodDescriptor yX8_isMet.desc).map (fun d => d.parameters.length) = some 1) := ⟨gw1120, gw19, by decide, by decide, by decide +kernel⟩
theorem nX8_telling : Cond.code yX8_telling cX8_telling 6 (some (.int)) ∈ GW ∧ Cond.initialized yX8_telling.cls ∈ GW ∧ (yX8_telling.cls ≠ "java/lang/invoke/MethodHandle" ∧ yX8_telling.cls ≠ "java/lang/invoke/VarHandle" ∧ (parseMethodDescriptor yX8_telling.desc).map (fun d => d.parameters.length) = some 1) := ⟨gw1132, gw19, by decide, by decide, by decide +kernel⟩
theorem nX8_worstBy : Cond.code yX8_worstBy cX8_worstBy 6 (some (.int)) ∈ GW ∧ Cond.initialized yX8_worstBy.cls ∈ GW ∧ (yX8_worstBy.cls ≠ "java/lang/invoke/MethodHandle" ∧ yX8_worstBy.cls ≠ "java/lang/invoke/VarHandle" ∧ (parseMethodDescriptor yX8_worstBy.desc).map (fun d => d.parameters.length) = some 2) := ⟨gw1136, gw19, by decide, by decide, by decide +kernel⟩
theorem nX12_init : Cond.code yX12_init cX12_init 2 none ∈ GW ∧ Cond.initialized yX12_init.cls ∈ GW ∧ (yX12_init.cls ≠ "java/lang/invoke/MethodHandle" ∧ yX12_init.cls ≠ "java/lang/invoke/VarHandle" ∧ (parseMethodDescriptor yX12_init.desc).map (fun d => d.parameters.length) = some 0) := ⟨gw1308, gw20, by decide, by decide, by decide +kernel⟩
theorem nX12_is : Cond.code yX12_is cX12_is 3 (some (.boolean)) ∈ GW ∧ Cond.initialized yX12_is.cls ∈ GW ∧ (yX12_is.cls ≠ "java/lang/invoke/MethodHandle" ∧ yX12_is.cls ≠ "java/lang/invoke/VarHandle" ∧ (parseMethodDescriptor yX12_is.desc).map (fun d => d.parameters.length) = some 3) := ⟨gw1591, gw20, by decide, by decide, by decide +kernel⟩
theorem nX12_put : Cond.code yX12_put cX12_put 3 none ∈ GW ∧ Cond.initialized yX12_put.cls ∈ GW ∧ (yX12_put.cls ≠ "java/lang/invoke/MethodHandle" ∧ yX12_put.cls ≠ "java/lang/invoke/VarHandle" ∧ (parseMethodDescriptor yX12_put.desc).map (fun d => d.parameters.length) = some 1) := ⟨gw1537, gw20, by decide, by decide, by decide +kernel⟩
theorem nX12_feed : Cond.code yX12_feed cX12_feed 6 (some (.int)) ∈ GW ∧ Cond.initialized yX12_feed.cls ∈ GW ∧ (yX12_feed.cls ≠ "java/lang/invoke/MethodHandle" ∧ yX12_feed.cls ≠ "java/lang/invoke/VarHandle" ∧ (parseMethodDescriptor yX12_feed.desc).map (fun d => d.parameters.length) = some 5) := ⟨gw1529, gw20, by decide, by decide, by decide +kernel⟩
theorem nX12_end : Cond.code yX12_end cX12_end 2 (some (.boolean)) ∈ GW ∧ Cond.initialized yX12_end.cls ∈ GW ∧ (yX12_end.cls ≠ "java/lang/invoke/MethodHandle" ∧ yX12_end.cls ≠ "java/lang/invoke/VarHandle" ∧ (parseMethodDescriptor yX12_end.desc).map (fun d => d.parameters.length) = some 1) := ⟨gw1541, gw20, by decide, by decide, by decide +kernel⟩
theorem nX12_blame : Cond.code yX12_blame cX12_blame 3 none ∈ GW ∧ Cond.initialized yX12_blame.cls ∈ GW ∧ (yX12_blame.cls ≠ "java/lang/invoke/MethodHandle" ∧ yX12_blame.cls ≠ "java/lang/invoke/VarHandle" ∧ (parseMethodDescriptor yX12_blame.desc).map (fun d => d.parameters.length) = some 2) := ⟨gw1580, gw20, by decide, by decide, by decide +kernel⟩
theorem nX12_isLetter : Cond.code yX12_isLetter cX12_isLetter 1 (some (.boolean)) ∈ GW ∧ Cond.initialized yX12_isLetter.cls ∈ GW ∧ (yX12_isLetter.cls ≠ "java/lang/invoke/MethodHandle" ∧ yX12_isLetter.cls ≠ "java/lang/invoke/VarHandle" ∧ (parseMethodDescriptor yX12_isLetter.desc).map (fun d => d.parameters.length) = some 1) := ⟨gw1560, gw20, by decide, by decide, by decide +kernel⟩
theorem nX12_isDigit : Cond.code yX12_isDigit cX12_isDigit 1 (some (.boolean)) ∈ GW ∧ Cond.initialized yX12_isDigit.cls ∈ GW ∧ (yX12_isDigit.cls ≠ "java/lang/invoke/MethodHandle" ∧ yX12_isDigit.cls ≠ "java/lang/invoke/VarHandle" ∧ (parseMethodDescriptor yX12_isDigit.desc).map (fun d => d.parameters.length) = some 1) := ⟨gw1563, gw20, by decide, by decide, by decide +kernel⟩
theorem nX12_lex : Cond.code yX12_lex cX12_lex 1 none ∈ GW ∧ Cond.initialized yX12_lex.cls ∈ GW ∧ (yX12_lex.cls ≠ "java/lang/invoke/MethodHandle" ∧ yX12_lex.cls ≠ "java/lang/invoke/VarHandle" ∧ (parseMethodDescriptor yX12_lex.desc).map (fun d => d.parameters.length) = some 0) := ⟨gw1576, gw20, by decide, by decide, by decide +kernel⟩
theorem nX12_ahead : Cond.code yX12_ahead cX12_ahead 6 none ∈ GW ∧ Cond.initialized yX12_ahead.cls ∈ GW ∧ (yX12_ahead.cls ≠ "java/lang/invoke/MethodHandle" ∧ yX12_ahead.cls ≠ "java/lang/invoke/VarHandle" ∧ (parseMethodDescriptor yX12_ahead.desc).map (fun d => d.parameters.length) = some 0) := ⟨gw1557, gw20, by decide, by decide, by decide +kernel⟩
theorem nX12_isSign : Cond.code yX12_isSign cX12_isSign 2 (some (.boolean)) ∈ GW ∧ Cond.initialized yX12_isSign.cls ∈ GW ∧ (yX12_isSign.cls ≠ "java/lang/invoke/MethodHandle" ∧ yX12_isSign.cls ≠ "java/lang/invoke/VarHandle" ∧ (parseMethodDescriptor yX12_isSign.desc).map (fun d => d.parameters.length) = some 1) := ⟨gw1599, gw20, by decide, by decide, by decide +kernel⟩
theorem nX12_isWord : Cond.code yX12_isWord cX12_isWord 3 (some (.boolean)) ∈ GW ∧ Cond.initialized yX12_isWord.cls ∈ GW ∧ (yX12_isWord.cls ≠ "java/lang/invoke/MethodHandle" ∧ yX12_isWord.cls ≠ "java/lang/invoke/VarHandle" ∧ (parseMethodDescriptor yX12_isWord.desc).map (fun d => d.parameters.length) = some 1) := ⟨gw1584, gw20, by decide, by decide, by decide +kernel⟩
theorem nX12_must : Cond.code yX12_must cX12_must 2 none ∈ GW ∧ Cond.initialized yX12_must.cls ∈ GW ∧ (yX12_must.cls ≠ "java/lang/invoke/MethodHandle" ∧ yX12_must.cls ≠ "java/lang/invoke/VarHandle" ∧ (parseMethodDescriptor yX12_must.desc).map (fun d => d.parameters.length) = some 1) := ⟨gw1603, gw20, by decide, by decide, by decide +kernel⟩
theorem nX12_number : Cond.code yX12_number cX12_number 4 (some (.int)) ∈ GW ∧ Cond.initialized yX12_number.cls ∈ GW ∧ (yX12_number.cls ≠ "java/lang/invoke/MethodHandle" ∧ yX12_number.cls ≠ "java/lang/invoke/VarHandle" ∧ (parseMethodDescriptor yX12_number.desc).map (fun d => d.parameters.length) = some 2) := ⟨gw1588, gw20, by decide, by decide, by decide +kernel⟩
theorem nX12_add : Cond.code yX12_add cX12_add 3 none ∈ GW ∧ Cond.initialized yX12_add.cls ∈ GW ∧ (yX12_add.cls ≠ "java/lang/invoke/MethodHandle" ∧ yX12_add.cls ≠ "java/lang/invoke/VarHandle" ∧ (parseMethodDescriptor yX12_add.desc).map (fun d => d.parameters.length) = some 2) := ⟨gw1658, gw20, by decide, by decide, by decide +kernel⟩
theorem nX12_rank : Cond.code yX12_rank cX12_rank 1 (some (.int)) ∈ GW ∧ Cond.initialized yX12_rank.cls ∈ GW ∧ (yX12_rank.cls ≠ "java/lang/invoke/MethodHandle" ∧ yX12_rank.cls ≠ "java/lang/invoke/VarHandle" ∧ (parseMethodDescriptor yX12_rank.desc).map (fun d => d.parameters.length) = some 1) := ⟨gw1681, gw20, by decide, by decide, by decide +kernel⟩
theorem nX12_joins : Cond.code yX12_joins cX12_joins 2 none ∈ GW ∧ Cond.initialized yX12_joins.cls ∈ GW ∧ (yX12_joins.cls ≠ "java/lang/invoke/MethodHandle" ∧ yX12_joins.cls ≠ "java/lang/invoke/VarHandle" ∧ (parseMethodDescriptor yX12_joins.desc).map (fun d => d.parameters.length) = some 1) := ⟨gw1678, gw20, by decide, by decide, by decide +kernel⟩
theorem nX12_holdsBack : Cond.code yX12_holdsBack cX12_holdsBack 2 none ∈ GW ∧ Cond.initialized yX12_holdsBack.cls ∈ GW ∧ (yX12_holdsBack.cls ≠ "java/lang/invoke/MethodHandle" ∧ yX12_holdsBack.cls ≠ "java/lang/invoke/VarHandle" ∧ (parseMethodDescriptor yX12_holdsBack.desc).map (fun d => d.parameters.length) = some 1) := ⟨gw1649, gw20, by decide, by decide, by decide +kernel⟩
theorem nX12_pushes : Cond.code yX12_pushes cX12_pushes 2 none ∈ GW ∧ Cond.initialized yX12_pushes.cls ∈ GW ∧ (yX12_pushes.cls ≠ "java/lang/invoke/MethodHandle" ∧ yX12_pushes.cls ≠ "java/lang/invoke/VarHandle" ∧ (parseMethodDescriptor yX12_pushes.desc).map (fun d => d.parameters.length) = some 1) := ⟨gw1637, gw20, by decide, by decide, by decide +kernel⟩
theorem nX12_opens : Cond.code yX12_opens cX12_opens 2 none ∈ GW ∧ Cond.initialized yX12_opens.cls ∈ GW ∧ (yX12_opens.cls ≠ "java/lang/invoke/MethodHandle" ∧ yX12_opens.cls ≠ "java/lang/invoke/VarHandle" ∧ (parseMethodDescriptor yX12_opens.desc).map (fun d => d.parameters.length) = some 1) := ⟨gw1653, gw20, by decide, by decide, by decide +kernel⟩
theorem nX12_isTest : Cond.code yX12_isTest cX12_isTest 1 (some (.boolean)) ∈ GW ∧ Cond.initialized yX12_isTest.cls ∈ GW ∧ (yX12_isTest.cls ≠ "java/lang/invoke/MethodHandle" ∧ yX12_isTest.cls ≠ "java/lang/invoke/VarHandle" ∧ (parseMethodDescriptor yX12_isTest.desc).map (fun d => d.parameters.length) = some 1) := ⟨gw1644, gw20, by decide, by decide, by decide +kernel⟩
theorem nX12_operand : Cond.code yX12_operand cX12_operand 4 (some (.boolean)) ∈ GW ∧ Cond.initialized yX12_operand.cls ∈ GW ∧ (yX12_operand.cls ≠ "java/lang/invoke/MethodHandle" ∧ yX12_operand.cls ≠ "java/lang/invoke/VarHandle" ∧ (parseMethodDescriptor yX12_operand.desc).map (fun d => d.parameters.length) = some 0) := ⟨gw1641, gw20, by decide, by decide, by decide +kernel⟩
theorem nX12_goesOn : Cond.code yX12_goesOn cX12_goesOn 5 (some (.boolean)) ∈ GW ∧ Cond.initialized yX12_goesOn.cls ∈ GW ∧ (yX12_goesOn.cls ≠ "java/lang/invoke/MethodHandle" ∧ yX12_goesOn.cls ≠ "java/lang/invoke/VarHandle" ∧ (parseMethodDescriptor yX12_goesOn.desc).map (fun d => d.parameters.length) = some 0) := ⟨gw1674, gw20, by decide, by decide, by decide +kernel⟩
theorem nX12_reads : Cond.code yX12_reads cX12_reads 3 none ∈ GW ∧ Cond.initialized yX12_reads.cls ∈ GW ∧ (yX12_reads.cls ≠ "java/lang/invoke/MethodHandle" ∧ yX12_reads.cls ≠ "java/lang/invoke/VarHandle" ∧ (parseMethodDescriptor yX12_reads.desc).map (fun d => d.parameters.length) = some 1) := ⟨gw1633, gw20, by decide, by decide, by decide +kernel⟩
theorem nX12_isCounted : Cond.code yX12_isCounted cX12_isCounted 2 (some (.boolean)) ∈ GW ∧ Cond.initialized yX12_isCounted.cls ∈ GW ∧ (yX12_isCounted.cls ≠ "java/lang/invoke/MethodHandle" ∧ yX12_isCounted.cls ≠ "java/lang/invoke/VarHandle" ∧ (parseMethodDescriptor yX12_isCounted.desc).map (fun d => d.parameters.length) = some 1) := ⟨gw1616, gw20, by decide, by decide, by decide +kernel⟩
theorem nX12_mustWord : Cond.code yX12_mustWord cX12_mustWord 3 none ∈ GW ∧ Cond.initialized yX12_mustWord.cls ∈ GW ∧ (yX12_mustWord.cls ≠ "java/lang/invoke/MethodHandle" ∧ yX12_mustWord.cls ≠ "java/lang/invoke/VarHandle" ∧ (parseMethodDescriptor yX12_mustWord.desc).map (fun d => d.parameters.length) = some 1) := ⟨gw1572, gw20, by decide, by decide, by decide +kernel⟩
theorem nX12_boxing : Cond.code yX12_boxing cX12_boxing 1 none ∈ GW ∧ Cond.initialized yX12_boxing.cls ∈ GW ∧ (yX12_boxing.cls ≠ "java/lang/invoke/MethodHandle" ∧ yX12_boxing.cls ≠ "java/lang/invoke/VarHandle" ∧ (parseMethodDescriptor yX12_boxing.desc).map (fun d => d.parameters.length) = some 0) := ⟨gw1567, gw20, by decide, by decide, by decide +kernel⟩
theorem nX12_telling : Cond.code yX12_telling cX12_telling 5 none ∈ GW ∧ Cond.initialized yX12_telling.cls ∈ GW ∧ (yX12_telling.cls ≠ "java/lang/invoke/MethodHandle" ∧ yX12_telling.cls ≠ "java/lang/invoke/VarHandle" ∧ (parseMethodDescriptor yX12_telling.desc).map (fun d => d.parameters.length) = some 3) := ⟨gw1612, gw20, by decide, by decide, by decide +kernel⟩
theorem nX12_reading : Cond.code yX12_reading cX12_reading 3 none ∈ GW ∧ Cond.initialized yX12_reading.cls ∈ GW ∧ (yX12_reading.cls ≠ "java/lang/invoke/MethodHandle" ∧ yX12_reading.cls ≠ "java/lang/invoke/VarHandle" ∧ (parseMethodDescriptor yX12_reading.desc).map (fun d => d.parameters.length) = some 1) := ⟨gw1629, gw20, by decide, by decide, by decide +kernel⟩
theorem nX12_statement : Cond.code yX12_statement cX12_statement 1 none ∈ GW ∧ Cond.initialized yX12_statement.cls ∈ GW ∧ (yX12_statement.cls ≠ "java/lang/invoke/MethodHandle" ∧ yX12_statement.cls ≠ "java/lang/invoke/VarHandle" ∧ (parseMethodDescriptor yX12_statement.desc).map (fun d => d.parameters.length) = some 0) := ⟨gw1607, gw20, by decide, by decide, by decide +kernel⟩
theorem nX12_finishes : Cond.code yX12_finishes cX12_finishes 3 none ∈ GW ∧ Cond.initialized yX12_finishes.cls ∈ GW ∧ (yX12_finishes.cls ≠ "java/lang/invoke/MethodHandle" ∧ yX12_finishes.cls ≠ "java/lang/invoke/VarHandle" ∧ (parseMethodDescriptor yX12_finishes.desc).map (fun d => d.parameters.length) = some 1) := ⟨gw1595, gw20, by decide, by decide, by decide +kernel⟩
theorem nX12_tellsAt : Cond.code yX12_tellsAt cX12_tellsAt 3 none ∈ GW ∧ Cond.initialized yX12_tellsAt.cls ∈ GW ∧ (yX12_tellsAt.cls ≠ "java/lang/invoke/MethodHandle" ∧ yX12_tellsAt.cls ≠ "java/lang/invoke/VarHandle" ∧ (parseMethodDescriptor yX12_tellsAt.desc).map (fun d => d.parameters.length) = some 2) := ⟨gw1553, gw20, by decide, by decide, by decide +kernel⟩
theorem nX12_store : Cond.code yX12_store cX12_store 2 (some (.int)) ∈ GW ∧ Cond.initialized yX12_store.cls ∈ GW ∧ (yX12_store.cls ≠ "java/lang/invoke/MethodHandle" ∧ yX12_store.cls ≠ "java/lang/invoke/VarHandle" ∧ (parseMethodDescriptor yX12_store.desc).map (fun d => d.parameters.length) = some 0) := ⟨gw1545, gw20, by decide, by decide, by decide +kernel⟩
theorem nX12_tellsUsual : Cond.code yX12_tellsUsual cX12_tellsUsual 1 none ∈ GW ∧ Cond.initialized yX12_tellsUsual.cls ∈ GW ∧ (yX12_tellsUsual.cls ≠ "java/lang/invoke/MethodHandle" ∧ yX12_tellsUsual.cls ≠ "java/lang/invoke/VarHandle" ∧ (parseMethodDescriptor yX12_tellsUsual.desc).map (fun d => d.parameters.length) = some 0) := ⟨gw1549, gw20, by decide, by decide, by decide +kernel⟩
theorem nX12_by : Cond.code yX12_by cX12_by 2 (some (.int)) ∈ GW ∧ Cond.initialized yX12_by.cls ∈ GW ∧ (yX12_by.cls ≠ "java/lang/invoke/MethodHandle" ∧ yX12_by.cls ≠ "java/lang/invoke/VarHandle" ∧ (parseMethodDescriptor yX12_by.desc).map (fun d => d.parameters.length) = some 1) := ⟨gw1717, gw20, by decide, by decide, by decide +kernel⟩
theorem nX12_fault : Cond.code yX12_fault cX12_fault 2 (some (.int)) ∈ GW ∧ Cond.initialized yX12_fault.cls ∈ GW ∧ (yX12_fault.cls ≠ "java/lang/invoke/MethodHandle" ∧ yX12_fault.cls ≠ "java/lang/invoke/VarHandle" ∧ (parseMethodDescriptor yX12_fault.desc).map (fun d => d.parameters.length) = some 1) := ⟨gw1689, gw20, by decide, by decide, by decide +kernel⟩
theorem nX12_refuses : Cond.code yX12_refuses cX12_refuses 2 (some (.int)) ∈ GW ∧ Cond.initialized yX12_refuses.cls ∈ GW ∧ (yX12_refuses.cls ≠ "java/lang/invoke/MethodHandle" ∧ yX12_refuses.cls ≠ "java/lang/invoke/VarHandle" ∧ (parseMethodDescriptor yX12_refuses.desc).map (fun d => d.parameters.length) = some 1) := ⟨gw1533, gw20, by decide, by decide, by decide +kernel⟩
theorem nX12_status : Cond.code yX12_status cX12_status 2 (some (.int)) ∈ GW ∧ Cond.initialized yX12_status.cls ∈ GW ∧ (yX12_status.cls ≠ "java/lang/invoke/MethodHandle" ∧ yX12_status.cls ≠ "java/lang/invoke/VarHandle" ∧ (parseMethodDescriptor yX12_status.desc).map (fun d => d.parameters.length) = some 1) := ⟨gw1693, gw20, by decide, by decide, by decide +kernel⟩
theorem nX12_puts : Cond.code yX12_puts cX12_puts 3 none ∈ GW ∧ Cond.initialized yX12_puts.cls ∈ GW ∧ (yX12_puts.cls ≠ "java/lang/invoke/MethodHandle" ∧ yX12_puts.cls ≠ "java/lang/invoke/VarHandle" ∧ (parseMethodDescriptor yX12_puts.desc).map (fun d => d.parameters.length) = some 2) := ⟨gw1819, gw20, by decide, by decide, by decide +kernel⟩
theorem nX12_takesBack : Cond.code yX12_takesBack cX12_takesBack 2 none ∈ GW ∧ Cond.initialized yX12_takesBack.cls ∈ GW ∧ (yX12_takesBack.cls ≠ "java/lang/invoke/MethodHandle" ∧ yX12_takesBack.cls ≠ "java/lang/invoke/VarHandle" ∧ (parseMethodDescriptor yX12_takesBack.desc).map (fun d => d.parameters.length) = some 1) := ⟨gw1701, gw20, by decide, by decide, by decide +kernel⟩
theorem nX12_resets : Cond.code yX12_resets cX12_resets 2 none ∈ GW ∧ Cond.initialized yX12_resets.cls ∈ GW ∧ (yX12_resets.cls ≠ "java/lang/invoke/MethodHandle" ∧ yX12_resets.cls ≠ "java/lang/invoke/VarHandle" ∧ (parseMethodDescriptor yX12_resets.desc).map (fun d => d.parameters.length) = some 0) := ⟨gw1315, gw20, by decide, by decide, by decide +kernel⟩
theorem nX12_keeps : Cond.code yX12_keeps cX12_keeps 3 none ∈ GW ∧ Cond.initialized yX12_keeps.cls ∈ GW ∧ (yX12_keeps.cls ≠ "java/lang/invoke/MethodHandle" ∧ yX12_keeps.cls ≠ "java/lang/invoke/VarHandle" ∧ (parseMethodDescriptor yX12_keeps.desc).map (fun d => d.parameters.length) = some 0) := ⟨gw1760, gw20, by decide, by decide, by decide +kernel⟩
theorem nX12_undo : Cond.code yX12_undo cX12_undo 1 (some (.boolean)) ∈ GW ∧ Cond.initialized yX12_undo.cls ∈ GW ∧ (yX12_undo.cls ≠ "java/lang/invoke/MethodHandle" ∧ yX12_undo.cls ≠ "java/lang/invoke/VarHandle" ∧ (parseMethodDescriptor yX12_undo.desc).map (fun d => d.parameters.length) = some 0) := ⟨gw1697, gw20, by decide, by decide, by decide +kernel⟩
theorem nX12_within : Cond.code yX12_within cX12_within 2 (some (.long)) ∈ GW ∧ Cond.initialized yX12_within.cls ∈ GW ∧ (yX12_within.cls ≠ "java/lang/invoke/MethodHandle" ∧ yX12_within.cls ≠ "java/lang/invoke/VarHandle" ∧ (parseMethodDescriptor yX12_within.desc).map (fun d => d.parameters.length) = some 1) := ⟨gw1743, gw20, by decide, by decide, by decide +kernel⟩
theorem nX12_floor : Cond.code yX12_floor cX12_floor 6 (some (.long)) ∈ GW ∧ Cond.initialized yX12_floor.cls ∈ GW ∧ (yX12_floor.cls ≠ "java/lang/invoke/MethodHandle" ∧ yX12_floor.cls ≠ "java/lang/invoke/VarHandle" ∧ (parseMethodDescriptor yX12_floor.desc).map (fun d => d.parameters.length) = some 2) := ⟨gw1748, gw20, by decide, by decide, by decide +kernel⟩
theorem nX12_two : Cond.code yX12_two cX12_two 5 (some (.long)) ∈ GW ∧ Cond.initialized yX12_two.cls ∈ GW ∧ (yX12_two.cls ≠ "java/lang/invoke/MethodHandle" ∧ yX12_two.cls ≠ "java/lang/invoke/VarHandle" ∧ (parseMethodDescriptor yX12_two.desc).map (fun d => d.parameters.length) = some 3) := ⟨gw1740, gw20, by decide, by decide, by decide +kernel⟩
theorem nX12_holds : Cond.code yX12_holds cX12_holds 5 (some (.boolean)) ∈ GW ∧ Cond.initialized yX12_holds.cls ∈ GW ∧ (yX12_holds.cls ≠ "java/lang/invoke/MethodHandle" ∧ yX12_holds.cls ≠ "java/lang/invoke/VarHandle" ∧ (parseMethodDescriptor yX12_holds.desc).map (fun d => d.parameters.length) = some 1) := ⟨gw1737, gw20, by decide, by decide, by decide +kernel⟩
theorem nX12_isTold : Cond.code yX12_isTold cX12_isTold 2 (some (.boolean)) ∈ GW ∧ Cond.initialized yX12_isTold.cls ∈ GW ∧ (yX12_isTold.cls ≠ "java/lang/invoke/MethodHandle" ∧ yX12_isTold.cls ≠ "java/lang/invoke/VarHandle" ∧ (parseMethodDescriptor yX12_isTold.desc).map (fun d => d.parameters.length) = some 1) := ⟨gw1733, gw20, by decide, by decide, by decide +kernel⟩
theorem nX12_isFile : Cond.code yX12_isFile cX12_isFile 3 (some (.boolean)) ∈ GW ∧ Cond.initialized yX12_isFile.cls ∈ GW ∧ (yX12_isFile.cls ≠ "java/lang/invoke/MethodHandle" ∧ yX12_isFile.cls ≠ "java/lang/invoke/VarHandle" ∧ (parseMethodDescriptor yX12_isFile.desc).map (fun d => d.parameters.length) = some 0) := ⟨gw1709, gw20, by decide, by decide, by decide +kernel⟩
theorem nX12_rolling : Cond.code yX12_rolling cX12_rolling 6 (some (.int)) ∈ GW ∧ Cond.initialized yX12_rolling.cls ∈ GW ∧ (yX12_rolling.cls ≠ "java/lang/invoke/MethodHandle" ∧ yX12_rolling.cls ≠ "java/lang/invoke/VarHandle" ∧ (parseMethodDescriptor yX12_rolling.desc).map (fun d => d.parameters.length) = some 2) := ⟨gw1729, gw20, by decide, by decide, by decide +kernel⟩
theorem nX12_isBorder : Cond.code yX12_isBorder cX12_isBorder 5 (some (.boolean)) ∈ GW ∧ Cond.initialized yX12_isBorder.cls ∈ GW ∧ (yX12_isBorder.cls ≠ "java/lang/invoke/MethodHandle" ∧ yX12_isBorder.cls ≠ "java/lang/invoke/VarHandle" ∧ (parseMethodDescriptor yX12_isBorder.desc).map (fun d => d.parameters.length) = some 3) := ⟨gw1725, gw20, by decide, by decide, by decide +kernel⟩
theorem nX12_cutsBy : Cond.code yX12_cutsBy cX12_cutsBy 5 none ∈ GW ∧ Cond.initialized yX12_cutsBy.cls ∈ GW ∧ (yX12_cutsBy.cls ≠ "java/lang/invoke/MethodHandle" ∧ yX12_cutsBy.cls ≠ "java/lang/invoke/VarHandle" ∧ (parseMethodDescriptor yX12_cutsBy.desc).map (fun d => d.parameters.length) = some 1) := ⟨gw1721, gw20, by decide, by decide, by decide +kernel⟩
theorem nX12_lengthAt : Cond.code yX12_lengthAt cX12_lengthAt 2 (some (.int)) ∈ GW ∧ Cond.initialized yX12_lengthAt.cls ∈ GW ∧ (yX12_lengthAt.cls ≠ "java/lang/invoke/MethodHandle" ∧ yX12_lengthAt.cls ≠ "java/lang/invoke/VarHandle" ∧ (parseMethodDescriptor yX12_lengthAt.desc).map (fun d => d.parameters.length) = some 1) := ⟨gw1783, gw20, by decide, by decide, by decide +kernel⟩
theorem nX12_printAt : Cond.code yX12_printAt cX12_printAt 5 (some (.int)) ∈ GW ∧ Cond.initialized yX12_printAt.cls ∈ GW ∧ (yX12_printAt.cls ≠ "java/lang/invoke/MethodHandle" ∧ yX12_printAt.cls ≠ "java/lang/invoke/VarHandle" ∧ (parseMethodDescriptor yX12_printAt.desc).map (fun d => d.parameters.length) = some 1) := ⟨gw1776, gw20, by decide, by decide, by decide +kernel⟩
theorem nX12_printOf : Cond.code yX12_printOf cX12_printOf 5 (some (.int)) ∈ GW ∧ Cond.initialized yX12_printOf.cls ∈ GW ∧ (yX12_printOf.cls ≠ "java/lang/invoke/MethodHandle" ∧ yX12_printOf.cls ≠ "java/lang/invoke/VarHandle" ∧ (parseMethodDescriptor yX12_printOf.desc).map (fun d => d.parameters.length) = some 1) := ⟨gw1887, gw20, by decide, by decide, by decide +kernel⟩
theorem nX12_isLike : Cond.code yX12_isLike cX12_isLike 4 (some (.boolean)) ∈ GW ∧ Cond.initialized yX12_isLike.cls ∈ GW ∧ (yX12_isLike.cls ≠ "java/lang/invoke/MethodHandle" ∧ yX12_isLike.cls ≠ "java/lang/invoke/VarHandle" ∧ (parseMethodDescriptor yX12_isLike.desc).map (fun d => d.parameters.length) = some 2) := ⟨gw1795, gw20, by decide, by decide, by decide +kernel⟩
theorem nX12_areLike : Cond.code yX12_areLike cX12_areLike 4 (some (.boolean)) ∈ GW ∧ Cond.initialized yX12_areLike.cls ∈ GW ∧ (yX12_areLike.cls ≠ "java/lang/invoke/MethodHandle" ∧ yX12_areLike.cls ≠ "java/lang/invoke/VarHandle" ∧ (parseMethodDescriptor yX12_areLike.desc).map (fun d => d.parameters.length) = some 2) := ⟨gw1787, gw20, by decide, by decide, by decide +kernel⟩
theorem nX12_isBackup : Cond.code yX12_isBackup cX12_isBackup 2 (some (.boolean)) ∈ GW ∧ Cond.initialized yX12_isBackup.cls ∈ GW ∧ (yX12_isBackup.cls ≠ "java/lang/invoke/MethodHandle" ∧ yX12_isBackup.cls ≠ "java/lang/invoke/VarHandle" ∧ (parseMethodDescriptor yX12_isBackup.desc).map (fun d => d.parameters.length) = some 1) := ⟨gw1713, gw20, by decide, by decide, by decide +kernel⟩
theorem nX12_dayOf : Cond.code yX12_dayOf cX12_dayOf 2 (some (.int)) ∈ GW ∧ Cond.initialized yX12_dayOf.cls ∈ GW ∧ (yX12_dayOf.cls ≠ "java/lang/invoke/MethodHandle" ∧ yX12_dayOf.cls ≠ "java/lang/invoke/VarHandle" ∧ (parseMethodDescriptor yX12_dayOf.desc).map (fun d => d.parameters.length) = some 1) := ⟨gw1875, gw20, by decide, by decide, by decide +kernel⟩
theorem nX12_manyOf : Cond.code yX12_manyOf cX12_manyOf 2 (some (.int)) ∈ GW ∧ Cond.initialized yX12_manyOf.cls ∈ GW ∧ (yX12_manyOf.cls ≠ "java/lang/invoke/MethodHandle" ∧ yX12_manyOf.cls ≠ "java/lang/invoke/VarHandle" ∧ (parseMethodDescriptor yX12_manyOf.desc).map (fun d => d.parameters.length) = some 1) := ⟨gw1859, gw20, by decide, by decide, by decide +kernel⟩
theorem nX12_pieceOf : Cond.code yX12_pieceOf cX12_pieceOf 3 (some (.int)) ∈ GW ∧ Cond.initialized yX12_pieceOf.cls ∈ GW ∧ (yX12_pieceOf.cls ≠ "java/lang/invoke/MethodHandle" ∧ yX12_pieceOf.cls ≠ "java/lang/invoke/VarHandle" ∧ (parseMethodDescriptor yX12_pieceOf.desc).map (fun d => d.parameters.length) = some 2) := ⟨gw1863, gw20, by decide, by decide, by decide +kernel⟩
theorem nX12_boxOf : Cond.code yX12_boxOf cX12_boxOf 2 (some (.int)) ∈ GW ∧ Cond.initialized yX12_boxOf.cls ∈ GW ∧ (yX12_boxOf.cls ≠ "java/lang/invoke/MethodHandle" ∧ yX12_boxOf.cls ≠ "java/lang/invoke/VarHandle" ∧ (parseMethodDescriptor yX12_boxOf.desc).map (fun d => d.parameters.length) = some 1) := ⟨gw1831, gw20, by decide, by decide, by decide +kernel⟩
theorem nX12_isThere : Cond.code yX12_isThere cX12_isThere 2 (some (.boolean)) ∈ GW ∧ Cond.initialized yX12_isThere.cls ∈ GW ∧ (yX12_isThere.cls ≠ "java/lang/invoke/MethodHandle" ∧ yX12_isThere.cls ≠ "java/lang/invoke/VarHandle" ∧ (parseMethodDescriptor yX12_isThere.desc).map (fun d => d.parameters.length) = some 1) := ⟨gw1756, gw20, by decide, by decide, by decide +kernel⟩
theorem nX12_enlivens : Cond.code yX12_enlivens cX12_enlivens 3 none ∈ GW ∧ Cond.initialized yX12_enlivens.cls ∈ GW ∧ (yX12_enlivens.cls ≠ "java/lang/invoke/MethodHandle" ∧ yX12_enlivens.cls ≠ "java/lang/invoke/VarHandle" ∧ (parseMethodDescriptor yX12_enlivens.desc).map (fun d => d.parameters.length) = some 0) := ⟨gw1855, gw20, by decide, by decide, by decide +kernel⟩
theorem nX12_bytesIn : Cond.code yX12_bytesIn cX12_bytesIn 4 (some (.int)) ∈ GW ∧ Cond.initialized yX12_bytesIn.cls ∈ GW ∧ (yX12_bytesIn.cls ≠ "java/lang/invoke/MethodHandle" ∧ yX12_bytesIn.cls ≠ "java/lang/invoke/VarHandle" ∧ (parseMethodDescriptor yX12_bytesIn.desc).map (fun d => d.parameters.length) = some 1) := ⟨gw1827, gw20, by decide, by decide, by decide +kernel⟩
theorem nX12_piecesIn : Cond.code yX12_piecesIn cX12_piecesIn 4 (some (.int)) ∈ GW ∧ Cond.initialized yX12_piecesIn.cls ∈ GW ∧ (yX12_piecesIn.cls ≠ "java/lang/invoke/MethodHandle" ∧ yX12_piecesIn.cls ≠ "java/lang/invoke/VarHandle" ∧ (parseMethodDescriptor yX12_piecesIn.desc).map (fun d => d.parameters.length) = some 1) := ⟨gw1835, gw20, by decide, by decide, by decide +kernel⟩
theorem nX12_lays : Cond.code yX12_lays cX12_lays 4 none ∈ GW ∧ Cond.initialized yX12_lays.cls ∈ GW ∧ (yX12_lays.cls ≠ "java/lang/invoke/MethodHandle" ∧ yX12_lays.cls ≠ "java/lang/invoke/VarHandle" ∧ (parseMethodDescriptor yX12_lays.desc).map (fun d => d.parameters.length) = some 1) := ⟨gw1823, gw20, by decide, by decide, by decide +kernel⟩
theorem nX12_stored : Cond.code yX12_stored cX12_stored 3 (some (.int)) ∈ GW ∧ Cond.initialized yX12_stored.cls ∈ GW ∧ (yX12_stored.cls ≠ "java/lang/invoke/MethodHandle" ∧ yX12_stored.cls ≠ "java/lang/invoke/VarHandle" ∧ (parseMethodDescriptor yX12_stored.desc).map (fun d => d.parameters.length) = some 0) := ⟨gw1752, gw20, by decide, by decide, by decide +kernel⟩
theorem nX12_isHook : Cond.code yX12_isHook cX12_isHook 3 (some (.boolean)) ∈ GW ∧ Cond.initialized yX12_isHook.cls ∈ GW ∧ (yX12_isHook.cls ≠ "java/lang/invoke/MethodHandle" ∧ yX12_isHook.cls ≠ "java/lang/invoke/VarHandle" ∧ (parseMethodDescriptor yX12_isHook.desc).map (fun d => d.parameters.length) = some 1) := ⟨gw1772, gw20, by decide, by decide, by decide +kernel⟩
theorem nX12_hookLike : Cond.code yX12_hookLike cX12_hookLike 3 (some (.int)) ∈ GW ∧ Cond.initialized yX12_hookLike.cls ∈ GW ∧ (yX12_hookLike.cls ≠ "java/lang/invoke/MethodHandle" ∧ yX12_hookLike.cls ≠ "java/lang/invoke/VarHandle" ∧ (parseMethodDescriptor yX12_hookLike.desc).map (fun d => d.parameters.length) = some 1) := ⟨gw1791, gw20, by decide, by decide, by decide +kernel⟩
theorem nX12_hooksOf : Cond.code yX12_hooksOf cX12_hooksOf 5 none ∈ GW ∧ Cond.initialized yX12_hooksOf.cls ∈ GW ∧ (yX12_hooksOf.cls ≠ "java/lang/invoke/MethodHandle" ∧ yX12_hooksOf.cls ≠ "java/lang/invoke/VarHandle" ∧ (parseMethodDescriptor yX12_hooksOf.desc).map (fun d => d.parameters.length) = some 2) := ⟨gw1768, gw20, by decide, by decide, by decide +kernel⟩
theorem nX12_isChampion : Cond.code yX12_isChampion cX12_isChampion 3 (some (.boolean)) ∈ GW ∧ Cond.initialized yX12_isChampion.cls ∈ GW ∧ (yX12_isChampion.cls ≠ "java/lang/invoke/MethodHandle" ∧ yX12_isChampion.cls ≠ "java/lang/invoke/VarHandle" ∧ (parseMethodDescriptor yX12_isChampion.desc).map (fun d => d.parameters.length) = some 1) := ⟨gw1803, gw20, by decide, by decide, by decide +kernel⟩
theorem nX12_hooksFor : Cond.code yX12_hooksFor cX12_hooksFor 5 (some (.int)) ∈ GW ∧ Cond.initialized yX12_hooksFor.cls ∈ GW ∧ (yX12_hooksFor.cls ≠ "java/lang/invoke/MethodHandle" ∧ yX12_hooksFor.cls ≠ "java/lang/invoke/VarHandle" ∧ (parseMethodDescriptor yX12_hooksFor.desc).map (fun d => d.parameters.length) = some 2) := ⟨gw1807, gw20, by decide, by decide, by decide +kernel⟩
theorem nX12_findsChampions : Cond.code yX12_findsChampions cX12_findsChampions 6 none ∈ GW ∧ Cond.initialized yX12_findsChampions.cls ∈ GW ∧ (yX12_findsChampions.cls ≠ "java/lang/invoke/MethodHandle" ∧ yX12_findsChampions.cls ≠ "java/lang/invoke/VarHandle" ∧ (parseMethodDescriptor yX12_findsChampions.desc).map (fun d => d.parameters.length) = some 1) := ⟨gw1799, gw20, by decide, by decide, by decide +kernel⟩
theorem nX12_had : Cond.code yX12_had cX12_had 6 (some (.int)) ∈ GW ∧ Cond.initialized yX12_had.cls ∈ GW ∧ (yX12_had.cls ≠ "java/lang/invoke/MethodHandle" ∧ yX12_had.cls ≠ "java/lang/invoke/VarHandle" ∧ (parseMethodDescriptor yX12_had.desc).map (fun d => d.parameters.length) = some 2) := ⟨gw1811, gw20, by decide, by decide, by decide +kernel⟩
theorem nX12_writes : Cond.code yX12_writes cX12_writes 4 (some (.int)) ∈ GW ∧ Cond.initialized yX12_writes.cls ∈ GW ∧ (yX12_writes.cls ≠ "java/lang/invoke/MethodHandle" ∧ yX12_writes.cls ≠ "java/lang/invoke/VarHandle" ∧ (parseMethodDescriptor yX12_writes.desc).map (fun d => d.parameters.length) = some 1) := ⟨gw1815, gw20, by decide, by decide, by decide +kernel⟩
theorem nX12_savesSegment : Cond.code yX12_savesSegment cX12_savesSegment 8 (some (.int)) ∈ GW ∧ Cond.initialized yX12_savesSegment.cls ∈ GW ∧ (yX12_savesSegment.cls ≠ "java/lang/invoke/MethodHandle" ∧ yX12_savesSegment.cls ≠ "java/lang/invoke/VarHandle" ∧ (parseMethodDescriptor yX12_savesSegment.desc).map (fun d => d.parameters.length) = some 2) := ⟨gw1764, gw20, by decide, by decide, by decide +kernel⟩
theorem nX12_writesDown : Cond.code yX12_writesDown cX12_writesDown 4 none ∈ GW ∧ Cond.initialized yX12_writesDown.cls ∈ GW ∧ (yX12_writesDown.cls ≠ "java/lang/invoke/MethodHandle" ∧ yX12_writesDown.cls ≠ "java/lang/invoke/VarHandle" ∧ (parseMethodDescriptor yX12_writesDown.desc).map (fun d => d.parameters.length) = some 2) := ⟨gw1839, gw20, by decide, by decide, by decide +kernel⟩
theorem nX12_save : Cond.code yX12_save cX12_save 5 (some (.int)) ∈ GW ∧ Cond.initialized yX12_save.cls ∈ GW ∧ (yX12_save.cls ≠ "java/lang/invoke/MethodHandle" ∧ yX12_save.cls ≠ "java/lang/invoke/VarHandle" ∧ (parseMethodDescriptor yX12_save.desc).map (fun d => d.parameters.length) = some 0) := ⟨gw1705, gw20, by decide, by decide, by decide +kernel⟩
theorem nX12_backups : Cond.code yX12_backups cX12_backups 3 (some (.int)) ∈ GW ∧ Cond.initialized yX12_backups.cls ∈ GW ∧ (yX12_backups.cls ≠ "java/lang/invoke/MethodHandle" ∧ yX12_backups.cls ≠ "java/lang/invoke/VarHandle" ∧ (parseMethodDescriptor yX12_backups.desc).map (fun d => d.parameters.length) = some 0) := ⟨gw1847, gw20, by decide, by decide, by decide +kernel⟩
theorem nX12_living : Cond.code yX12_living cX12_living 4 (some (.int)) ∈ GW ∧ Cond.initialized yX12_living.cls ∈ GW ∧ (yX12_living.cls ≠ "java/lang/invoke/MethodHandle" ∧ yX12_living.cls ≠ "java/lang/invoke/VarHandle" ∧ (parseMethodDescriptor yX12_living.desc).map (fun d => d.parameters.length) = some 1) := ⟨gw1851, gw20, by decide, by decide, by decide +kernel⟩
theorem nX12_allBytes : Cond.code yX12_allBytes cX12_allBytes 3 (some (.int)) ∈ GW ∧ Cond.initialized yX12_allBytes.cls ∈ GW ∧ (yX12_allBytes.cls ≠ "java/lang/invoke/MethodHandle" ∧ yX12_allBytes.cls ≠ "java/lang/invoke/VarHandle" ∧ (parseMethodDescriptor yX12_allBytes.desc).map (fun d => d.parameters.length) = some 0) := ⟨gw1867, gw20, by decide, by decide, by decide +kernel⟩
theorem nX12_has : Cond.code yX12_has cX12_has 2 (some (.int)) ∈ GW ∧ Cond.initialized yX12_has.cls ∈ GW ∧ (yX12_has.cls ≠ "java/lang/invoke/MethodHandle" ∧ yX12_has.cls ≠ "java/lang/invoke/VarHandle" ∧ (parseMethodDescriptor yX12_has.desc).map (fun d => d.parameters.length) = some 1) := ⟨gw1843, gw20, by decide, by decide, by decide +kernel⟩
theorem nX12_bytesOf : Cond.code yX12_bytesOf cX12_bytesOf 4 (some (.int)) ∈ GW ∧ Cond.initialized yX12_bytesOf.cls ∈ GW ∧ (yX12_bytesOf.cls ≠ "java/lang/invoke/MethodHandle" ∧ yX12_bytesOf.cls ≠ "java/lang/invoke/VarHandle" ∧ (parseMethodDescriptor yX12_bytesOf.desc).map (fun d => d.parameters.length) = some 1) := ⟨gw1879, gw20, by decide, by decide, by decide +kernel⟩
theorem nX12_backup : Cond.code yX12_backup cX12_backup 3 (some (.int)) ∈ GW ∧ Cond.initialized yX12_backup.cls ∈ GW ∧ (yX12_backup.cls ≠ "java/lang/invoke/MethodHandle" ∧ yX12_backup.cls ≠ "java/lang/invoke/VarHandle" ∧ (parseMethodDescriptor yX12_backup.desc).map (fun d => d.parameters.length) = some 2) := ⟨gw1871, gw20, by decide, by decide, by decide +kernel⟩
theorem nX12_piece : Cond.code yX12_piece cX12_piece 5 (some (.int)) ∈ GW ∧ Cond.initialized yX12_piece.cls ∈ GW ∧ (yX12_piece.cls ≠ "java/lang/invoke/MethodHandle" ∧ yX12_piece.cls ≠ "java/lang/invoke/VarHandle" ∧ (parseMethodDescriptor yX12_piece.desc).map (fun d => d.parameters.length) = some 3) := ⟨gw1883, gw20, by decide, by decide, by decide +kernel⟩
theorem nX12_isBroken : Cond.code yX12_isBroken cX12_isBroken 2 (some (.boolean)) ∈ GW ∧ Cond.initialized yX12_isBroken.cls ∈ GW ∧ (yX12_isBroken.cls ≠ "java/lang/invoke/MethodHandle" ∧ yX12_isBroken.cls ≠ "java/lang/invoke/VarHandle" ∧ (parseMethodDescriptor yX12_isBroken.desc).map (fun d => d.parameters.length) = some 1) := ⟨gw1895, gw20, by decide, by decide, by decide +kernel⟩
theorem nX12_isFoul : Cond.code yX12_isFoul cX12_isFoul 5 (some (.boolean)) ∈ GW ∧ Cond.initialized yX12_isFoul.cls ∈ GW ∧ (yX12_isFoul.cls ≠ "java/lang/invoke/MethodHandle" ∧ yX12_isFoul.cls ≠ "java/lang/invoke/VarHandle" ∧ (parseMethodDescriptor yX12_isFoul.desc).map (fun d => d.parameters.length) = some 1) := ⟨gw1899, gw20, by decide, by decide, by decide +kernel⟩
theorem nX12_box : Cond.code yX12_box cX12_box 5 (some (.int)) ∈ GW ∧ Cond.initialized yX12_box.cls ∈ GW ∧ (yX12_box.cls ≠ "java/lang/invoke/MethodHandle" ∧ yX12_box.cls ≠ "java/lang/invoke/VarHandle" ∧ (parseMethodDescriptor yX12_box.desc).map (fun d => d.parameters.length) = some 2) := ⟨gw1891, gw20, by decide, by decide, by decide +kernel⟩
theorem nX12_takes : Cond.code yX12_takes cX12_takes 5 none ∈ GW ∧ Cond.initialized yX12_takes.cls ∈ GW ∧ (yX12_takes.cls ≠ "java/lang/invoke/MethodHandle" ∧ yX12_takes.cls ≠ "java/lang/invoke/VarHandle" ∧ (parseMethodDescriptor yX12_takes.desc).map (fun d => d.parameters.length) = some 1) := ⟨gw1907, gw20, by decide, by decide, by decide +kernel⟩
theorem nX12_octet : Cond.code yX12_octet cX12_octet 3 (some (.int)) ∈ GW ∧ Cond.initialized yX12_octet.cls ∈ GW ∧ (yX12_octet.cls ≠ "java/lang/invoke/MethodHandle" ∧ yX12_octet.cls ≠ "java/lang/invoke/VarHandle" ∧ (parseMethodDescriptor yX12_octet.desc).map (fun d => d.parameters.length) = some 2) := ⟨gw1903, gw20, by decide, by decide, by decide +kernel⟩
theorem nX12_cuts : Cond.code yX12_cuts cX12_cuts 2 (some (.int)) ∈ GW ∧ Cond.initialized yX12_cuts.cls ∈ GW ∧ (yX12_cuts.cls ≠ "java/lang/invoke/MethodHandle" ∧ yX12_cuts.cls ≠ "java/lang/invoke/VarHandle" ∧ (parseMethodDescriptor yX12_cuts.desc).map (fun d => d.parameters.length) = some 1) := ⟨gw1911, gw20, by decide, by decide, by decide +kernel⟩
theorem nX12_isOfIt : Cond.code yX12_isOfIt cX12_isOfIt 5 (some (.boolean)) ∈ GW ∧ Cond.initialized yX12_isOfIt.cls ∈ GW ∧ (yX12_isOfIt.cls ≠ "java/lang/invoke/MethodHandle" ∧ yX12_isOfIt.cls ≠ "java/lang/invoke/VarHandle" ∧ (parseMethodDescriptor yX12_isOfIt.desc).map (fun d => d.parameters.length) = some 3) := ⟨gw1919, gw20, by decide, by decide, by decide +kernel⟩
theorem nX12_shared : Cond.code yX12_shared cX12_shared 5 (some (.int)) ∈ GW ∧ Cond.initialized yX12_shared.cls ∈ GW ∧ (yX12_shared.cls ≠ "java/lang/invoke/MethodHandle" ∧ yX12_shared.cls ≠ "java/lang/invoke/VarHandle" ∧ (parseMethodDescriptor yX12_shared.desc).map (fun d => d.parameters.length) = some 2) := ⟨gw1915, gw20, by decide, by decide, by decide +kernel⟩
theorem nX12_edit : Cond.code yX12_edit cX12_edit 8 (some (.int)) ∈ GW ∧ Cond.initialized yX12_edit.cls ∈ GW ∧ (yX12_edit.cls ≠ "java/lang/invoke/MethodHandle" ∧ yX12_edit.cls ≠ "java/lang/invoke/VarHandle" ∧ (parseMethodDescriptor yX12_edit.desc).map (fun d => d.parameters.length) = some 3) := ⟨gw1923, gw20, by decide, by decide, by decide +kernel⟩
theorem nX12_lostAt : Cond.code yX12_lostAt cX12_lostAt 3 (some (.int)) ∈ GW ∧ Cond.initialized yX12_lostAt.cls ∈ GW ∧ (yX12_lostAt.cls ≠ "java/lang/invoke/MethodHandle" ∧ yX12_lostAt.cls ≠ "java/lang/invoke/VarHandle" ∧ (parseMethodDescriptor yX12_lostAt.desc).map (fun d => d.parameters.length) = some 1) := ⟨gw1931, gw20, by decide, by decide, by decide +kernel⟩
theorem nX12_why : Cond.code yX12_why cX12_why 5 (some (.int)) ∈ GW ∧ Cond.initialized yX12_why.cls ∈ GW ∧ (yX12_why.cls ≠ "java/lang/invoke/MethodHandle" ∧ yX12_why.cls ≠ "java/lang/invoke/VarHandle" ∧ (parseMethodDescriptor yX12_why.desc).map (fun d => d.parameters.length) = some 2) := ⟨gw1927, gw20, by decide, by decide, by decide +kernel⟩
theorem nX12_usedAgain : Cond.code yX12_usedAgain cX12_usedAgain 5 (some (.int)) ∈ GW ∧ Cond.initialized yX12_usedAgain.cls ∈ GW ∧ (yX12_usedAgain.cls ≠ "java/lang/invoke/MethodHandle" ∧ yX12_usedAgain.cls ≠ "java/lang/invoke/VarHandle" ∧ (parseMethodDescriptor yX12_usedAgain.desc).map (fun d => d.parameters.length) = some 3) := ⟨gw1943, gw20, by decide, by decide, by decide +kernel⟩
theorem nX12_cleared : Cond.code yX12_cleared cX12_cleared 8 (some (.int)) ∈ GW ∧ Cond.initialized yX12_cleared.cls ∈ GW ∧ (yX12_cleared.cls ≠ "java/lang/invoke/MethodHandle" ∧ yX12_cleared.cls ≠ "java/lang/invoke/VarHandle" ∧ (parseMethodDescriptor yX12_cleared.desc).map (fun d => d.parameters.length) = some 3) := ⟨gw1939, gw20, by decide, by decide, by decide +kernel⟩
theorem nX12_fetches : Cond.code yX12_fetches cX12_fetches 9 (some (.int)) ∈ GW ∧ Cond.initialized yX12_fetches.cls ∈ GW ∧ (yX12_fetches.cls ≠ "java/lang/invoke/MethodHandle" ∧ yX12_fetches.cls ≠ "java/lang/invoke/VarHandle" ∧ (parseMethodDescriptor yX12_fetches.desc).map (fun d => d.parameters.length) = some 2) := ⟨gw1935, gw20, by decide, by decide, by decide +kernel⟩
theorem nX12_expired : Cond.code yX12_expired cX12_expired 3 (some (.int)) ∈ GW ∧ Cond.initialized yX12_expired.cls ∈ GW ∧ (yX12_expired.cls ≠ "java/lang/invoke/MethodHandle" ∧ yX12_expired.cls ≠ "java/lang/invoke/VarHandle" ∧ (parseMethodDescriptor yX12_expired.desc).map (fun d => d.parameters.length) = some 0) := ⟨gw1956, gw20, by decide, by decide, by decide +kernel⟩
theorem nX12_fouls : Cond.code yX12_fouls cX12_fouls 3 (some (.int)) ∈ GW ∧ Cond.initialized yX12_fouls.cls ∈ GW ∧ (yX12_fouls.cls ≠ "java/lang/invoke/MethodHandle" ∧ yX12_fouls.cls ≠ "java/lang/invoke/VarHandle" ∧ (parseMethodDescriptor yX12_fouls.desc).map (fun d => d.parameters.length) = some 0) := ⟨gw1968, gw20, by decide, by decide, by decide +kernel⟩
theorem nX12_collects : Cond.code yX12_collects cX12_collects 6 (some (.int)) ∈ GW ∧ Cond.initialized yX12_collects.cls ∈ GW ∧ (yX12_collects.cls ≠ "java/lang/invoke/MethodHandle" ∧ yX12_collects.cls ≠ "java/lang/invoke/VarHandle" ∧ (parseMethodDescriptor yX12_collects.desc).map (fun d => d.parameters.length) = some 0) := ⟨gw1976, gw20, by decide, by decide, by decide +kernel⟩
theorem nX12_cleans : Cond.code yX12_cleans cX12_cleans 4 none ∈ GW ∧ Cond.initialized yX12_cleans.cls ∈ GW ∧ (yX12_cleans.cls ≠ "java/lang/invoke/MethodHandle" ∧ yX12_cleans.cls ≠ "java/lang/invoke/VarHandle" ∧ (parseMethodDescriptor yX12_cleans.desc).map (fun d => d.parameters.length) = some 0) := ⟨gw1972, gw20, by decide, by decide, by decide +kernel⟩
theorem nX12_isAhead : Cond.code yX12_isAhead cX12_isAhead 4 (some (.boolean)) ∈ GW ∧ Cond.initialized yX12_isAhead.cls ∈ GW ∧ (yX12_isAhead.cls ≠ "java/lang/invoke/MethodHandle" ∧ yX12_isAhead.cls ≠ "java/lang/invoke/VarHandle" ∧ (parseMethodDescriptor yX12_isAhead.desc).map (fun d => d.parameters.length) = some 3) := ⟨gw1952, gw20, by decide, by decide, by decide +kernel⟩
theorem nX12_later : Cond.code yX12_later cX12_later 5 (some (.int)) ∈ GW ∧ Cond.initialized yX12_later.cls ∈ GW ∧ (yX12_later.cls ≠ "java/lang/invoke/MethodHandle" ∧ yX12_later.cls ≠ "java/lang/invoke/VarHandle" ∧ (parseMethodDescriptor yX12_later.desc).map (fun d => d.parameters.length) = some 2) := ⟨gw1948, gw20, by decide, by decide, by decide +kernel⟩
theorem nX12_expires : Cond.code yX12_expires cX12_expires 5 (some (.int)) ∈ GW ∧ Cond.initialized yX12_expires.cls ∈ GW ∧ (yX12_expires.cls ≠ "java/lang/invoke/MethodHandle" ∧ yX12_expires.cls ≠ "java/lang/invoke/VarHandle" ∧ (parseMethodDescriptor yX12_expires.desc).map (fun d => d.parameters.length) = some 1) := ⟨gw1960, gw20, by decide, by decide, by decide +kernel⟩
theorem nX12_gain : Cond.code yX12_gain cX12_gain 6 (some (.int)) ∈ GW ∧ Cond.initialized yX12_gain.cls ∈ GW ∧ (yX12_gain.cls ≠ "java/lang/invoke/MethodHandle" ∧ yX12_gain.cls ≠ "java/lang/invoke/VarHandle" ∧ (parseMethodDescriptor yX12_gain.desc).map (fun d => d.parameters.length) = some 1) := ⟨gw1964, gw20, by decide, by decide, by decide +kernel⟩
theorem nX12_isUsing : Cond.code yX12_isUsing cX12_isUsing 4 (some (.boolean)) ∈ GW ∧ Cond.initialized yX12_isUsing.cls ∈ GW ∧ (yX12_isUsing.cls ≠ "java/lang/invoke/MethodHandle" ∧ yX12_isUsing.cls ≠ "java/lang/invoke/VarHandle" ∧ (parseMethodDescriptor yX12_isUsing.desc).map (fun d => d.parameters.length) = some 2) := ⟨gw1984, gw20, by decide, by decide, by decide +kernel⟩
theorem nX12_odds : Cond.code yX12_odds cX12_odds 4 (some (.int)) ∈ GW ∧ Cond.initialized yX12_odds.cls ∈ GW ∧ (yX12_odds.cls ≠ "java/lang/invoke/MethodHandle" ∧ yX12_odds.cls ≠ "java/lang/invoke/VarHandle" ∧ (parseMethodDescriptor yX12_odds.desc).map (fun d => d.parameters.length) = some 1) := ⟨gw1980, gw20, by decide, by decide, by decide +kernel⟩
theorem nX12_meet : Cond.code yX12_meet cX12_meet 4 (some (.int)) ∈ GW ∧ Cond.initialized yX12_meet.cls ∈ GW ∧ (yX12_meet.cls ≠ "java/lang/invoke/MethodHandle" ∧ yX12_meet.cls ≠ "java/lang/invoke/VarHandle" ∧ (parseMethodDescriptor yX12_meet.desc).map (fun d => d.parameters.length) = some 0) := ⟨gw1988, gw20, by decide, by decide, by decide +kernel⟩
theorem nX12_windowBits : Cond.code yX12_windowBits cX12_windowBits 6 (some (.int)) ∈ GW ∧ Cond.initialized yX12_windowBits.cls ∈ GW ∧ (yX12_windowBits.cls ≠ "java/lang/invoke/MethodHandle" ∧ yX12_windowBits.cls ≠ "java/lang/invoke/VarHandle" ∧ (parseMethodDescriptor yX12_windowBits.desc).map (fun d => d.parameters.length) = some 1) := ⟨gw1996, gw20, by decide, by decide, by decide +kernel⟩
theorem nX12_windows : Cond.code yX12_windows cX12_windows 2 (some (.int)) ∈ GW ∧ Cond.initialized yX12_windows.cls ∈ GW ∧ (yX12_windows.cls ≠ "java/lang/invoke/MethodHandle" ∧ yX12_windows.cls ≠ "java/lang/invoke/VarHandle" ∧ (parseMethodDescriptor yX12_windows.desc).map (fun d => d.parameters.length) = some 1) := ⟨gw1992, gw20, by decide, by decide, by decide +kernel⟩
theorem nX12_tells : Cond.code yX12_tells cX12_tells 11 (some (.int)) ∈ GW ∧ Cond.initialized yX12_tells.cls ∈ GW ∧ (yX12_tells.cls ≠ "java/lang/invoke/MethodHandle" ∧ yX12_tells.cls ≠ "java/lang/invoke/VarHandle" ∧ (parseMethodDescriptor yX12_tells.desc).map (fun d => d.parameters.length) = some 2) := ⟨gw2000, gw20, by decide, by decide, by decide +kernel⟩
theorem nX12_forget : Cond.code yX12_forget cX12_forget 2 (some (.boolean)) ∈ GW ∧ Cond.initialized yX12_forget.cls ∈ GW ∧ (yX12_forget.cls ≠ "java/lang/invoke/MethodHandle" ∧ yX12_forget.cls ≠ "java/lang/invoke/VarHandle" ∧ (parseMethodDescriptor yX12_forget.desc).map (fun d => d.parameters.length) = some 1) := ⟨gw2004, gw20, by decide, by decide, by decide +kernel⟩
theorem nX12_days : Cond.code yX12_days cX12_days 4 (some (.int)) ∈ GW ∧ Cond.initialized yX12_days.cls ∈ GW ∧ (yX12_days.cls ≠ "java/lang/invoke/MethodHandle" ∧ yX12_days.cls ≠ "java/lang/invoke/VarHandle" ∧ (parseMethodDescriptor yX12_days.desc).map (fun d => d.parameters.length) = some 1) := ⟨gw2008, gw20, by decide, by decide, by decide +kernel⟩
theorem nX12_draw : Cond.code yX12_draw cX12_draw 2 (some (.int)) ∈ GW ∧ Cond.initialized yX12_draw.cls ∈ GW ∧ (yX12_draw.cls ≠ "java/lang/invoke/MethodHandle" ∧ yX12_draw.cls ≠ "java/lang/invoke/VarHandle" ∧ (parseMethodDescriptor yX12_draw.desc).map (fun d => d.parameters.length) = some 1) := ⟨gw2016, gw20, by decide, by decide, by decide +kernel⟩
theorem nX12_chance : Cond.code yX12_chance cX12_chance 4 (some (.int)) ∈ GW ∧ Cond.initialized yX12_chance.cls ∈ GW ∧ (yX12_chance.cls ≠ "java/lang/invoke/MethodHandle" ∧ yX12_chance.cls ≠ "java/lang/invoke/VarHandle" ∧ (parseMethodDescriptor yX12_chance.desc).map (fun d => d.parameters.length) = some 1) := ⟨gw2012, gw20, by decide, by decide, by decide +kernel⟩
theorem nX12_clean : Cond.code yX12_clean cX12_clean 2 (some (.int)) ∈ GW ∧ Cond.initialized yX12_clean.cls ∈ GW ∧ (yX12_clean.cls ≠ "java/lang/invoke/MethodHandle" ∧ yX12_clean.cls ≠ "java/lang/invoke/VarHandle" ∧ (parseMethodDescriptor yX12_clean.desc).map (fun d => d.parameters.length) = some 0) := ⟨gw2024, gw20, by decide, by decide, by decide +kernel⟩
theorem nX12_spoil : Cond.code yX12_spoil cX12_spoil 3 (some (.boolean)) ∈ GW ∧ Cond.initialized yX12_spoil.cls ∈ GW ∧ (yX12_spoil.cls ≠ "java/lang/invoke/MethodHandle" ∧ yX12_spoil.cls ≠ "java/lang/invoke/VarHandle" ∧ (parseMethodDescriptor yX12_spoil.desc).map (fun d => d.parameters.length) = some 2) := ⟨gw2028, gw20, by decide, by decide, by decide +kernel⟩
theorem nX12_smash : Cond.code yX12_smash cX12_smash 2 (some (.boolean)) ∈ GW ∧ Cond.initialized yX12_smash.cls ∈ GW ∧ (yX12_smash.cls ≠ "java/lang/invoke/MethodHandle" ∧ yX12_smash.cls ≠ "java/lang/invoke/VarHandle" ∧ (parseMethodDescriptor yX12_smash.desc).map (fun d => d.parameters.length) = some 1) := ⟨gw2032, gw20, by decide, by decide, by decide +kernel⟩
theorem nX12_seed : Cond.code yX12_seed cX12_seed 2 (some (.boolean)) ∈ GW ∧ Cond.initialized yX12_seed.cls ∈ GW ∧ (yX12_seed.cls ≠ "java/lang/invoke/MethodHandle" ∧ yX12_seed.cls ≠ "java/lang/invoke/VarHandle" ∧ (parseMethodDescriptor yX12_seed.desc).map (fun d => d.parameters.length) = some 1) := ⟨gw2036, gw20, by decide, by decide, by decide +kernel⟩
theorem nX12_kept : Cond.code yX12_kept cX12_kept 3 (some (.int)) ∈ GW ∧ Cond.initialized yX12_kept.cls ∈ GW ∧ (yX12_kept.cls ≠ "java/lang/invoke/MethodHandle" ∧ yX12_kept.cls ≠ "java/lang/invoke/VarHandle" ∧ (parseMethodDescriptor yX12_kept.desc).map (fun d => d.parameters.length) = some 2) := ⟨gw2040, gw20, by decide, by decide, by decide +kernel⟩
theorem nJ9_min_7cf53 : Cond.code yJ9_min_7cf53 cJ9_min_7cf53 2 (some (.int)) ∈ GW ∧ Cond.initialized yJ9_min_7cf53.cls ∈ GW ∧ (yJ9_min_7cf53.cls ≠ "java/lang/invoke/MethodHandle" ∧ yJ9_min_7cf53.cls ≠ "java/lang/invoke/VarHandle" ∧ (parseMethodDescriptor yJ9_min_7cf53.desc).map (fun d => d.parameters.length) = some 2) := ⟨gw136, gw10, by decide, by decide, by decide +kernel⟩
theorem nJ9_max_7cf53 : Cond.code yJ9_max_7cf53 cJ9_max_7cf53 2 (some (.int)) ∈ GW ∧ Cond.initialized yJ9_max_7cf53.cls ∈ GW ∧ (yJ9_max_7cf53.cls ≠ "java/lang/invoke/MethodHandle" ∧ yJ9_max_7cf53.cls ≠ "java/lang/invoke/VarHandle" ∧ (parseMethodDescriptor yJ9_max_7cf53.desc).map (fun d => d.parameters.length) = some 2) := ⟨gw1084, gw10, by decide, by decide, by decide +kernel⟩
theorem nJ9_floorDiv_7cf53 : Cond.code yJ9_floorDiv_7cf53 cJ9_floorDiv_7cf53 3 (some (.int)) ∈ GW ∧ Cond.initialized yJ9_floorDiv_7cf53.cls ∈ GW ∧ (yJ9_floorDiv_7cf53.cls ≠ "java/lang/invoke/MethodHandle" ∧ yJ9_floorDiv_7cf53.cls ≠ "java/lang/invoke/VarHandle" ∧ (parseMethodDescriptor yJ9_floorDiv_7cf53.desc).map (fun d => d.parameters.length) = some 2) := ⟨gw889, gw10, by decide, by decide, by decide +kernel⟩
theorem nJ9_floorMod_7cf53 : Cond.code yJ9_floorMod_7cf53 cJ9_floorMod_7cf53 3 (some (.int)) ∈ GW ∧ Cond.initialized yJ9_floorMod_7cf53.cls ∈ GW ∧ (yJ9_floorMod_7cf53.cls ≠ "java/lang/invoke/MethodHandle" ∧ yJ9_floorMod_7cf53.cls ≠ "java/lang/invoke/VarHandle" ∧ (parseMethodDescriptor yJ9_floorMod_7cf53.desc).map (fun d => d.parameters.length) = some 2) := ⟨gw892, gw10, by decide, by decide, by decide +kernel⟩
