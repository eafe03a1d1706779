/-! ===== the law: pushing a call's numbers; a call of each side ===== -/
abbrev lwM : MI := (R_law, code, 4, 800, false)
def lwE : KP := ((fun _ => 0), 600000, 7302250, 400)
def lwX (p : Program) (l : Launch) (e : Env) (s : State) (m : MethodId) (b : Nat) (below : List Frame) (meth : Method) (c : Code) : CX := ((p, l, e, room_1), (s, m, #[Value.ref b], below), (meth, c, lw_Z below #[Value.ref b] s), (((fun _ => 0), 0, 0, 0), lwE, (fun _ => 0), 0))
/-- a run's whole surroundings -/
def LWb (p : Program) (l : Launch) (e : Env) (s : State) (m : MethodId) (b L : Nat) (xs : Nat → Int32) (below : List Frame) (meth : Method) (c : Code) (G : GX) : Prop := lw_At p s m meth c b L xs ∧ CCx lwM G (lwX p l e s m b below meth c) ∧ G.2.2 = s.heap.size ∧ L ≤ 3072
def envL (t : Nat) : List Slot := [.unset, .val (.ref 0), .val (.ref 95), .val (.int (iI ((6 * t : Nat) : Int)))]
def argv (xs : Nat → Int32) (t n : Nat) : List Value := (List.range n).map fun k => .int (xs (6 * t + k + 1))
def argsD (a n : Nat) : Prop := ∀ k, k < n → (decode code (a + 5 * k) = .ok (.aload_n 0, 1) ∧ decode code (a + 5 * k + 1) = .ok (.iload_n 3, 1) ∧ decode code (a + 5 * k + 2) = .ok (.iconst ((k + 1 : Nat) : Int), 1) ∧ decode code (a + 5 * k + 3) = .ok (.iadd, 1) ∧ decode code (a + 5 * k + 4) = .ok (.iaload, 1))
theorem argv_succ (xs : Nat → Int32) (t n : Nat) : argv xs t (n + 1) = argv xs t n ++ [.int (xs (6 * t + n + 1))] := by
  unfold argv
  rw [List.range_succ, List.map_append]
  rfl
theorem argv_cvv (xs : Nat → Int32) (t n : Nat) (ad : Nat → Nat) : (argv xs t n).map (cvv ad) = argv xs t n := by
  unfold argv
  rw [List.map_map]
  exact List.map_congr_left fun k _ => rfl
theorem argv_map (xs : Nat → Int32) (t n q : Nat) (ad : Nat → Nat) (st : List Value) : ((Value.ref q :: argv xs t n).reverse ++ st).map (cvv ad) = (argv xs t n).reverse ++ .ref (ad (2 * q)) :: st.map (cvv ad) := by
  rw [List.reverse_cons, List.append_assoc, List.map_append, List.map_reverse, argv_cvv]
  rfl
theorem argv_vok (xs : Nat → Int32) (t n N : Nat) : ∀ v ∈ argv xs t n, vok N v := fun v hv => by
  unfold argv at hv
  obtain ⟨k, -, rfl⟩ := List.mem_map.mp hv
  exact fun q hq => by cases hq
theorem argv_len (xs : Nat → Int32) (t n : Nat) : (argv xs t n).length = n := by unfold argv; rw [List.length_map, List.length_range]
section
variable {p : Program} {l : Launch} {e : Env} {s : State} {m : MethodId} {b L : Nat} {xs : Nat → Int32} {below : List Frame} {meth : Method} {c : Code} {G : GX}
theorem law_arg (Z : LWb p l e s m b L xs below meth c G) {H : Heap} {locs : List Loc} {cells slots : Nat} {Q : State → Prop} {ls : Array Slot} {rest : List Value} (hS : va_S (aBs G) s.heap H locs) {a k t : Nat} (hd : decode code a = .ok (.aload_n 0, 1) ∧ decode code (a + 1) = .ok (.iload_n 3, 1) ∧ decode code (a + 2) = .ok (.iconst ((k + 1 : Nat) : Int), 1) ∧ decode code (a + 3) = .ok (.iadd, 1) ∧ decode code (a + 4) = .ok (.iaload, 1)) (l0 : ls[0]? = some (.val (.ref b))) (l3 : ls[3]? = some (.val (.int (iI ((6 * t : Nat) : Int))))) (hk : 6 * t + k + 1 < L)
    (kk : W p l e room_1 s m #[Value.ref b] below meth c H locs cells slots Q (F0 m (a + 5) ls (.int (xs (6 * t + k + 1)) :: rest))) : W p l e room_1 s m #[Value.ref b] below meth c H locs cells slots Q (F0 m a ls rest) := by
  obtain ⟨⟨hx, hb, hr, hml, hown, hts, hX, hbl, hlocks, hgv⟩, -, hG, hL⟩ := Z
  have hbA : ¬ aBs G b := by
    show ¬ G.2.2 ≤ b
    rw [hG]; exact Nat.not_le.mpr hbl
  obtain ⟨d0, d1, d2, d3, d4⟩ := hd
  refine lv_aload_n hx hb d0 rfl l0 ?_
  refine lv_iload_n hx hb d1 rfl l3 ?_
  refine lv_iconst hx hb d2 (v := iI ((k + 1 : Nat) : Int)) rfl ?_
  refine lv_iadd hx hb d3 ?_
  have e1 : iI ((6 * t : Nat) : Int) + iI ((k + 1 : Nat) : Int) = iI ((6 * t + k + 1 : Nat) : Int) := by
    rw [iI_add]; congr 1
  have e2 : (iI ((6 * t + k + 1 : Nat) : Int)).toNatClampNeg = 6 * t + k + 1 := by
    rw [iI_nat2 ⟨by omega, by omega⟩, Int.toNat_natCast]
  rw [e1]
  refine va_sld hx hb hX hbl hbA hS (fun z => ?_) d4 ?_
  · rcases z with z | z
    · rw [iI_lt0 ⟨by omega, by omega⟩] at z
      omega
    · rw [e2] at z
      omega
  · rw [e2]
    exact kk
theorem law_push (Z : LWb p l e s m b L xs below meth c G) {H : Heap} {locs : List Loc} {cells slots : Nat} {Q : State → Prop} {ls : Array Slot} (hS : va_S (aBs G) s.heap H locs) {a t : Nat} (l0 : ls[0]? = some (.val (.ref b))) (l3 : ls[3]? = some (.val (.int (iI ((6 * t : Nat) : Int))))) {rest : List Value} : ∀ n, argsD a n → 6 * t + n < L →
    W p l e room_1 s m #[Value.ref b] below meth c H locs cells slots Q (F0 m (a + 5 * n) ls ((argv xs t n).reverse ++ rest)) → W p l e room_1 s m #[Value.ref b] below meth c H locs cells slots Q (F0 m a ls rest)
  | 0, _, _, kk => kk
  | n + 1, hd, hn, kk => by
    refine law_push Z hS l0 l3 n (fun k hk => hd k (by omega)) (by omega) ?_
    refine law_arg Z hS (hd n (by omega)) l0 l3 (by omega) ?_
    rw [argv_succ, List.reverse_append] at kk
    exact kk
theorem Inv.gr {n : Nat} {h : AH} (I : Inv n h) : Gr h := by
  obtain ⟨r, r', nu, ts, idm, K, cf, PF, Ks, u, m, pn, bk, nv, tv, a, M, T, G, MT, st, x, fk, fp, C, -⟩ := I
  exact C.1.1
theorem envL_vok (t : Nat) {h : AH} (g : Gr h) : ∀ v, Slot.val v ∈ envL t → vok (hN h) v := fun v hv => by
  have hn := g.1
  unfold envL at hv
  simp only [List.mem_cons, List.not_mem_nil, or_false, reduceCtorEq, false_or, Slot.val.injEq] at hv
  rcases hv with rfl | rfl | rfl
  · exact fun q hq => by cases hq; exact Nat.lt_of_lt_of_le (show 0 < 137 by decide) hn
  · exact fun q hq => by cases hq; exact Nat.lt_of_lt_of_le (show 95 < 137 by decide) hn
  · exact fun q hq => by cases hq
/-- a call of the class, the same of the reference, and on -/
theorem law_case (Z : LWb p l e s m b L xs below meth c G) (room : ∀ (n : Nat) (h : AH) (κ : KP), Inv n h → Gdk h κ → kle κ lwE) {t n a : Nat} {off : Int} (hn : 6 * t + n < L)
    (da : decode code a = .ok (.aload_n 1, 1)) (db : decode code (a + 1 + 5 * n + 3) = .ok (.aload_n 2, 1)) (dc : decode code (a + 1 + 5 * n + 3 + 1 + 5 * n + 3) = .ok (.if_icmp .eq off, 3)) (hoff : ((a + 1 + 5 * n + 3 + 1 + 5 * n + 3 : Nat) : Int) + off = ((1042 : Nat) : Int)) (d1 : argsD (a + 1) n) (d2 : argsD (a + 1 + 5 * n + 3 + 1) n) (di : decode code 1042 = .ok (.iinc 3 6, 3)) (dg : decode code 1045 = .ok (.goto (-1027), 3))
    {y1 y2 : MethodName} {cc1 cc2 : ByteArray} {nL1 nL2 : Nat} {ret1 ret2 : Option FieldType} {dep1 dep2 : Nat} {f g : MS} (hm1 : MA y1 cc1 nL1 ret1 dep1 f) (hr1 : RunK lwM (a + 1 + 5 * n) y1 cc1 nL1 ret1 dep1 (ckV 11 n)) (hm2 : MA y2 cc2 nL2 ret2 dep2 g) (hr2 : RunK lwM (a + 1 + 5 * n + 3 + 1 + 5 * n) y2 cc2 nL2 ret2 dep2 (ckV 12 n))
    {h : AH} {κ : KP} (I : Inv t h) (hκ : Gdk h κ) (S : StpI t h f g (argv xs t n)) {ls : Array Slot} (l0 : ls[0]? = some (.val (.ref b)))
    (next : ∀ (h2 : AH) (κ2 : KP), Inv (t + 1) h2 → Gdk h2 κ2 → ∀ ls' : Array Slot, ls'[0]? = some (.val (.ref b)) → AWl G (lwX p l e s m b below meth c) 4 18 ls' (envL (t + 1)) [] h2 κ2) :
    AWl G (lwX p l e s m b below meth c) 4 a ls (envL t) [] h κ := by
  obtain ⟨v, h1, h2, q1, t1, gr1, I2⟩ := S
  have gr := I.gr
  have gr2 := I2.gr
  have C := Z.2.1
  obtain ⟨hx, hb, hr, hml, hown, hts, hX, hbl, hlocks, hgv⟩ := id Z.1
  have c1 : ckV 11 n (.ref 0 :: argv xs t n) h = true := by
    show (rcB 11 (.ref 0 :: argv xs t n) h && decide ((Value.ref 0 :: argv xs t n).length = n + 1)) = true
    rw [List.length_cons, argv_len]
    show ((decide (hT h 0 = (0, 11)) || _) && decide (n + 1 = n + 1)) = true
    rw [gT0 gr]
    simp
  have c2 : ckV 12 n (.ref 95 :: argv xs t n) h1 = true := by
    show (rcB 12 (.ref 95 :: argv xs t n) h1 && decide ((Value.ref 95 :: argv xs t n).length = n + 1)) = true
    rw [List.length_cons, argv_len]
    show ((decide (hT h1 95 = (0, 12)) || _) && decide (n + 1 = n + 1)) = true
    rw [gT95 gr1]
    simp
  obtain ⟨κ1, g1, k1, r1⟩ := call_fx hm1 hr1 c1 q1 hκ
  obtain ⟨κ2, g2, k2, r2⟩ := call_fx hm2 hr2 c2 t1 g1
  have room2 : kle κ2 lwE := room _ _ _ I2 g2
  have A3 : AWl G (lwX p l e s m b below meth c) 4 (a + 1 + 5 * n + 3 + 1 + 5 * n + 3) ls (envL t) [.int v, .int v] h2 κ2 := by
    intro H locs ad bk cells slots hW hL hEn hV hS hn0 had hc hsl
    have hl : lv_has ls 4 [(0, .ref b), (1, .ref (ad 0)), (2, .ref (ad 190)), (3, .int (iI ((6 * t : Nat) : Int)))] := ⟨hL.1, hL.2.1, fun q hq => by
      simp only [List.mem_cons, List.not_mem_nil, or_false] at hq
      rcases hq with rfl | rfl | rfl | rfl
      · exact l0
      · exact hL.2.2 1 (.ref 0) rfl
      · exact hL.2.2 2 (.ref 95) rfl
      · exact hL.2.2 3 (.int (iI ((6 * t : Nat) : Int))) rfl⟩
    refine lv_icmp_eq hx hb (tgt := 1042) dc hoff (fun _ => ?_) (fun z => absurd rfl z)
    refine lv_iinc (v := iI ((6 * (t + 1) : Nat) : Int)) (lv' := [(3, .int (iI ((6 * (t + 1) : Nat) : Int))), (0, .ref b), (1, .ref (ad 0)), (2, .ref (ad 190))]) hx hb di hl (k := 3) rfl (by
      show iI ((6 * t : Nat) : Int) + iI 6 = _
      rw [iI_add]; congr 1) (by decide) rfl (fun ls' hl' => ?_)
    refine lv_goto (tgt := 18) hx hb dg (by decide) ?_
    have gh : hN h2 ≥ 137 := gr2.1
    exact next h2 κ2 I2 g2 ls' (lv_at hl' 1 rfl) H locs ad bk cells slots hW ⟨hl'.1, hl'.2.1, fun k w hk => by
      match k, hk with
      | 0, hk => cases hk
      | 1, hk => cases hk; exact lv_at hl' 2 rfl
      | 2, hk => cases hk; exact lv_at hl' 3 rfl
      | 3, hk => cases hk; exact lv_at hl' 0 rfl
      | k + 4, hk => cases hk⟩ (envL_vok (t + 1) gr2) (fun w hw => absurd hw (List.not_mem_nil)) hS hn0 had hc hsl
  have A2 : AWl G (lwX p l e s m b below meth c) 4 (a + 1 + 5 * n + 3 + 1 + 5 * n) ls (envL t) ((Value.ref 95 :: argv xs t n).reverse ++ [.int v]) h1 κ1 := r2 G _ C room2 ls (envL t) [.int v] (by show wds [Value.int v] ≤ 8; exact (show (1 : Nat) ≤ 8 by decide)) A3
  have A1 : AWl G (lwX p l e s m b below meth c) 4 (a + 1 + 5 * n + 3) ls (envL t) [.int v] h1 κ1 := by
    intro H locs ad bk cells slots hW hL hEn hV hS hn0 had hc hsl
    refine lv_aload_n hx hb db rfl (hL.2.2 2 (.ref 95) rfl) ?_
    refine law_push Z hS l0 (hL.2.2 3 (.int (iI ((6 * t : Nat) : Int))) rfl) n d2 hn ?_
    have w := A2 H locs ad bk cells slots hW hL hEn (fun w hw => by
      rcases List.mem_append.mp hw with hw | hw
      · rcases List.mem_cons.mp (List.mem_reverse.mp hw) with rfl | hw
        · exact fun q hq => by
            cases hq
            exact Nat.lt_of_lt_of_le (show 95 < 137 by decide) gr1.1
        · exact argv_vok xs t n _ w hw
      · exact hV w hw) hS hn0 had hc hsl
    rw [argv_map] at w
    exact w
  have A0 : AWl G (lwX p l e s m b below meth c) 4 (a + 1 + 5 * n) ls (envL t) ((Value.ref 0 :: argv xs t n).reverse ++ []) h κ := r1 G _ C (kle_tr k2 room2) ls (envL t) [] (by show wds [] ≤ 8; exact Nat.zero_le 8) A1
  intro H locs ad bk cells slots hW hL hEn hV hS hn0 had hc hsl
  refine lv_aload_n hx hb da rfl (hL.2.2 1 (.ref 0) rfl) ?_
  refine law_push Z hS l0 (hL.2.2 3 (.int (iI ((6 * t : Nat) : Int))) rfl) n d1 hn ?_
  have w := A0 H locs ad bk cells slots hW hL hEn (fun w hw => by
    rcases List.mem_append.mp hw with hw | hw
    · rcases List.mem_cons.mp (List.mem_reverse.mp hw) with rfl | hw
      · exact fun q hq => by
          cases hq
          exact Nat.lt_of_lt_of_le (show 0 < 137 by decide) gr.1
      · exact argv_vok xs t n _ w hw
    · exact hV w hw) hS hn0 had hc hsl
  rw [argv_map] at w
  exact w
end
