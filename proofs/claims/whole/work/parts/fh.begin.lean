/-! ===== what the start gives (by mkfh.py) ===== -/
theorem ofT_arr {args : Array Value} {s : State} {ty : FieldType} (h : (Cond.arrayClass ty).before args s = true) : ∃ cA : ClassId, ArrOfT s cA ty ∧ s.vm.findClass ("[" ++ ty.toString) = some cA := by
  obtain ⟨cA, kA, comp, h1, h2, h3⟩ := Cond.arrayClass_spec h
  exact ⟨cA, fun n z => ⟨fun k h => (by cases h), kA, h2, comp, h3⟩, h1⟩
theorem ofT_obj {args : Array Value} {s : State} {C : String} (h : (Cond.arrayOver (.object C)).before args s = true) : ∃ cA : ClassId, ArrOfT s cA (.object C) ∧ va_RA s cA (.object C) := by
  obtain ⟨comp, cA, kA, h1, h2, h3, h4, h5⟩ := Cond.arrayOver_spec h
  exact ⟨cA, fun n z => ⟨fun k h => (by cases h), kA, h3, comp, h4⟩, kA, comp, h3, h4, h1, h5⟩
def numF (n : String) (f : List Int32) : List Cond := Cond.arrayOf (.static RX11 n "[I") .int :: Cond.eq (.length (.static RX11 n "[I")) (.int 10) :: (List.range 10).map fun j => Cond.eq (.elem (.static RX11 n "[I") (.int (Int32.ofNat j))) (.int (f.getD j 0))
theorem numF_l : ∀ w ∈ numF "NUMBER_LEAST" nLst, w ∈ flatC (Jvm.Cond.and given_1 narrow_1) := by decide +kernel
theorem numF_m : ∀ w ∈ numF "NUMBER_MOST" nMst, w ∈ flatC (Jvm.Cond.and given_1 narrow_1) := by decide +kernel
theorem numF_w : ∀ w ∈ numF "NUMBER_WITHOUT" nWto, w ∈ flatC (Jvm.Cond.and given_1 narrow_1) := by decide +kernel
abbrev txT : Term := .string RX4 67
def txtG (n : Nat) (bw : List Int32) : List Cond := Cond.exactly txT "java/lang/String" :: Cond.eq (.field txT "java/lang/String" "coder" "B") (.int 0) :: Cond.arrayOf (.field txT "java/lang/String" "value" "[B") .byte :: Cond.eq (.length (.field txT "java/lang/String" "value" "[B")) (.int (Int32.ofNat n)) :: (List.range n).map fun j => Cond.eq (.elem (.field txT "java/lang/String" "value" "[B") (.int (Int32.ofNat j))) (.int (bw.getD j 0))
theorem txtG_eq : txtG 174 byW = ((flatC (Jvm.Cond.and given_1 narrow_1)).drop 48).take 178 := by decide +kernel
theorem txtG_in : ∀ w ∈ txtG 174 byW, w ∈ flatC (Jvm.Cond.and given_1 narrow_1) := fun w hw => by
  rw [txtG_eq] at hw
  exact List.mem_of_mem_drop (List.mem_of_mem_take hw)
theorem fmt_in : Cond.isRef (.static "jdk/internal/util/Preconditions" "SIOOBE_FORMATTER" "Ljava/util/function/BiFunction;") ∈ flatC (Jvm.Cond.and given_1 narrow_1) := by decide +kernel
theorem cmp_in : Cond.eq (.static "java/lang/String" "COMPACT_STRINGS" "Z") (.int 1) ∈ flatC (Jvm.Cond.and given_1 narrow_1) := by decide +kernel
theorem num_st {args : Array Value} {s : State} {G : GX} {n : String} {f : List Int32} (hA : ∀ a : Nat, a < s.heap.size → ¬ aBs G a) (hl : (Cond.laysStatic RX11 n "[I").before args s = true) (hi : (Cond.initialized RX11).before args s = true) (h : ∀ w ∈ numF n f, w.before args s = true) : stF G n f s s.heap := by
  obtain ⟨t, h1, h2⟩ := va_Tof (tm := .static RX11 n "[I") (ty := .int) (N := 10) (f := fun j => .int (f.getD j 0)) (A := aBs G) (by decide) (h _ List.mem_cons_self) (va_eqt (h _ (List.mem_cons_of_mem _ List.mem_cons_self))) (fun j hj => va_eqt (h _ (List.mem_cons_of_mem _ (List.mem_cons_of_mem _ (List.mem_map.mpr ⟨j, List.mem_range.mpr hj, rfl⟩))))) hA
  exact ⟨t, va_Zref hl hi h1 hA, h2⟩
theorem txt_st {n : Nat} {bw : List Int32} (hn : n < 2 ^ 31) {args : Array Value} {s : State} {G : GX} (hA : ∀ a : Nat, a < s.heap.size → ¬ aBs G a) (hr : (Cond.stringRef RX4 67 txW).before args s = true) (h : ∀ w ∈ txtG n bw, w.before args s = true) : ∃ a b, vk_R RX4 kTW txW a s ∧ vk_S 1 [n] [bw] (fun _ => a) (fun _ => b) (aBs G) s s.heap := by
  have z : ∀ i : Nat, i < 1 → [n].getD i 0 = n ∧ [bw].getD i [] = bw := fun i hi => by
    have : i = 0 := by omega
    rw [this]
    exact ⟨rfl, rfl⟩
  obtain ⟨adK, adV, h1, h2⟩ := vk_Sof (args := args) (s := s) (N := 1) (tm := fun _ => txT) (len := [n]) (byt := [bw]) (A := aBs G) (fun i hi => by
      rw [(z i hi).1]
      exact hn) (fun i _ => h _ List.mem_cons_self) (fun i _ => h _ (List.mem_cons_of_mem _ List.mem_cons_self)) (fun i _ => h _ (List.mem_cons_of_mem _ (List.mem_cons_of_mem _ List.mem_cons_self))) (fun i hi => by
      rw [(z i hi).1]
      exact h _ (List.mem_cons_of_mem _ (List.mem_cons_of_mem _ (List.mem_cons_of_mem _ List.mem_cons_self)))) (fun i hi j hj => by
      rw [(z i hi).1] at hj
      rw [(z i hi).2]
      exact h _ (List.mem_cons_of_mem _ (List.mem_cons_of_mem _ (List.mem_cons_of_mem _ (List.mem_cons_of_mem _ (List.mem_map.mpr ⟨j, List.mem_range.mpr hj, rfl⟩)))))) (fun i j hi hj hij => absurd (by omega) hij) hA
  refine ⟨adK 0, adV 0, vk_R.of hr (h2 0 (by decide)), fun i hi => ?_, fun i j hi hj _ => by omega⟩
  have : i = 0 := by omega
  rw [this]
  exact h1.1 0 (by decide)
/-- the surroundings at the law's entry -/
theorem lw_begin {p : Program} {l : Launch} {e : Env} {s : State} {m : MethodId} {b L : Nat} {xs : Nat → Int32} {below : List Frame} {meth : Method} {c : Code} (hL : L ≤ 3072) (C0 : lw_At p s m meth c b L xs) : ∃ G : GX, LWb p l e s m b L xs below meth c G := by
  obtain ⟨hx, hb, hr, hml, hown, hts, hX, hbl, hlocks, hgv⟩ := id C0
  have hGW : ∀ w ∈ GW, w.before #[Value.ref b] s = true := fun w hw => hts w (List.mem_filter.mp hw).1
  have hfl := flat_of_before _ hgv
  obtain ⟨c0, i0, k0⟩ := u_known (C := RX0) (T := TX0) (N := vwN 0) (n := vwN 0) hGW cl0.2.1 (hGW _ gw52)
  obtain ⟨c1, i1, k1⟩ := u_known (C := RX1) (T := TX1) (N := vwN 1) (n := vwN 1) hGW cl1.2.1 (hGW _ gw238)
  obtain ⟨c2, i2, k2⟩ := u_known (C := RX2) (T := TX2) (N := vwN 2) (n := vwN 2) hGW cl2.2.1 (hGW _ gw512)
  obtain ⟨c3, i3, k3⟩ := u_known (C := RX3) (T := TX3) (N := vwN 3) (n := vwN 3) hGW cl3.2.1 (hGW _ gw256)
  obtain ⟨c4, i4, k4⟩ := u_known (C := RX4) (T := TX4) (N := vwN 4) (n := vwN 4) hGW cl4.2.1 (hGW _ gw44)
  obtain ⟨c5, i5, k5⟩ := u_known (C := RX5) (T := TX5) (N := vwN 5) (n := vwN 5) hGW cl5.2.1 (hGW _ gw30)
  obtain ⟨c6, i6, k6⟩ := u_known (C := RX6) (T := TX6) (N := vwN 6) (n := vwN 6) hGW cl6.2.1 (hGW _ gw190)
  obtain ⟨c7, i7, k7⟩ := u_known (C := RX7) (T := TX7) (N := vwN 7) (n := vwN 7) hGW cl7.2.1 (hGW _ gw295)
  obtain ⟨c8, i8, k8⟩ := u_known (C := RX8) (T := TX8) (N := vwN 8) (n := vwN 8) hGW cl8.2.1 (hGW _ gw530)
  obtain ⟨c9, i9, k9⟩ := u_known (C := RX9) (T := TX9) (N := vwN 9) (n := vwN 9) hGW cl9.2.1 (hGW _ gw325)
  obtain ⟨c10, i10, k10⟩ := u_known (C := RX10) (T := TX10) (N := vwN 10) (n := vwN 10) hGW cl10.2.1 (hGW _ gw184)
  obtain ⟨c11, i11, k11⟩ := u_known (C := RX11) (T := TX11) (N := vwN 11) (n := vwN 11) hGW cl11.2.1 (hGW _ gw22)
  obtain ⟨c12, i12, k12⟩ := u_known (C := RX12) (T := TX12) (N := vwN 12) (n := vwN 12) hGW cl12.2.1 (hGW _ gw1305)
  obtain ⟨a0, r0, n0⟩ := ofT_arr (hGW _ gw42)
  obtain ⟨a1, r1, n1⟩ := ofT_arr (hGW _ gw1525)
  obtain ⟨a2, r2, n2⟩ := ofT_arr (hGW _ gw1524)
  have hao : (Cond.arrayOver (.object RX9)).before #[Value.ref b] s = true := hts _ (List.mem_append_right _ (wm_2_14 (List.Mem.tail _ (List.Mem.head _))))
  obtain ⟨a3, r3, n3⟩ := ofT_obj hao
  let dC : Nat → ClassId := fun k => if k = 0 then c0 else if k = 1 then c1 else if k = 2 then c2 else if k = 3 then c3 else if k = 4 then c4 else if k = 5 then c5 else if k = 6 then c6 else if k = 7 then c7 else if k = 8 then c8 else if k = 9 then c9 else if k = 10 then c10 else if k = 11 then c11 else c12
  let dI : Nat → Nat → Nat := fun k => if k = 0 then i0 else if k = 1 then i1 else if k = 2 then i2 else if k = 3 then i3 else if k = 4 then i4 else if k = 5 then i5 else if k = 6 then i6 else if k = 7 then i7 else if k = 8 then i8 else if k = 9 then i9 else if k = 10 then i10 else if k = 11 then i11 else i12
  let tc : Nat → ClassId := fun k => if k = 0 then a0 else if k = 1 then a1 else if k = 2 then a2 else a3
  refine ⟨((dC, dI), tc, s.heap.size), C0, ⟨hx, hb, hml, hown, hGW, ⟨⟨fun k q hq => ?_, fun k q hq => ?_⟩, fun w hw => ?_, va_AO.of hao, ?_⟩, (show (800 : Nat) ≤ 2048 by decide), (show 100 * 800 ≤ 84000 by decide), rfl, rfl, Nat.le_refl _, fun z => by cases z⟩, rfl, hL⟩
  · match k, hq with
    | 0, hq => cases hq; exact k0
    | 1, hq => cases hq; exact k1
    | 2, hq => cases hq; exact k2
    | 3, hq => cases hq; exact k3
    | 4, hq => cases hq; exact k4
    | 5, hq => cases hq; exact k5
    | 6, hq => cases hq; exact k6
    | 7, hq => cases hq; exact k7
    | 8, hq => cases hq; exact k8
    | 9, hq => cases hq; exact k9
    | 10, hq => cases hq; exact k10
    | 11, hq => cases hq; exact k11
    | 12, hq => cases hq; exact k12
    | k + 13, hq => simp at hq
  · match k, hq with
    | 0, hq => cases hq; exact ⟨r0, n0⟩
    | 1, hq => cases hq; exact ⟨r1, n1⟩
    | 2, hq => cases hq; exact ⟨r2, n2⟩
    | 3, hq => cases hq; exact ⟨r3, n3⟩
    | k + 4, hq => simp at hq
  · have h1 := hts w (List.mem_filter.mp hw).1
    have h2 := (List.mem_filter.mp hw).2
    cases w <;> first | (exact va_Nw.of rfl h1) | (cases h2)
  · have hA : ∀ a : Nat, a < s.heap.size → ¬ aBs ((dC, dI), tc, s.heap.size) a := fun a h => Nat.not_le.mpr h
    exact ⟨num_st hA (hts _ (List.mem_append_right _ (wm_3_16 (List.Mem.tail _ (List.Mem.tail _ (List.Mem.tail _ (List.Mem.tail _ (List.Mem.tail _ (List.Mem.tail _ (List.Mem.tail _ (List.Mem.head _))))))))))) (hGW _ gw1) (fun w hw => hfl w (numF_l w hw)), num_st hA (hts _ (List.mem_append_right _ (wm_3_16 (List.Mem.tail _ (List.Mem.tail _ (List.Mem.tail _ (List.Mem.tail _ (List.Mem.tail _ (List.Mem.tail _ (List.Mem.tail _ (List.Mem.tail _ (List.Mem.tail _ (List.Mem.head _))))))))))))) (hGW _ gw1) (fun w hw => hfl w (numF_m w hw)), num_st hA (hts _ (List.mem_append_right _ (wm_1_17 (List.Mem.tail _ (List.Mem.tail _ (List.Mem.tail _ (List.Mem.tail _ (List.Mem.tail _ (List.Mem.tail _ (List.Mem.tail _ (List.Mem.tail _ (List.Mem.tail _ (List.Mem.head _))))))))))))) (hGW _ gw1) (fun w hw => hfl w (numF_w w hw)), txt_st (by decide) hA (hts _ (List.mem_append_right _ (wm_1_5 (List.Mem.tail _ (List.Mem.tail _ (List.Mem.tail _ (List.Mem.tail _ (List.Mem.tail _ (List.Mem.tail _ (List.Mem.tail _ (List.Mem.tail _ (List.Mem.tail _ (List.Mem.tail _ (List.Mem.tail _ (List.Mem.head _))))))))))))))) (fun w hw => hfl w (txtG_in w hw)), va_Zof (hts _ (List.mem_append_right _ (wm_1_6 (List.Mem.tail _ (List.Mem.tail _ (List.Mem.tail _ (List.Mem.tail _ (List.Mem.tail _ (List.Mem.tail _ (List.Mem.tail _ (List.Mem.tail _ (List.Mem.tail _ (List.Mem.head _))))))))))))) (hGW _ gw5) (va_eqi (hfl _ cmp_in)) hA, va_Zqof (hts _ (List.mem_append_right _ (wm_1_8 (List.Mem.tail _ (List.Mem.head _))))) (hGW _ gw7) (hfl _ fmt_in) hA⟩
