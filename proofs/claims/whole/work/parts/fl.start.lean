/-! ===== the start: the invariant before the first call ===== -/
theorem mI_of (l : List Int32) : ∃ F : List Int, l = mI F ∧ F.length = l.length := by
  refine ⟨l.map fun x => x.toInt, ?_, by rw [List.length_map]⟩
  unfold mI
  rw [List.map_map]
  conv => lhs; rw [← List.map_id l]
  exact List.map_congr_left fun x _ => (iI_toInt_self x).symm
theorem rep_getD (n k : Nat) : (List.replicate n (0 : Int)).getD k 0 = 0 := by
  rw [List.getD_eq_getElem?_getD, List.getElem?_replicate]
  split <;> rfl
theorem tsOk_nil (w : Nat) : tsOk w [] := ⟨Nat.zero_le _, fun c hc => absurd hc (List.not_mem_nil), fun c hc => absurd hc (List.not_mem_nil), fun z => absurd rfl z⟩
theorem inv0 : ∃ hx hm : AH, mX11_init [.ref 0] (hNew hE0 (0, 11)) = some (none, hx) ∧ hN hx = 95 ∧ mX12_init [.ref 95] (hNew hx (0, 12)) = some (none, hm) ∧ Inv 0 hm := by
  obtain ⟨hx, q1, ck⟩ := c_init
  unfold chk0 at ck
  simp only [Bool.and_eq_true, Bool.or_eq_true, List.all_eq_true, decide_eq_true_eq] at ck
  obtain ⟨⟨⟨⟨⟨⟨⟨⟨⟨⟨⟨⟨⟨⟨⟨⟨⟨⟨⟨⟨⟨⟨k1, k2⟩, k3⟩, k4⟩, k5⟩, k6⟩, k7⟩, k8⟩, k9⟩, k10⟩, k11⟩, k12⟩, k13⟩, k14⟩, k15⟩, k16⟩, k17⟩, k18⟩, k19⟩, k20⟩, k21⟩, k22⟩, k23⟩ := ck
  have g0 : Gr0 hx := ⟨k1, fun q hq => k2 q (List.mem_range.mpr hq), fun x hx' hl => by
    rcases k3 x hx' with z | z
    · omega
    · exact z, k4, k5, k6⟩
  obtain ⟨hm, t1, gr, hn, old, ⟨z1, z10, z11, z13, z32, z37, z39, z65⟩, z40, z97, z98, z108, z109⟩ := m_init g0
  have rR : ∀ q, q < 95 → hR hm q = hR hx q := fun q hq => (old q hq).2.2.2.2
  have rI : ∀ q, q < 95 → hI hm q = hI hx q := fun q hq => (old q hq).2.2.1
  have emp : ∀ q ∈ [1, 15, 18, 21, 28, 29, 30, 31, 33, 34, 35, 37, 43, 44, 45, 46, 50, 51, 52, 53, 54, 55, 56, 80], hR hm q = [] := fun q hq => by
    rw [rR q (by
      simp only [List.mem_cons, List.not_mem_nil, or_false] at hq
      omega)]
    exact k8 q hq
  have V : VbC hm := ⟨fun q hq => emp q (by
    simp only [List.mem_cons, List.not_mem_nil, or_false] at hq ⊢
    omega), by rw [rR 32 (by decide)]; exact k14, fun q hq => by
    rw [rR q (by
      simp only [List.mem_cons, List.not_mem_nil, or_false] at hq
      omega)]
    exact k15 q hq, fun q hq => by
    rw [rR q (by
      simp only [List.mem_cons, List.not_mem_nil, or_false] at hq
      omega)]
    exact k16 q hq, fun k h1 h2 => by
    rw [rI 49 (by decide)]
    exact k17 k (by
      simp only [List.mem_cons, List.not_mem_nil, or_false]
      omega), by rw [rI 11 (by decide)]; exact k18, by rw [rI 11 (by decide)]; exact k19⟩
  obtain ⟨F1, f1, f1'⟩ := mI_of (hR hm 23)
  obtain ⟨F2, f2, f2'⟩ := mI_of (hR hm 94)
  have l1 : F1.length = 29 := by rw [f1', rR 23 (by decide)]; exact k12
  have l2 : F2.length = 29 := by rw [f2', rR 94 (by decide)]; exact k13
  have nu0 : nuR false nu0L := ⟨rfl, fun i h1 h2 => by
    match i, h1, h2 with
    | 1, _, _ => decide
    | 2, _, _ => decide
    | 3, _, _ => decide
    | 4, _, _ => decide
    | 5, _, _ => decide
    | 6, _, _ => decide
    | 7, _, _ => decide
    | 8, _, _ => decide
    | 9, _, _ => decide, fun z => (by cases z), fun _ => rfl⟩
  have RC : RuC hm 12 nu0L (fun _ => []) := ⟨by rw [rR 13 (by decide)]; exact k11, emp 15 (by decide), emp 18 (by decide), emp 21 (by decide), F1, f1, l1⟩
  have X : ClsX hm 12 nu0L (fun _ => []) (fun _ => 0) k0K [] [] := ⟨gr, Or.inl rfl, by rw [(old 11 (by decide)).2.1]; exact k4, RC, nu0.ok, k0_ok, V.st _, V.va _, V.fm⟩
  refine ⟨hx, hm, q1, k1, t1, 12, 83, nu0L, (fun _ => []), (fun _ => 0), k0K, [], [], (fun _ => k0K), 0, 0, 0, 0, List.replicate 10 0, (fun _ => []), (fun _ => 0), (fun _ _ => 0), [], List.replicate 6 0, [], false, 1, 0, -1, ⟨X, Or.inl ⟨rfl, rfl⟩, ⟨F2, f2, l2⟩, ?_, V.hs, emp 35 (by decide), ?_, V.tl _ _, V.rg _⟩, ?_, ?_, ?_, ?_, ?_⟩
  · unfold WdC
    rw [rR 4 (by decide)]
    exact k10
  · exact ⟨Nat.zero_le _, by decide, Nat.le_refl _, ⟨Nat.zero_le _, hn, fun k hk => absurd hk (Nat.not_lt_zero _), fun k _ hk => by rw [(old 71 (by decide)).2.1]; exact k7 k (List.mem_range.mpr hk)⟩, by rw [rI 11 (by decide)]; exact k18, by rw [rI 11 (by decide)]; exact k19, fun i hi => absurd hi (Nat.not_lt_zero _)⟩
  · exact ⟨emp 1 (by decide), by rw [rR 2 (by decide), mI_rep]; exact k9, emp 80 (by decide), by rw [rI 0 (by decide)]; exact k21, by rw [rI 0 (by decide)]; exact k22, by rw [rI 0 (by decide)]; exact k23, by rw [rI 11 (by decide)]; exact k20⟩
  · exact ⟨⟨by decide, z13, fun k hk => by rw [z97, rep_getD], fun w hw => ⟨fun _ => z98 _ (by omega), fun z => absurd rfl z⟩⟩, KM.zero z109, ⟨Nat.zero_le _, z39, z37, rfl, fun i hi => absurd hi (Nat.not_lt_zero _), fun i hi => absurd hi (Nat.not_lt_zero _)⟩, ZrM.zero z109, fun i hi => absurd hi (Nat.not_lt_zero _)⟩
  · exact ⟨⟨z1, fun i hi => absurd hi (Nat.not_lt_zero _)⟩, fun i hi => by rw [z108, rep_getD], ⟨z65, fun i hi => absurd hi (Nat.not_lt_zero _)⟩, z32, z10, z11, z40⟩
  · exact ⟨nu0, fun w _ => tsOk_nil w, k0_ok2, fun i hi => absurd hi (Nat.not_lt_zero _), fun i hi => absurd hi (Nat.not_lt_zero _), fun _ => ⟨rfl, fun _ => rfl, rfl⟩, MtOk.nil, fun y hy => absurd hy (List.not_mem_nil), Nat.zero_le _, List.length_replicate, ⟨by decide, by decide⟩, Nat.zero_le _, Nat.zero_le _, Nat.zero_le _, Nat.zero_le _, Nat.zero_le _, Nat.zero_le _, Nat.zero_le _⟩
  · exact ⟨⟨List.length_replicate, fun x hx => by rw [List.eq_of_mem_replicate hx]; decide⟩, fun w _ => tsOk_nil w, by rw [rep_getD]; decide, fun _ => rep_getD _ _, fun z => by cases z⟩
theorem dLs_0 : decode code 0 = .ok (.new 7, 3) := by decide +kernel
theorem dLs_3 : decode code 3 = .ok (.dup, 1) := by decide +kernel
theorem dLs_4 : decode code 4 = .ok (.invokespecial 9, 3) := by decide +kernel
theorem dLs_7 : decode code 7 = .ok (.astore_n 1, 1) := by decide +kernel
theorem dLs_8 : decode code 8 = .ok (.new 10, 3) := by decide +kernel
theorem dLs_11 : decode code 11 = .ok (.dup, 1) := by decide +kernel
theorem dLs_12 : decode code 12 = .ok (.invokespecial 12, 3) := by decide +kernel
theorem dLs_15 : decode code 15 = .ok (.astore_n 2, 1) := by decide +kernel
theorem dLs_16 : decode code 16 = .ok (.iconst 0, 1) := by decide +kernel
theorem dLs_17 : decode code 17 = .ok (.istore_n 3, 1) := by decide +kernel
theorem gdk0 : Gdk hE0 ((fun _ => 0), 0, 0, 0) := ⟨fun q hq => absurd hq (Nat.not_lt_zero _), Nat.zero_le _, Nat.zero_le _, rfl⟩
theorem wd0 {G : GX} {H : Heap} : Wd G hE0 (fun _ => 0) (fun _ => 0) (fun _ _ => 0) H := ⟨⟨[], (fun _ => 0), fun k q h => by simp at h, ⟨fun i j p q h => by simp at h, fun k q h => by simp at h⟩, fun k hk => absurd hk.1 (Nat.not_lt_zero _), fun k k' hk => absurd hk.1 (Nat.not_lt_zero _)⟩, fun q k a h => (by cases h), fun q hq => absurd hq (Nat.not_lt_zero _), fun q _ => rfl⟩
/-- from the entry, for every script of at most 3072 ints, the law comes to its end with true -/
theorem whole_start {p : Program} {e : Env} {s : State} {m : MethodId} {below : List Frame} {meth : Method} {c : Code} (l : Launch) {b L : Nat} {xs : Nat → Int32} (hL : L ≤ 3072) (C0 : lw_At p s m meth c b L xs) : W p l e room_1 s m #[Value.ref b] below meth c s.heap [] 0 0 (lw_Z below #[Value.ref b] s) (entryFrame m ([Value.ref b] : List Value).toArray 4) := by
  obtain ⟨G, Z⟩ := lw_begin (l := l) (e := e) (below := below) hL C0
  obtain ⟨hx, hm, q1, n95, t1, I⟩ := inv0
  obtain ⟨hxe, hb, hr, hml, hown, hts, hX, hbl, hlocks, hgv⟩ := id C0
  have C := Z.2.1
  have t1' : mX12_init [.ref (hN hx)] (hNew hx (0, 12)) = some (none, hm) := by rw [n95]; exact t1
  obtain ⟨κ1, g1, k1, r1⟩ := new_fx (M := lwM) (pc := 0) (i := 7) (c := 11) cl11 fok11 gw21 gw22 gw1 dLs_0 dLs_3 aX11_init (RunK.I (i := 9) (n := 0) rfl (CN nX11_init (by decide) (by decide)) (Or.inl gw23) gw24 dLs_4) q1 gdk0
  obtain ⟨κ2, g2, k2, r2⟩ := new_fx (M := lwM) (pc := 8) (i := 10) (c := 12) cl12 fok12 gw1304 gw1305 gw20 dLs_8 dLs_11 aX12_init (RunK.I (i := 12) (n := 0) rfl (CN nX12_init (by decide) (by decide)) (Or.inl gw1306) gw1307 dLs_12) t1' g1
  have room := room_all 0 hm κ2 I g2
  rw [lg_entry_eq]
  have hl := lv_entry [Value.ref b] (n := 4) (Nat.le_of_ble_eq_true rfl)
  generalize ((lg_sl [Value.ref b] ++ List.replicate (4 - (lg_sl [Value.ref b]).length) Slot.unset).toArray) = ls at hl ⊢
  have hl : lv_has ls 4 [(0, .ref b)] := hl
  have A1 : AWl G (lwX p l e s m b below meth c) 4 (0 + 7) ls [] [va_rf (some (hN hE0))] hx κ1 := by
    intro H locs ad bk cells slots hW hLc hEn hV hS hn0 had hc hsl
    refine lv_astore_n (lv' := [(1, .ref (ad 0)), (0, .ref b)]) hxe hb dLs_7 rfl hl (by decide) rfl (fun ls1 hl1 => ?_)
    have A2 : AWl G (lwX p l e s m b below meth c) 4 (8 + 7) ls1 [.unset, .val (.ref 0)] [va_rf (some (hN hx))] hm κ2 := by
      intro H locs ad bk cells slots hW hLc hEn hV hS hn0 had hc hsl
      rw [n95]
      have hl2 : lv_has ls1 4 [(1, .ref (ad 0)), (0, .ref b)] := ⟨hLc.1, hLc.2.1, fun q hq => by
        simp only [List.mem_cons, List.not_mem_nil, or_false] at hq
        rcases hq with rfl | rfl
        · exact hLc.2.2 1 (.ref 0) rfl
        · exact lv_at hl1 1 rfl⟩
      refine lv_astore_n (lv' := [(2, .ref (ad 190)), (1, .ref (ad 0)), (0, .ref b)]) hxe hb dLs_15 rfl hl2 (by decide) rfl (fun ls2 hl3 => ?_)
      refine lv_iconst (v := iI ((6 * 0 : Nat) : Int)) hxe hb dLs_16 rfl ?_
      refine lv_istore_n (lv' := [(3, .int (iI ((6 * 0 : Nat) : Int))), (2, .ref (ad 190)), (1, .ref (ad 0)), (0, .ref b)]) hxe hb dLs_17 rfl hl3 (by decide) rfl (fun ls3 hl4 => ?_)
      exact law_loop Z 512 0 rfl hm κ2 I g2 ls3 (lv_at hl4 3 rfl) H locs ad bk cells slots hW ⟨hl4.1, hl4.2.1, fun k w hk => by
        match k, hk with
        | 0, hk => cases hk
        | 1, hk => cases hk; exact lv_at hl4 2 rfl
        | 2, hk => cases hk; exact lv_at hl4 1 rfl
        | 3, hk => cases hk; exact lv_at hl4 0 rfl
        | k + 4, hk => cases hk⟩ (envL_vok 0 I.gr) (fun w hw => absurd hw (List.not_mem_nil)) hS hn0 had hc hsl
    have n0 : 0 < hN hx := by rw [n95]; decide
    exact r2 G _ C room ls1 [.unset, .val (.ref 0)] [] (by show wds [] + 1 ≤ 8; exact (show 0 + 1 ≤ 8 by decide)) A2 H locs ad bk cells slots hW ⟨hl1.1, hl1.2.1, fun k w hk => by
      match k, hk with
      | 0, hk => cases hk
      | 1, hk => cases hk; exact lv_at hl1 0 rfl
      | k + 2, hk => cases hk⟩ (fun v hv => by
      simp only [List.mem_cons, List.not_mem_nil, or_false, reduceCtorEq, false_or, Slot.val.injEq] at hv
      subst hv
      exact fun q hq => by cases hq; exact n0) (fun w hw => absurd hw (List.not_mem_nil)) hS hn0 had hc hsl
  exact r1 G _ C (kle_tr k2 room) ls [] [] (by show wds [] + 1 ≤ 8; exact (show 0 + 1 ≤ 8 by decide)) A1 s.heap [] (fun _ => 0) (fun _ _ => 0) 0 0 wd0 ⟨hl.1, hl.2.1, fun k w hk => by cases hk⟩ (fun v hv => absurd hv (List.not_mem_nil)) (fun w hw => absurd hw (List.not_mem_nil)) va_S.rf (Nat.zero_le _) (fun q hq => absurd hq (Nat.not_lt_zero _)) rfl rfl
