/-! ===== Row.add, Row.copyFrom ===== -/
theorem sR_self (h : AH) (q : Nat) : sR h q (hR h q) = h := by
  show (h.1, h.2.1, h.2.2.1, h.2.2.2.1, h.2.2.2.2.1, u1 h.2.2.2.2.2 q (h.2.2.2.2.2 q)) = h
  rw [show u1 h.2.2.2.2.2 q (h.2.2.2.2.2 q) = h.2.2.2.2.2 by funext a; by_cases z : a = q <;> simp [u1, z]]
theorem sR_sR (h : AH) (q : Nat) (xs ys : List Int32) : sR (sR h q xs) q ys = sR h q ys := by
  show (h.1, h.2.1, h.2.2.1, h.2.2.2.1, h.2.2.2.2.1, u1 (u1 h.2.2.2.2.2 q xs) q ys) = _
  rw [show u1 (u1 h.2.2.2.2.2 q xs) q ys = u1 h.2.2.2.2.2 q ys by funext a; by_cases z : a = q <;> simp [u1, z]]
  rfl
theorem hR_sR (h : AH) (q : Nat) (xs : List Int32) : hR (sR h q xs) q = xs := u1_eq
theorem ne_odd (x q : Nat) : 2 * x ≠ 2 * q + 1 := by omega
theorem cvv_odd (ad : Nat → Nat) (q b : Nat) (v : Value) : cvv (u1 ad (2 * q + 1) b) v = cvv ad v := by
  cases v with
  | ref a => show Value.ref (u1 ad (2 * q + 1) b (2 * a)) = Value.ref (ad (2 * a)); rw [u1_ne (ne_odd a q)]
  | _ => rfl
theorem Lcs.odd {ls : Array Slot} {nL : Nat} {env : List Slot} {ad : Nat → Nat} {q b : Nat} (h : Lcs ls nL env ad) : Lcs ls nL env (u1 ad (2 * q + 1) b) := ⟨h.1, h.2.1, fun k v hk => by rw [cvv_odd]; exact h.2.2 k v hk⟩
def RowW : Prop := ClF 5 ∧ Cond.fieldLink RX5 9 (vwT 5 0).1 (vwT 5 0).2.1 (vwT 5 0).2.2.1 ∈ GW ∧ Cond.fieldLink RX5 15 (vwT 5 1).1 (vwT 5 1).2.1 (vwT 5 1).2.2.1 ∈ GW ∧
  (Cond.arrayClass .int ∈ GW ∧ Cond.methodLink RJ7 304 Lib.Math.min.name ∈ GW ∧ Cond.static Lib.Math.min.name ∈ GW ∧ Cond.initialized "java/lang/Math" ∈ GW ∧ Cond.code Lib.Math.min.name Lib.Math.min.code 2 (some .int) ∈ GW ∧ Cond.methodLink RJ7 150 arraycopyName ∈ GW ∧ Cond.native arraycopyName ∈ GW ∧ Cond.static arraycopyName ∈ GW ∧ Cond.initialized "java/lang/System" ∈ GW) ∧
  (Cond.methodLink RX5 19 yJ7_copyOf_59c91 ∈ GW ∧ Cond.static yJ7_copyOf_59c91 ∈ GW ∧ Cond.initialized "java/util/Arrays" ∈ GW ∧ Cond.code yJ7_copyOf_59c91 cJ7_copyOf_59c91 3 (some (.array .int)) ∈ GW) ∧
  (Cond.methodLink RX5 36 Lib.Math.min.name ∈ GW ∧ Cond.methodLink RX5 42 arraycopyName ∈ GW)
def addB : St := fun env h => match (env[0]? : Option Slot), (env[1]? : Option Slot) with
  | some (.val (.ref q)), some (.val (.int v)) => if (hT h q).1 = 1 ∧ (hR h q).length < (hT h q).2 then some (.inr none, env, sR h q (hR h q ++ [v])) else none
  | _, _ => none
theorem add_tail {dep : Nat} (RW : RowW) {G : GX} {X : CX} (C : CCx (RX5, cX5_add, 2, dep, false) G X) {h : AH} {q : Nat} {v : Int32} {caps ad : Nat → Nat} {bk : Nat → Nat → Int32} {H : Heap} (hW : Wd G h caps ad bk H) (ht : (hT h q).1 = 1) (hlt : (hR h q).length < caps q) {ls : Array Slot} {env : List Slot} (hL : Lcs ls 2 env ad) (e0 : env[0]? = some (.val (.ref q))) (e1 : env[1]? = some (.val (.int v))) {locs : List Loc} {cells slots : Nat} (hS : va_S (aBs G) X.2.1.1.heap H locs)
    (fin : ∀ H1 l1 bk1, Wd G (sR h q (hR h q ++ [v])) caps ad bk1 H1 → va_S (aBs G) X.2.1.1.heap H1 l1 → wX X H1 l1 cells slots (F0 X.2.1.2.1 79 ls [])) : wX X H locs cells slots (F0 X.2.1.2.1 40 ls []) := by
  obtain ⟨hc, w0, w1, -⟩ := RW
  obtain ⟨r1, r2, r3⟩ := row_bound hW ht
  refine lv_aload_n C.1 C.2.1 dX5_add_40 rfl (hL.2.2 0 _ e0) ?_
  refine r_size hc w1 C hW ht dX5_add_41 ?_
  refine lv_if_lt (tgt := 79) C.1 C.2.1 dX5_add_44 (by decide) (fun c1 => absurd c1 (nI_pos (by omega))) (fun _ => ?_)
  refine lv_aload_n C.1 C.2.1 dX5_add_47 rfl (hL.2.2 0 _ e0) ?_
  refine r_size hc w1 C hW ht dX5_add_48 ?_
  refine lv_aload_n C.1 C.2.1 dX5_add_51 rfl (hL.2.2 0 _ e0) ?_
  refine r_cells hc w0 C hW ht dX5_add_52 ?_
  refine r_alen C hW ht dX5_add_55 ?_
  refine lv_icmp_ge (tgt := 79) C.1 C.2.1 dX5_add_56 (by decide) (fun c2 => absurd ((nI_leI (by omega) (by omega)).mp c2) (by omega)) (fun _ => ?_)
  refine lv_aload_n C.1 C.2.1 dX5_add_59 rfl (hL.2.2 0 _ e0) ?_
  refine r_cells hc w0 C hW ht dX5_add_60 ?_
  refine lv_aload_n C.1 C.2.1 dX5_add_63 rfl (hL.2.2 0 _ e0) ?_
  refine r_size hc w1 C hW ht dX5_add_64 ?_
  refine lv_iload_n C.1 C.2.1 dX5_add_67 rfl (hL.2.2 1 _ e1) ?_
  refine r_ast (xs := hR h q) C hW ht ⟨nI_pos (by omega), by rw [nI_clamp (by omega)]; exact hlt⟩ rfl (fun a ha => ?_) hS dX5_add_68 (fun H1 l1 hW1 hS1 => ?_)
  · rw [nI_clamp (by omega), ← r3 a ha]
    simp [upd, show a ≠ (hR h q).length by omega]
  · rw [sR_self] at hW1
    refine lv_aload_n C.1 C.2.1 dX5_add_69 rfl (hL.2.2 0 _ e0) ?_
    refine lv_dup C.1 C.2.1 dX5_add_70 rfl ?_
    refine r_size hc w1 C hW1 ht dX5_add_71 ?_
    refine lv_iconst (v := 1) C.1 C.2.1 dX5_add_74 rfl ?_
    refine lv_iadd C.1 C.2.1 dX5_add_75 ?_
    refine r_put (xs := hR h q ++ [v]) hc w1 C hW1 ht (by rw [List.length_append]; exact nI_1 _) (by rw [List.length_append]; exact hlt) (fun a ha => ?_) hS1 dX5_add_76 (fun H2 l2 hW2 hS2 => fin H2 l2 _ hW2 hS2)
    rw [u1_eq, nI_clamp (by omega), List.getD_eq_getElem?_getD]
    by_cases ea : a = (hR h q).length
    · subst ea
      simp [upd]
    · rw [List.length_append] at ha
      have hlt2 : a < (hR h q).length := by simp at ha; omega
      rw [List.getElem?_append_left hlt2, ← List.getD_eq_getElem?_getD, ← r3 a hlt2]
      simp [upd, ea]
set_option maxHeartbeats 1000000 in
theorem add_J {dep : Nat} (hdep : 2 ≤ dep) (RW : RowW) : JS (RX5, cX5_add, 2, dep, false) 0 0 0 80 [] addB := by
  intro env h r env' h' e κ hκ
  unfold addB at e
  split at e
  · rename_i q v e0 e1
    split at e
    · rename_i ht
      obtain ⟨ht, hlim⟩ := ht
      cases e
      have hq9 : ∀ {G ad bk H}, Wd G h κ.1 ad bk H → q < hN h := fun hW => hW.lt (by omega)
      obtain ⟨hc, w0, w1, wC, wA, -⟩ := id RW
      by_cases hroom : (hR h q).length < κ.1 q
      · refine ⟨κ, hκ.same rfl rfl, kle_rf κ, fun G X C hE _ _ _ A => ?_⟩
        intro H locs ls ad bk cells slots hW hL hEn hV hS hn0 had hcc hsl
        obtain ⟨r1, r2, r3⟩ := row_bound hW ht
        refine lv_aload_n C.1 C.2.1 dX5_add_0 rfl (hL.2.2 0 _ e0) ?_
        refine r_size hc w1 C hW ht dX5_add_1 ?_
        refine lv_aload_n C.1 C.2.1 dX5_add_4 rfl (hL.2.2 0 _ e0) ?_
        refine r_cells hc w0 C hW ht dX5_add_5 ?_
        refine r_alen C hW ht dX5_add_8 ?_
        refine lv_icmp_lt (tgt := 40) C.1 C.2.1 dX5_add_9 (by decide) (fun _ => ?_) (fun c1 => absurd ((nI_ltI (by omega) (by omega)).mpr hroom) c1)
        exact add_tail RW C hW ht hroom hL e0 e1 hS fun H1 l1 bk1 hW1 hS1 => A _ rfl 79 env dX5_add_79 H1 l1 ls ad bk1 cells slots hW1 hL hEn (fun w hw => by cases hw) hS1 hn0 had hcc hsl
      · by_cases hqn : q < hN h
        · obtain ⟨j, J, ej, eJ, hjJ, hJ⟩ := hκ.1 q hqn ht
          have hjlt : j + 1 ≤ J := by
            rcases Nat.lt_or_ge j J with z | z
            · exact z
            · have e : j = J := Nat.le_antisymm hjJ z
              subst e
              omega
          have hp10 : 2 ^ (j + 1) ≤ 2 ^ 10 := Nat.pow_le_pow_right (by decide) (by omega)
          have hps : 2 ^ (j + 1) = 2 * 2 ^ j := Nat.pow_succ'
          have hp0 : 0 < 2 ^ j := Nat.pow_pos (by decide)
          have hc2 : 2 * κ.1 q = 16 * 2 ^ (j + 1) := by omega
          have hb1 : 2 * κ.1 q ≤ 16384 := by omega
          have g1 : Gdk (sR h q (hR h q ++ [v])) (u1 κ.1 q (2 * κ.1 q), κ.2.1 + 1, κ.2.2.1 + 2 * κ.1 q, κ.2.2.2) := hκ.grow hqn ht rfl rfl hc2 eJ hjlt hJ (Nat.le_refl _) (Nat.le_refl _)
          refine ⟨_, g1, ⟨Nat.le_succ _, Nat.le_add_right _ _, Nat.le_refl _⟩, fun G X C hE _ _ _ A => ?_⟩
          intro H locs ls ad bk cells slots hW hL hEn hV hS hn0 had hcc hsl
          obtain ⟨r1, r2, r3⟩ := row_bound hW ht
          have hcap : cells + 1 ≤ X.1.2.2.2.cells ∧ slots + 2 * κ.1 q ≤ X.1.2.2.2.slots := by
            have a1 := C.2.2.2.2.2.2.2.2.1
            have a2 := C.2.2.2.2.2.2.2.2.2.1
            have a5 := hE.1
            have a6 := hE.2.1
            dsimp only at a5 a6
            omega
          have hfr := C.2.2.2.2.2.2.1
          have hlo := C.2.2.2.2.2.2.2.1
          dsimp only at hfr hlo
          refine lv_aload_n C.1 C.2.1 dX5_add_0 rfl (hL.2.2 0 _ e0) ?_
          refine r_size hc w1 C hW ht dX5_add_1 ?_
          refine lv_aload_n C.1 C.2.1 dX5_add_4 rfl (hL.2.2 0 _ e0) ?_
          refine r_cells hc w0 C hW ht dX5_add_5 ?_
          refine r_alen C hW ht dX5_add_8 ?_
          refine lv_icmp_lt (tgt := 40) C.1 C.2.1 dX5_add_9 (by decide) (fun c1 => absurd ((nI_ltI (by omega) (by omega)).mp c1) hroom) (fun _ => ?_)
          refine lv_aload_n C.1 C.2.1 dX5_add_12 rfl (hL.2.2 0 _ e0) ?_
          refine r_size hc w1 C hW ht dX5_add_13 ?_
          refine lv_sipush (v := nI 16384) C.1 C.2.1 dX5_add_16 (by decide) ?_
          refine lv_icmp_ge (tgt := 40) C.1 C.2.1 dX5_add_19 (by decide) (fun c1 => absurd ((nI_leI (by omega) (by omega)).mp c1) (by omega)) (fun _ => ?_)
          refine lv_aload_n C.1 C.2.1 dX5_add_22 rfl (hL.2.2 0 _ e0) ?_
          refine lv_aload_n C.1 C.2.1 dX5_add_23 rfl (hL.2.2 0 _ e0) ?_
          refine r_cells hc w0 C hW ht dX5_add_24 ?_
          refine lv_iconst (v := nI 2) C.1 C.2.1 dX5_add_27 rfl ?_
          refine lv_aload_n C.1 C.2.1 dX5_add_28 rfl (hL.2.2 0 _ e0) ?_
          refine r_cells hc w0 C hW ht dX5_add_29 ?_
          refine r_alen C hW ht dX5_add_32 ?_
          refine lv_imul C.1 C.2.1 dX5_add_33 ?_
          rw [pk_mul]
          obtain ⟨⟨ws, pos, hP', hD, p1, p2⟩, b1, b2, b3⟩ := hW
          have ea := p1 (2 * q + 1) (lvk_arr hqn ht)
          rw [enn_arr] at ea
          have em := p1 (2 * q) (lvk_main hqn)
          rw [enn_main, ekk_row ht] at em
          have hM := c_copyOf X.1.2.1 G ws (pos (2 * q + 1)) (ad (2 * q + 1)) (κ.1 q) (2 * κ.1 q) (bk q) ea (by omega) (by omega) wC.1 wC.2.1 wC.2.2.1 wC.2.2.2.1 wC.2.2.2.2.1 wC.2.2.2.2.2.1 wC.2.2.2.2.2.2.1 wC.2.2.2.2.2.2.2.1 wC.2.2.2.2.2.2.2.2
          have hB : CallB X.1.2.2.2 X.2.1.1 X.2.1.2.2.1 RX5 19 yJ7_copyOf_59c91 cJ7_copyOf_59c91 3 (some (.array .int)) (Cond.code yJ7_copyOf_59c91 cJ7_copyOf_59c91 3 (some (.array .int)) :: GW) ({ frames := 1, cells := 1, slots := 2 * κ.1 q, locals := 100 } : Room) 1 (2 * κ.1 q) 2 := callB_of 2 C.2.2.2.2.1 (gw_in wA.2.2.2) rfl rfl rfl (C.2.2.2.2.1 _ wA.2.2.1) (C.2.2.2.2.1 _ wA.1) (by decide +kernel) ⟨by show 1 + 1 ≤ _; omega, by show 8 + (3 + 11) + 100 ≤ _; omega⟩
          refine va_callr (va_runS (As := [.ref (ad (2 * q + 1)), .int (nI (2 * κ.1 q))]) (rest := [.ref (ad (2 * q))]) ⟨C.1, C.2.1, C.2.2.1, C.2.2.2.1, C.2.2.2.2.1⟩ hM ⟨hB, C.2.2.2.2.1 _ wA.2.1⟩ ⟨PcW.blind, fun U hU hw => ⟨rfl, by rw [hU]; exact hP', hD, by rw [hU]; exact C.2.2.2.2.2.1.next hw fun a h1 h2 => hS.2.1 a h1 h2, by rw [hU]; exact Nat.le_trans C.2.2.2.2.2.2.2.2.2.2.1 hS.1⟩⟩ rfl rfl hL.1 rfl (by show 2 * 0 + 1 ≤ 8; decide) dX5_add_34 hcap) hS (fun _ _ z => z) (fun _ z => z) fun u b t H1 l1 e1' _ _ hBB _ _ hS1 => ?_
          obtain ⟨hP1, hD1⟩ := hBB
          rw [e1'] at hP1
          have hlt0 : pos (2 * q) < ws.length := (List.getElem?_eq_some_iff.mp em).1
          refine va_put C.1 C.2.1 (Ts := GW) C.2.2.2.2.1 hc.2.1 (vwY 5) hc.2.2.1 hc.2.2.2.1 C.2.2.2.1 C.2.2.2.2.2.1.1 hP1 hD1 hS1 (pos (2 * q)) (by rw [List.getElem?_append_left hlt0]; exact em) hc.1 0 (by decide) (C.2.2.2.2.1 _ w0) (fun _ z => z) rfl (hc.2.2.1 0 (by decide)) (v := .ref b) rfl rfl (by simp) dX5_add_37 fun H2 l2 pp dd ss => ?_
          have hW2 := Wd.swap (xs := hR h q) p1 p2 b1 b2 b3 hqn ht rfl (by omega) (by omega) (fun i hi => by rw [pk_cpy_in (Nat.zero_le _) (by omega), ← r3 i hi]; congr 1; omega) pp dd
          rw [sR_self] at hW2
          refine add_tail RW C hW2 ht (by rw [u1_eq]; omega) hL.odd e0 e1 ss fun H3 l3 bk3 hW3 hS3 => A _ rfl 79 env dX5_add_79 H3 l3 ls _ bk3 _ _ hW3 hL.odd hEn (fun w hw => by cases hw) hS3 hn0 (fun q' hq' => by rw [u1_ne (ne_odd q' q)]; exact had q' hq') (by dsimp only; omega) (by dsimp only; omega)
        · exact ⟨κ, hκ.same rfl rfl, kle_rf κ, fun G X C hE _ _ _ A H locs ls ad bk cells slots hW => absurd (hq9 hW) hqn⟩
    · cases e
  · cases e
/-- the ints of one Row are copied into another's -/
theorem r_acp {M : MI} {G : GX} {X : CX} {h : AH} {q q2 : Nat} {caps ad : Nat → Nat} {bk : Nat → Nat → Int32} {H : Heap} {locs : List Loc} {ls : Array Slot} {cells slots pc i : Nat} (w6 : Cond.methodLink M.1 i arraycopyName ∈ GW) (w7 : Cond.native arraycopyName ∈ GW) (w8 : Cond.static arraycopyName ∈ GW) (w9 : Cond.initialized "java/lang/System" ∈ GW) (C : CCx M G X) (hW : Wd G h caps ad bk H) (ht : (hT h q).1 = 1) (ht2 : (hT h q2).1 = 1) (hls : ls.size = M.2.2.1) (hdep : 1 ≤ M.2.2.2.1) {m : Nat} (hm1 : m ≤ caps q) (hm2 : m ≤ caps q2) {xs : List Int32} (hl : xs.length = (hR h q).length) (hx : ∀ i, i < xs.length → va_cpy (bk q2) (bk q) 0 0 m i = xs.getD i 0) (hS : va_S (aBs G) X.2.1.1.heap H locs) (d : decode M.2.1 pc = .ok (.invokestatic i, 3)) (kk : ∀ H1 locs1, Wd G (sR h q xs) caps ad (u1 bk q (va_cpy (bk q2) (bk q) 0 0 m)) H1 → va_S (aBs G) X.2.1.1.heap H1 locs1 → wX X H1 locs1 cells slots (F0 X.2.1.2.1 (pc + 3) ls [])) : wX X H locs cells slots (F0 X.2.1.2.1 pc ls [.int (nI m), .int 0, .ref (ad (2 * q + 1)), .int 0, .ref (ad (2 * q2 + 1))]) := by
  have hq := hW.lt (q := q) (by omega)
  have hq2 := hW.lt (q := q2) (by omega)
  obtain ⟨⟨ws, pos, hP', hD, h1, h2⟩, b1, b2, b3⟩ := hW
  have e := h1 (2 * q + 1) (lvk_arr hq ht)
  rw [enn_arr] at e
  have e2 := h1 (2 * q2 + 1) (lvk_arr hq2 ht2)
  rw [enn_arr] at e2
  have eR : hR (sR h q xs) q = xs := u1_eq
  have c1 := (b2 q hq ht).2.1
  have hlo := C.2.2.2.2.2.2.2.1
  refine va_copyi C.1 C.2.1 (C.2.2.1.trans hls.symm) C.2.2.2.1 (C.2.2.2.2.1 _ w6) (C.2.2.2.2.1 _ w7) (C.2.2.2.2.1 _ w8) (C.2.2.2.2.1 _ w9) C.2.2.2.2.2.1.1 hP' hD hS (pos (2 * q2 + 1)) (pos (2 * q + 1)) 0 0 e2 e rfl rfl rfl (sp := 0) (dp := 0) (n := nI m) (by decide) (by decide) (nI_pos (by omega)) (by rw [nI_clamp (by omega)]; show 0 + m ≤ _; omega) (by rw [nI_clamp (by omega)]; show 0 + m ≤ _; omega) (fun _ _ => rfl) (Nat.le_trans hdep C.2.2.2.2.2.2.1) (Nat.le_trans (by decide : _ ≤ 100) (Nat.le_trans (by omega) hlo)) d fun H1 l1 pp dd ss => ?_
  rw [nI_clamp (show m < 2 ^ 31 by omega)] at pp dd
  refine kk H1 l1 (Wd.upd h1 h2 (lvk_arr hq ht) pp dd rfl rfl ?_ (fun k hk hlk => ?_) b1 (fun q' hq' hr' => ?_) b3) ss
  · rw [enn_arr, u1_eq]
    rfl
  · unfold enn
    by_cases h0 : k % 2 = 0
    · rw [if_pos h0, if_pos h0]
      congr 1
      by_cases eq : k / 2 = q
      · rw [eq, ekk_row (by exact ht), ekk_row ht, eR, hl]
      · exact ekk_ne rfl rfl rfl rfl (u1_ne eq)
    · rw [if_neg h0, if_neg h0]
      have eq : k / 2 ≠ q := by omega
      rw [u1_ne eq]
  · by_cases eq : q' = q
    · subst eq
      rw [eR, u1_eq, hl]
      exact ⟨(b2 q' hq' hr').1, (b2 q' hq' hr').2.1, fun i hi => hx i (by omega)⟩
    · have e1 : hR (sR h q xs) q' = hR h q' := u1_ne eq
      rw [e1, u1_ne eq]
      exact b2 q' hq' hr'
def copyB : St := fun env h => match (env[0]? : Option Slot), (env[1]? : Option Slot) with
  | some (.val (.ref q)), some (.val (.ref q2)) => if (hT h q).1 = 1 ∧ (hT h q2).1 = 1 ∧ (hT h q2).2 ≤ (hT h q).2 ∧ q ≠ q2 then some (.inr none, env, sR h q (hR h q2)) else none
  | _, _ => none
theorem getD_map_range (f : Nat → Int32) (m i : Nat) (hi : i < m) : ((List.range m).map f).getD i 0 = f i := by
  rw [List.getD_eq_getElem?_getD, List.getElem?_map, List.getElem?_range hi]
  rfl
theorem copy_tail {dep : Nat} (hdep : 2 ≤ dep) (RW : RowW) {G : GX} {X : CX} (C : CCx (RX5, cX5_copyFrom, 2, dep, false) G X) {h : AH} {q q2 : Nat} {caps ad : Nat → Nat} {bk : Nat → Nat → Int32} {H : Heap} (hW : Wd G h caps ad bk H) (ht : (hT h q).1 = 1) (ht2 : (hT h q2).1 = 1) (hne : q ≠ q2) (hlt : (hR h q2).length ≤ caps q) {ls : Array Slot} {env : List Slot} (hL : Lcs ls 2 env ad) (e0 : env[0]? = some (.val (.ref q))) (e1 : env[1]? = some (.val (.ref q2))) {locs : List Loc} {cells slots : Nat} (hcap : cells ≤ X.1.2.2.2.cells ∧ slots ≤ X.1.2.2.2.slots) (hS : va_S (aBs G) X.2.1.1.heap H locs)
    (fin : ∀ H1 l1 bk1, Wd G (sR h q (hR h q2)) caps ad bk1 H1 → va_S (aBs G) X.2.1.1.heap H1 l1 → wX X H1 l1 cells slots (F0 X.2.1.2.1 56 ls [])) : wX X H locs cells slots (F0 X.2.1.2.1 23 ls []) := by
  obtain ⟨hc, w0, w1, wC, wA, wB⟩ := RW
  obtain ⟨r1, r2, r3⟩ := row_bound hW ht
  obtain ⟨s1, s2, s3⟩ := row_bound hW ht2
  have hfr := C.2.2.2.2.2.2.1
  have hlo := C.2.2.2.2.2.2.2.1
  dsimp only at hfr hlo
  refine lv_aload_n C.1 C.2.1 dX5_copyFrom_23 rfl (hL.2.2 0 _ e0) ?_
  refine lv_aload_n C.1 C.2.1 dX5_copyFrom_24 rfl (hL.2.2 1 _ e1) ?_
  refine r_size hc w1 C hW ht2 dX5_copyFrom_25 ?_
  refine lv_aload_n C.1 C.2.1 dX5_copyFrom_28 rfl (hL.2.2 0 _ e0) ?_
  refine r_cells hc w0 C hW ht dX5_copyFrom_29 ?_
  refine r_alen C hW ht dX5_copyFrom_32 ?_
  refine va_mmin C.1 C.2.1 (C.2.2.1.trans hL.1.symm) C.2.2.2.1 (C.2.2.2.2.1 _ wB.1) (C.2.2.2.2.1 _ wC.2.2.1) (C.2.2.2.2.1 _ wC.2.2.2.1) (C.2.2.2.2.1 _ wC.2.2.2.2.1) (by omega) (by show 1 + 13 ≤ _; omega) hcap.1 hcap.2 dX5_copyFrom_33 ?_
  rw [if_neg (nI_nlt hlt (by omega))]
  refine r_put (xs := (List.range (hR h q2).length).map (bk q)) hc w1 C hW ht (by simp) (by simp; exact hlt) (fun a ha => ?_) hS dX5_copyFrom_36 fun H1 l1 hW1 hS1 => ?_
  · rw [getD_map_range _ _ _ (by simpa using ha)]
  have eq2 : hR (sR h q ((List.range (hR h q2).length).map (bk q))) q2 = hR h q2 := u1_ne (fun z => hne z.symm)
  have eqq : hR (sR h q ((List.range (hR h q2).length).map (bk q))) q = (List.range (hR h q2).length).map (bk q) := u1_eq
  refine lv_aload_n C.1 C.2.1 dX5_copyFrom_39 rfl (hL.2.2 1 _ e1) ?_
  refine r_cells hc w0 C hW1 ht2 dX5_copyFrom_40 ?_
  refine lv_iconst (v := 0) C.1 C.2.1 dX5_copyFrom_43 rfl ?_
  refine lv_aload_n C.1 C.2.1 dX5_copyFrom_44 rfl (hL.2.2 0 _ e0) ?_
  refine r_cells hc w0 C hW1 ht dX5_copyFrom_45 ?_
  refine lv_iconst (v := 0) C.1 C.2.1 dX5_copyFrom_48 rfl ?_
  refine lv_aload_n C.1 C.2.1 dX5_copyFrom_49 rfl (hL.2.2 0 _ e0) ?_
  refine r_size hc w1 C hW1 ht dX5_copyFrom_50 ?_
  rw [eqq, List.length_map, List.length_range]
  refine r_acp (xs := hR h q2) wB.2 wC.2.2.2.2.2.2.1 wC.2.2.2.2.2.2.2.1 wC.2.2.2.2.2.2.2.2 C hW1 ht ht2 hL.1 (by show 1 ≤ dep; omega) hlt s1 (by rw [eqq]; simp) (fun a ha => ?_) hS1 dX5_copyFrom_53 fun H2 l2 hW2 hS2 => ?_
  · rw [pk_cpy_in (Nat.zero_le _) (by omega), ← s3 a ha]
    congr 1
    omega
  · rw [sR_sR] at hW2
    exact fin H2 l2 _ hW2 hS2
set_option maxHeartbeats 1000000 in
theorem copy_J {dep : Nat} (hdep : 2 ≤ dep) (RW : RowW) : JS (RX5, cX5_copyFrom, 2, dep, false) 0 0 0 57 [] copyB := by
  intro env h r env' h' e κ hκ
  unfold copyB at e
  split at e
  · rename_i q q2 e0 e1
    split at e
    · rename_i ht
      obtain ⟨ht, ht2, hlim, hne⟩ := ht
      cases e
      obtain ⟨hc, w0, w1, wC, wA, wB⟩ := id RW
      by_cases hroom : (hR h q2).length ≤ κ.1 q
      · refine ⟨κ, hκ.same rfl rfl, kle_rf κ, fun G X C hE _ _ _ A => ?_⟩
        intro H locs ls ad bk cells slots hW hL hEn hV hS hn0 had hcc hsl
        obtain ⟨r1, r2, r3⟩ := row_bound hW ht
        obtain ⟨s1, s2, s3⟩ := row_bound hW ht2
        have hcap : cells ≤ X.1.2.2.2.cells ∧ slots ≤ X.1.2.2.2.slots := by
          have a1 := C.2.2.2.2.2.2.2.2.1
          have a2 := C.2.2.2.2.2.2.2.2.2.1
          have a5 := hE.1
          have a6 := hE.2.1
          omega
        refine lv_aload_n C.1 C.2.1 dX5_copyFrom_0 rfl (hL.2.2 0 _ e0) ?_
        refine r_cells hc w0 C hW ht dX5_copyFrom_1 ?_
        refine r_alen C hW ht dX5_copyFrom_4 ?_
        refine lv_aload_n C.1 C.2.1 dX5_copyFrom_5 rfl (hL.2.2 1 _ e1) ?_
        refine r_size hc w1 C hW ht2 dX5_copyFrom_6 ?_
        refine lv_icmp_ge (tgt := 23) C.1 C.2.1 dX5_copyFrom_9 (by decide) (fun _ => ?_) (fun c1 => absurd ((nI_leI (by omega) (by omega)).mpr hroom) c1)
        exact copy_tail hdep RW C hW ht ht2 hne hroom hL e0 e1 hcap hS fun H1 l1 bk1 hW1 hS1 => A _ rfl 56 env dX5_copyFrom_56 H1 l1 ls ad bk1 cells slots hW1 hL hEn (fun w hw => by cases hw) hS1 hn0 had hcc hsl
      · by_cases hqn : (q < hN h ∧ q2 < hN h) ∧ κ.1 q < κ.1 q2
        · obtain ⟨⟨hqn, hqn2⟩, hcc2⟩ := hqn
          obtain ⟨j, J, ej, eJ, hjJ, hJ⟩ := hκ.1 q hqn ht
          obtain ⟨j2, J2, ej2, eJ2, hjJ2, hJ2⟩ := hκ.1 q2 hqn2 ht2
          have hj : j + 1 ≤ j2 := by
            rcases Nat.lt_or_ge j j2 with z | z
            · exact z
            · have := Nat.pow_le_pow_right (n := 2) (by decide) z
              omega
          have hJJ : J2 ≤ J := by
            rcases Nat.lt_or_ge J J2 with z | z
            · have a := Nat.pow_le_pow_right (n := 2) (by decide) z
              have b : 2 ^ (J + 1) = 2 * 2 ^ J := Nat.pow_succ'
              have c : 0 < 2 ^ J := Nat.pow_pos (by decide)
              have : 2 ^ J.succ ≤ 2 ^ J2 := a
              rw [Nat.succ_eq_add_one] at this
              omega
            · exact z
          have hp10 : 2 ^ j2 ≤ 2 ^ 10 := Nat.pow_le_pow_right (by decide) (by omega)
          have hps : 2 ^ (j + 1) = 2 * 2 ^ j := Nat.pow_succ'
          have hpj : 2 ^ (j + 1) ≤ 2 ^ j2 := Nat.pow_le_pow_right (by decide) hj
          have g1 : Gdk (sR h q (hR h q2)) (u1 κ.1 q (κ.1 q2), κ.2.1 + 1, κ.2.2.1 + κ.1 q2, κ.2.2.2) := hκ.grow hqn ht rfl rfl ej2 eJ (Nat.le_trans hjJ2 hJJ) hJ (by omega) (Nat.le_refl _)
          refine ⟨_, g1, ⟨Nat.le_succ _, Nat.le_add_right _ _, Nat.le_refl _⟩, fun G X C hE _ _ _ A => ?_⟩
          intro H locs ls ad bk cells slots hW hL hEn hV hS hn0 had hcc hsl
          obtain ⟨r1, r2, r3⟩ := row_bound hW ht
          obtain ⟨s1, s2, s3⟩ := row_bound hW ht2
          have hcap : cells + 1 ≤ X.1.2.2.2.cells ∧ slots + κ.1 q2 ≤ X.1.2.2.2.slots := by
            have a1 := C.2.2.2.2.2.2.2.2.1
            have a2 := C.2.2.2.2.2.2.2.2.2.1
            have a5 := hE.1
            have a6 := hE.2.1
            dsimp only at a5 a6
            omega
          refine lv_aload_n C.1 C.2.1 dX5_copyFrom_0 rfl (hL.2.2 0 _ e0) ?_
          refine r_cells hc w0 C hW ht dX5_copyFrom_1 ?_
          refine r_alen C hW ht dX5_copyFrom_4 ?_
          refine lv_aload_n C.1 C.2.1 dX5_copyFrom_5 rfl (hL.2.2 1 _ e1) ?_
          refine r_size hc w1 C hW ht2 dX5_copyFrom_6 ?_
          refine lv_icmp_ge (tgt := 23) C.1 C.2.1 dX5_copyFrom_9 (by decide) (fun c1 => absurd ((nI_leI (by omega) (by omega)).mp c1) hroom) (fun _ => ?_)
          refine lv_aload_n C.1 C.2.1 dX5_copyFrom_12 rfl (hL.2.2 0 _ e0) ?_
          refine lv_aload_n C.1 C.2.1 dX5_copyFrom_13 rfl (hL.2.2 1 _ e1) ?_
          refine r_cells hc w0 C hW ht2 dX5_copyFrom_14 ?_
          refine r_alen C hW ht2 dX5_copyFrom_17 ?_
          obtain ⟨⟨ws, pos, hP', hD, p1, p2⟩, b1, b2, b3⟩ := hW
          have em := p1 (2 * q) (lvk_main hqn)
          rw [enn_main, ekk_row ht] at em
          refine va_newa (atype := .int) (a0 := (κ.1 q2, .inl (fun _ => 0))) C.1 C.2.1 (C.2.2.2.2.1 _ wC.1) rfl C.2.2.2.2.2.1.1 hP' hD hS (fun x hx => Nat.le_trans C.2.2.2.2.2.2.2.2.2.2.1 hx) (fun _ => rfl) (nI_pos (by omega)) (nI_clamp (by omega)) (by show κ.1 q2 * 4 ≤ _; omega) hcap.1 hcap.2 dX5_copyFrom_18 fun b cA H1 hK1 hP1 hD1 hS1 => ?_
          have ecA : cA = G.2.1 0 := by
            have k1 := (hK1.2 4 (cA, .int) rfl).2
            have k2 := (hK1.2 0 (G.2.1 0, .int) rfl).2
            exact Option.some.inj (Eq.trans (Eq.symm k1) k2)
          subst ecA
          have hlt0 : pos (2 * q) < ws.length := (List.getElem?_eq_some_iff.mp em).1
          refine va_put C.1 C.2.1 (Ts := GW) C.2.2.2.2.1 hc.2.1 (vwY 5) hc.2.2.1 hc.2.2.2.1 C.2.2.2.1 C.2.2.2.2.2.1.1 hP1 hD1 hS1 (pos (2 * q)) (by rw [List.getElem?_append_left hlt0]; exact em) hc.1 0 (by decide) (C.2.2.2.2.1 _ w0) (fun _ z => z) rfl (hc.2.2.1 0 (by decide)) (v := .ref b) rfl rfl (by simp) dX5_copyFrom_20 fun H2 l2 pp dd ss => ?_
          have hW2 := Wd.swap (xs := List.replicate (hR h q).length 0) p1 p2 b1 b2 b3 hqn ht (by simp) (by simp; omega) (by omega) (fun i hi => by simp [List.getElem?_replicate]; split <;> rfl) pp dd
          have eq2 : hR (sR h q (List.replicate (hR h q).length 0)) q2 = hR h q2 := u1_ne (fun z => hne z.symm)
          refine copy_tail hdep RW C hW2 ht ht2 hne (by rw [eq2, u1_eq]; exact s1) hL.odd e0 e1 hcap ss fun H3 l3 bk3 hW3 hS3 => ?_
          rw [sR_sR, eq2] at hW3
          exact A _ rfl 56 env dX5_copyFrom_56 H3 l3 ls _ bk3 _ _ hW3 hL.odd hEn (fun w hw => by cases hw) hS3 hn0 (fun q' hq' => by rw [u1_ne (ne_odd q' q)]; exact had q' hq') (by dsimp only; omega) (by dsimp only; omega)
        · refine ⟨κ, hκ.same rfl rfl, kle_rf κ, fun G X C hE _ _ _ A H locs ls ad bk cells slots hW => absurd ⟨⟨hW.lt (by omega), hW.lt (by omega)⟩, ?_⟩ hqn⟩
          have := (row_bound hW ht2).1
          omega
    · cases e
  · cases e
