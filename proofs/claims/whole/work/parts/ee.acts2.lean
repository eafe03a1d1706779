/-! ===== L2: forget, spoil, smash, days, chance, clean over the invariant (by mkee.py) ===== -/
theorem st_cnt {n : Nat} {nu : List Int} {ts : Nat → List (Int × Int)} {K : KT} {cf : List (List Int)} {PF : List Int} {Ks : Nat → KT} {u : Nat} {T G MT : List Int} {st : Bool} {x : Int} (P : PI n nu ts K cf PF Ks u T G MT st x) {b : Int} (h : 0 < cnt K b) : st = true := by
  cases st with
  | true => rfl
  | false =>
    have z := (P.2.2.2.2.2.1 rfl).2.1 b.toNat
    unfold cnt at h
    rw [z] at h
    split at h
    · rw [if_neg (by decide)] at h; exact absurd h (by decide)
    · exact absurd h (by decide)
theorem st_brk {n : Nat} {nu : List Int} {ts : Nat → List (Int × Int)} {K : KT} {cf : List (List Int)} {PF : List Int} {Ks : Nat → KT} {u : Nat} {T G MT : List Int} {st : Bool} {x : Int} (P : PI n nu ts K cf PF Ks u T G MT st x) {j : Int} (h : brk K j = 0) : st = true := by
  cases st with
  | true => rfl
  | false =>
    have z := (P.2.2.2.2.2.1 rfl).1
    unfold brk at h
    rw [z] at h
    unfold gt at h
    split at h
    · simp at h
    · exact absurd h (by decide)
theorem st_chL {n : Nat} {nu : List Int} {ts : Nat → List (Int × Int)} {K : KT} {cf : List (List Int)} {PF : List Int} {Ks : Nat → KT} {u : Nat} {T G MT : List Int} {st : Bool} {x : Int} (P : PI n nu ts K cf PF Ks u T G MT st x) {d : Nat → Bool} (h : ¬ (chL d (kX K).length).sum = 0) : st = true := by
  cases st with
  | true => rfl
  | false =>
    rw [(P.2.2.2.2.2.1 rfl).1] at h
    exact absurd rfl h
theorem S_forget {n : Nat} {h : AH} (I : Inv n h) (hn : n < 512) (a1 : Int32) : StpI n h mX11_forget mX12_forget [.int a1] := by
  obtain ⟨r, r', nu, ts, idm, K, cf, PF, Ks, u, m, pn, bk, nv, tv, a, M, T, G, MT, st, x, fk, fp, C, L, D, E, P, V⟩ := I
  obtain ⟨b1, rfl, hb1⟩ := iI_self a1
  have X := C.1
  have ok := X.2.2.2.2.2.1
  have H := C.2.2.2.2.2.2.1
  have hu := H.1
  have G6 := P.2.2.2.2.2.2.2.2.2.1
  have hx := P.2.2.2.2.2.2.2.2.2.2.1
  have ch := P.2.2.2.2.1
  have sk : SaK K (dropB K b1.toNat) := ⟨rfl, rfl, rfl, rfl, rfl, rfl⟩
  rcases C_forget X H G L.2.1 G6 b1 hb1 with ⟨c, h1, m1, q1, w, X', H'⟩ | ⟨c, q1⟩
  · have hst : st = true := st_cnt P c
    obtain ⟨C1, L1, D1, E1⟩ := act1 C L D E ch w.w (by unfold acR; simp) (by simp) (x' := x) (by rw [w.w.2.1 (by decide) 15 (by decide) (by decide)]; exact L.2.2.2.2.2.2) X' H' sk
    obtain ⟨v1, v2⟩ := V.2.2.2.2 hst
    rw [v1, v2] at D1 V
    rcases M_forget C1.1.1 ok D1.2.1 D1.2.2.1 G E1.2.1 b1 hb1 with ⟨-, h2, a2, t1, f2, km, hi, zf⟩ | ⟨c', -⟩
    · obtain ⟨C2, L2, D2, E2⟩ := act2 hu C1 L1 D1 E1 f2 (by decide) (by decide) (by rw [f2.2.2.2.2.2.2 95 (by decide)]; exact E1.2.2.2.2.2.2) km hi zf sk
      exact ⟨_, h1, h2, q1, t1, C1.1.1, r, r', nu, ts, idm, _, cf, PF, _, _, m1, _, bk, nu, ts, a2, _, T, G, MT, st, _, fk, fp, C2, L2, D2, E2, P.act ok hu hst sk hx, V⟩
    · exact absurd c c'
  · obtain ⟨C1, D1, E1, I2⟩ := refuse2 (by decide) C L D E P V 3 (by decide)
    rcases M_forget C1.1.1 ok D1.2.1 D1.2.2.1 G E1.2.1 b1 hb1 with ⟨c', -⟩ | ⟨-, t1⟩
    · exact absurd c' c
    · exact ⟨_, _, _, q1, t1, C1.1.1, I2⟩
theorem S_spoil {n : Nat} {h : AH} (I : Inv n h) (hn : n < 512) (a1 a2 : Int32) : StpI n h mX11_spoil mX12_spoil [.int a1, .int a2] := by
  obtain ⟨r, r', nu, ts, idm, K, cf, PF, Ks, u, m, pn, bk, nv, tv, a, M, T, G, MT, st, x, fk, fp, C, L, D, E, P, V⟩ := I
  obtain ⟨b1, rfl, hb1⟩ := iI_self a1
  obtain ⟨b2, rfl, hb2⟩ := iI_self a2
  have X := C.1
  have ok := X.2.2.2.2.2.1
  have H := C.2.2.2.2.2.2.1
  have hu := H.1
  have G6 := P.2.2.2.2.2.2.2.2.2.1
  have hx := P.2.2.2.2.2.2.2.2.2.2.1
  have ch := P.2.2.2.2.1
  have sk : SaK K (setS K (pOf K b1.toNat b2.toNat)) := ⟨rfl, rfl, rfl, rfl, rfl, rfl⟩
  rcases C_spoil X H G L.2.1 G6 b1 b2 hb1 hb2 with ⟨c, d, h1, m1, q1, w, X', H'⟩ | ⟨c, q1⟩
  · have hst : st = true := st_cnt P (Int.lt_of_le_of_lt c.1 c.2)
    obtain ⟨C1, L1, D1, E1⟩ := act1 C L D E ch w.w (by unfold acR; simp) (by simp) (x' := x) (by rw [w.w.2.1 (by decide) 15 (by decide) (by decide)]; exact L.2.2.2.2.2.2) X' H' sk
    obtain ⟨v1, v2⟩ := V.2.2.2.2 hst
    rw [v1, v2] at D1 V
    rcases M_spoil C1.1.1 ok D1.2.1 D1.2.2.1 G E1.2.1 b1 b2 hb1 hb2 with ⟨-, -, h2, a2, t1, f2, km, hi, zf⟩ | ⟨c', -⟩
    · obtain ⟨C2, L2, D2, E2⟩ := act2 hu C1 L1 D1 E1 f2 (by decide) (by decide) (by rw [f2.2.2.2.2.2.2 95 (by decide)]; exact E1.2.2.2.2.2.2) km hi zf sk
      exact ⟨_, h1, h2, q1, t1, C1.1.1, r, r', nu, ts, idm, _, cf, PF, _, _, m1, _, bk, nu, ts, a2, _, T, G, MT, st, _, fk, fp, C2, L2, D2, E2, P.act ok hu hst sk hx, V⟩
    · exact absurd ⟨c, d⟩ c'
  · obtain ⟨C1, D1, E1, I2⟩ := refuse2 (by decide) C L D E P V 3 (by decide)
    rcases M_spoil C1.1.1 ok D1.2.1 D1.2.2.1 G E1.2.1 b1 b2 hb1 hb2 with ⟨c', d', -⟩ | ⟨-, t1⟩
    · exact absurd ⟨c', d'⟩ c
    · exact ⟨_, _, _, q1, t1, C1.1.1, I2⟩
theorem S_smash {n : Nat} {h : AH} (I : Inv n h) (hn : n < 512) (a1 : Int32) : StpI n h mX11_smash mX12_smash [.int a1] := by
  obtain ⟨r, r', nu, ts, idm, K, cf, PF, Ks, u, m, pn, bk, nv, tv, a, M, T, G, MT, st, x, fk, fp, C, L, D, E, P, V⟩ := I
  obtain ⟨b1, rfl, hb1⟩ := iI_self a1
  have X := C.1
  have ok := X.2.2.2.2.2.1
  have H := C.2.2.2.2.2.2.1
  have hu := H.1
  have G6 := P.2.2.2.2.2.2.2.2.2.1
  have hx := P.2.2.2.2.2.2.2.2.2.2.1
  have ch := P.2.2.2.2.1
  have sk : SaK K (setK K b1.toNat) := ⟨rfl, rfl, rfl, rfl, rfl, rfl⟩
  rcases C_smash X H G L.2.1 G6 b1 hb1 with ⟨c, h1, m1, q1, w, X', H'⟩ | ⟨c, q1⟩
  · have hst : st = true := st_brk P c
    obtain ⟨C1, L1, D1, E1⟩ := act1 C L D E ch w.w (by unfold acR; simp) (by simp) (x' := x) (by rw [w.w.2.1 (by decide) 15 (by decide) (by decide)]; exact L.2.2.2.2.2.2) X' H' sk
    obtain ⟨v1, v2⟩ := V.2.2.2.2 hst
    rw [v1, v2] at D1 V
    rcases M_smash C1.1.1 ok D1.2.1 D1.2.2.1 G E1.2.1 b1 hb1 with ⟨-, h2, a2, t1, f2, km, hi, zf⟩ | ⟨c', -⟩
    · obtain ⟨C2, L2, D2, E2⟩ := act2 hu C1 L1 D1 E1 f2 (by decide) (by decide) (by rw [f2.2.2.2.2.2.2 95 (by decide)]; exact E1.2.2.2.2.2.2) km hi zf sk
      exact ⟨_, h1, h2, q1, t1, C1.1.1, r, r', nu, ts, idm, _, cf, PF, _, _, m1, _, bk, nu, ts, a2, _, T, G, MT, st, _, fk, fp, C2, L2, D2, E2, P.act ok hu hst sk hx, V⟩
    · exact absurd c c'
  · obtain ⟨C1, D1, E1, I2⟩ := refuse2 (by decide) C L D E P V 3 (by decide)
    rcases M_smash C1.1.1 ok D1.2.1 D1.2.2.1 G E1.2.1 b1 hb1 with ⟨c', -⟩ | ⟨-, t1⟩
    · exact absurd c' c
    · exact ⟨_, _, _, q1, t1, C1.1.1, I2⟩
theorem S_days {n : Nat} {h : AH} (I : Inv n h) (hn : n < 512) (a1 : Int32) : StpI n h mX11_days mX12_days [.int a1] := by
  obtain ⟨r, r', nu, ts, idm, K, cf, PF, Ks, u, m, pn, bk, nv, tv, a, M, T, G, MT, st, x, fk, fp, C, L, D, E, P, V⟩ := I
  obtain ⟨b1, rfl, hb1⟩ := iI_self a1
  have X := C.1
  have ok := X.2.2.2.2.2.1
  have H := C.2.2.2.2.2.2.1
  have hu := H.1
  have G6 := P.2.2.2.2.2.2.2.2.2.1
  have hx := P.2.2.2.2.2.2.2.2.2.2.1
  have ch := P.2.2.2.2.1
  have sk : SaK K (kDays K nu b1.toNat) := SaK.days K nu _
  rcases C_days X H st L.2.2.2.1 G L.2.1 G6 b1 hb1 with ⟨c, h1, m1, q1, w, X', H'⟩ | ⟨c, q1⟩
  · have hst : st = true := c.1
    obtain ⟨C1, L1, D1, E1⟩ := act1 C L D E ch w.w (by unfold acR; simp) (by simp) (x' := x) (by rw [w.w.2.1 (by decide) 15 (by decide) (by decide)]; exact L.2.2.2.2.2.2) X' H' sk
    obtain ⟨v1, v2⟩ := V.2.2.2.2 hst
    rw [v1, v2] at D1 V
    rcases M_days C1.1.1 ok D1.2.1 D1.1 V.1 D1.2.2.1 st E1.2.2.2.1 G E1.2.1 b1 hb1 with ⟨-, h2, a2, t1, f2, km, hi, zf⟩ | ⟨c', -⟩
    · obtain ⟨C2, L2, D2, E2⟩ := act2 hu C1 L1 D1 E1 f2 (by decide) (by decide) (by rw [f2.2.2.2.2.2.2 95 (by decide)]; exact E1.2.2.2.2.2.2) km hi zf sk
      exact ⟨_, h1, h2, q1, t1, C1.1.1, r, r', nu, ts, idm, _, cf, PF, _, _, m1, _, bk, nu, ts, a2, _, T, G, MT, st, _, fk, fp, C2, L2, D2, E2, P.act ok hu hst sk hx, V⟩
    · exact absurd c c'
  · obtain ⟨C1, D1, E1, I2⟩ := refuse2 (by decide) C L D E P V 2 (by decide)
    rcases M_days C1.1.1 ok D1.2.1 D1.1 V.1 D1.2.2.1 st E1.2.2.2.1 G E1.2.1 b1 hb1 with ⟨c', -⟩ | ⟨-, t1⟩
    · exact absurd c' c
    · exact ⟨_, _, _, q1, t1, C1.1.1, I2⟩
theorem S_chance {n : Nat} {h : AH} (I : Inv n h) (hn : n < 512) (a1 : Int32) : StpI n h mX11_chance mX12_chance [.int a1] := by
  obtain ⟨r, r', nu, ts, idm, K, cf, PF, Ks, u, m, pn, bk, nv, tv, a, M, T, G, MT, st, x, fk, fp, C, L, D, E, P, V⟩ := I
  obtain ⟨b1, rfl, hb1⟩ := iI_self a1
  have X := C.1
  have ok := X.2.2.2.2.2.1
  have H := C.2.2.2.2.2.2.1
  have hu := H.1
  have G6 := P.2.2.2.2.2.2.2.2.2.1
  have hx := P.2.2.2.2.2.2.2.2.2.2.1
  have ch := P.2.2.2.2.1
  have sk : SaK K (chT nu K x b1.toNat).1 := SaK.chance nu K x _
  rcases C_chance X H st L.2.2.2.1 x hx L.2.2.2.2.2.2 G L.2.1 G6 b1 hb1 with ⟨c, h1, m1, q1, w, X', h15, H'⟩ | ⟨c, q1⟩
  · have hst : st = true := c.1
    obtain ⟨C1, L1, D1, E1⟩ := act1 C L D E ch w.w (by unfold acR; simp) (by simp) (x' := (chT nu K x b1.toNat).2.1) h15 X' H' sk
    obtain ⟨v1, v2⟩ := V.2.2.2.2 hst
    rw [v1, v2] at D1 V
    rcases M_chance C1.1.1 ok D1.2.1 D1.1 V.1 D1.2.2.1 st E1.2.2.2.1 x hx E1.2.2.2.2.2.2 G E1.2.1 b1 hb1 with ⟨-, h2, a2, t1, f2, km, hx2, hi, zf⟩ | ⟨c', -⟩
    · obtain ⟨C2, L2, D2, E2⟩ := act2 hu C1 L1 D1 E1 f2 (by decide) (by decide) hx2 km hi zf sk
      exact ⟨_, h1, h2, q1, t1, C1.1.1, r, r', nu, ts, idm, _, cf, PF, _, _, m1, _, bk, nu, ts, a2, _, T, G, MT, st, _, fk, fp, C2, L2, D2, E2, P.act ok hu hst sk (chT_S nu K x hx _), V⟩
    · exact absurd c c'
  · obtain ⟨C1, D1, E1, I2⟩ := refuse2 (by decide) C L D E P V 2 (by decide)
    rcases M_chance C1.1.1 ok D1.2.1 D1.1 V.1 D1.2.2.1 st E1.2.2.2.1 x hx E1.2.2.2.2.2.2 G E1.2.1 b1 hb1 with ⟨c', -⟩ | ⟨-, t1⟩
    · exact absurd c' c
    · exact ⟨_, _, _, q1, t1, C1.1.1, I2⟩
