/-! ===== the room: what a state between two calls can have used ===== -/
def ccC (t : Nat × Nat) : Nat := if t.1 = 1 then 1 + t.2 / 16 else 1
def ssS (t : Nat × Nat) : Nat := if t.1 = 1 then 2 + (2 * t.2 - 16) else if t.1 = 0 then vwN t.2 else t.2
theorem smf_le {f g : Nat → Nat} : ∀ n, (∀ q, q < n → f q ≤ g q) → smf f n ≤ smf g n
  | 0, _ => Nat.le_refl _
  | n + 1, h => by
    have := smf_le n (fun q hq => h q (by omega))
    have := h n (by omega)
    show smf f n + f n ≤ smf g n + g n
    omega
theorem cap_le {h : AH} {κ : KP} (hκ : Gdk h κ) {q : Nat} (hq : q < hN h) (hr : (hT h q).1 = 1) : κ.1 q ≤ (hT h q).2 := by
  obtain ⟨j, J, e1, e2, h1, h2⟩ := hκ.1 q hq hr
  rw [e1, e2]
  exact Nat.mul_le_mul_left 16 (Nat.pow_le_pow_right (by decide) h1)
theorem cst_le {h : AH} {κ : KP} (hκ : Gdk h κ) : κ.2.1 ≤ smf (fun q => ccC (hT h q)) (hN h) ∧ κ.2.2.1 ≤ smf (fun q => ssS (hT h q)) (hN h) := by
  refine ⟨Nat.le_trans hκ.2.1 (smf_le _ fun q hq => ?_), Nat.le_trans hκ.2.2.1 (smf_le _ fun q hq => ?_)⟩
  · show cstC (hT h q) (κ.1 q) ≤ ccC (hT h q)
    unfold cstC ccC
    by_cases z : (hT h q).1 = 1
    · rw [if_pos z, if_pos z]
      have := Nat.div_le_div_right (c := 16) (cap_le hκ hq z)
      omega
    · rw [if_neg z, if_neg z]; exact Nat.le_refl _
  · show cstS (hT h q) (κ.1 q) ≤ ssS (hT h q)
    unfold cstS ssS
    by_cases z : (hT h q).1 = 1
    · rw [if_pos z, if_pos z]
      have := cap_le hκ hq z
      omega
    · rw [if_neg z, if_neg z]; exact Nat.le_refl _
theorem smf_base {h : AH} (g : Gr h) (F : Nat × Nat → Nat) : smf (fun q => F (hT h q)) 137 = smf (fun q => F (gTl.getD q (9, 0))) 137 := smf_congr 137 fun q hq => by rw [g.2.1 q hq]
theorem smf_state {h : AH} {s : Nat} (g : StG h s) (F : Nat × Nat → Nat) : smf (fun q => F (hT h q)) (s + 11) = smf (fun q => F (hT h q)) s + F (0, 9) + 10 * F (1, 512) := by
  obtain ⟨t0, -, -, -, -, -, -, -, -, -, -, t1, t2, t3, t4, t5, t6, t7, t8, t9, t10⟩ := g
  show smf (fun q => F (hT h q)) s + F (hT h s) + F (hT h (s + 1)) + F (hT h (s + 2)) + F (hT h (s + 3)) + F (hT h (s + 4)) + F (hT h (s + 5)) + F (hT h (s + 6)) + F (hT h (s + 7)) + F (hT h (s + 8)) + F (hT h (s + 9)) + F (hT h (s + 10)) = _
  rw [t0, t1, t2, t3, t4, t5, t6, t7, t8, t9, t10]
  omega
theorem smf_all {h : AH} (g : Gr h) (F : Nat × Nat → Nat) : ∀ m, (∀ k, k < m → StG h (137 + 11 * k)) → smf (fun q => F (hT h q)) (137 + 11 * m) = smf (fun q => F (gTl.getD q (9, 0))) 137 + m * (F (0, 9) + 10 * F (1, 512))
  | 0, _ => by rw [Nat.mul_zero, Nat.add_zero, Nat.zero_mul, Nat.add_zero]; exact smf_base g F
  | m + 1, hs => by
    rw [show 137 + 11 * (m + 1) = 137 + 11 * m + 11 by omega, smf_state (hs m (by omega)) F, smf_all g F m (fun k hk => hs k (by omega)), show (m + 1) * (F (0, 9) + 10 * F (1, 512)) = m * (F (0, 9) + 10 * F (1, 512)) + (F (0, 9) + 10 * F (1, 512)) from Nat.succ_mul m _]
    omega
theorem base_C : smf (fun q => ccC (gTl.getD q (9, 0))) 137 ≤ 200000 := by decide +kernel
theorem base_S : smf (fun q => ssS (gTl.getD q (9, 0))) 137 ≤ 6000000 := by decide +kernel
theorem room_all (n : Nat) (h : AH) (κ : KP) (I : Inv n h) (hκ : Gdk h κ) : kle κ lwE := by
  have gr := I.gr
  obtain ⟨r, r', nu, ts, idm, K, cf, PF, Ks, u, m, pn, bk, nv, tv, a, M, T, G, MT, st, x, fk, fp, C, -⟩ := I
  obtain ⟨p1, p2, p3, p4⟩ := C.2.2.2.2.2.2.1.2.2.2.1
  obtain ⟨e1, e2⟩ := cst_le hκ
  have e3 : κ.2.2.2 = hN h := hκ.2.2.2
  rw [p2] at e1 e2 e3
  rw [smf_all gr ccC m (fun k hk => (p3 k hk).2)] at e1
  rw [smf_all gr ssS m (fun k hk => (p3 k hk).2)] at e2
  have b1 := base_C
  have b2 := base_S
  have c1 : ccC (0, 9) + 10 * ccC (1, 512) = 331 := by decide
  have c2 : ssS (0, 9) + 10 * ssS (1, 512) = 10115 := by decide
  rw [c1] at e1
  rw [c2] at e2
  have m1 : m * 331 ≤ 20 * 331 := Nat.mul_le_mul_right _ p1
  have m2 : m * 10115 ≤ 20 * 10115 := Nat.mul_le_mul_right _ p1
  refine ⟨?_, ?_, ?_⟩
  · show κ.2.1 ≤ 600000
    omega
  · show κ.2.2.1 ≤ 7302250
    omega
  · show κ.2.2.2 ≤ 400
    omega
