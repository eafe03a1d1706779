/-! ===== L2: a form is added (class) ===== -/
def adF (cf : List (List Int)) (x : List Int) : List (List Int) := if x ∈ cf then cf else cf ++ [x]
theorem getD_apl {cf : List (List Int)} (x : List Int) {f : Nat} (hf : f < cf.length) : (cf ++ [x]).getD f [] = cf.getD f [] := by
  rw [List.getD_eq_getElem?_getD, List.getElem?_append_left hf, ← List.getD_eq_getElem?_getD]
theorem bkt_add (cf : List (List Int)) (x : List Int) (v : Nat) : bkt (cf ++ [x]) v = if prt x % 256 = (v : Int) then cf.length :: bkt cf v else bkt cf v := by
  unfold bkt
  rw [List.length_append, List.length_singleton, List.range_succ, List.filter_append]
  have e : (List.range cf.length).filter (fun f => prt ((cf ++ [x]).getD f []) % 256 == (v : Int)) = (List.range cf.length).filter (fun f => prt (cf.getD f []) % 256 == (v : Int)) :=
    List.filter_congr (fun f hf => by rw [getD_apl x (List.mem_range.mp hf)])
  rw [e]
  have e2 : (cf ++ [x]).getD cf.length [] = x := by
    rw [List.getD_eq_getElem?_getD, List.getElem?_append_right (Nat.le_refl _), Nat.sub_self]; rfl
  by_cases c : prt x % 256 = (v : Int)
  · rw [if_pos c]
    have : [cf.length].filter (fun f => prt ((cf ++ [x]).getD f []) % 256 == (v : Int)) = [cf.length] := by
      rw [List.filter_cons, e2, if_pos (by simpa using c)]; rfl
    rw [this, List.reverse_append]; rfl
  · rw [if_neg c]
    have : [cf.length].filter (fun f => prt ((cf ++ [x]).getD f []) % 256 == (v : Int)) = [] := by
      rw [List.filter_cons, e2, if_neg (by simpa using c)]; rfl
    rw [this, List.append_nil]
theorem FmC.add {h h' : AH} {cf : List (List Int)} (M : FmC h cf) {x : List Int} (hx : x ∉ cf) (hl : cf.length < 16384) (hf : cf.flatten.length + x.length ≤ 16384) (e28 : hR h' 28 = mI (cf.flatten ++ x)) (e29 : hR h' 29 = mI (((List.range cf.length).map fun f => ((cf.take f).flatten.length : Int)) ++ [((cf.flatten.length : Nat) : Int)])) (e30 : hR h' 30 = mI ((cf.map fun l => (l.length : Int)) ++ [((x.length : Nat) : Int)])) (e31 : hR h' 31 = mI (cf.map prt ++ [prt x])) : FmC h' (cf ++ [x]) := by
  obtain ⟨m1, m2, m3, m4, m5, m6, m7⟩ := M
  refine ⟨?_, ?_, ?_, ?_, ?_, ?_, ?_⟩
  · rw [e28]; simp
  · rw [e29, List.length_append, List.length_singleton, List.range_succ, List.map_append]
    congr 2
    · refine List.map_congr_left (fun f hf => ?_)
      rw [List.take_append_of_le_length (Nat.le_of_lt (List.mem_range.mp hf))]
    · show _ = [(((List.take cf.length (cf ++ [x])).flatten.length : Nat) : Int)]
      rw [List.take_append_of_le_length (Nat.le_refl _), List.take_length]
  · rw [e30, List.map_append]; rfl
  · rw [e31, List.map_append]; rfl
  · refine List.nodup_append.mpr ⟨m5, by simp, fun a ha b hb => ?_⟩
    rw [List.mem_singleton.mp hb]
    intro z
    rw [z] at ha
    exact hx ha
  · rw [List.length_append, List.length_singleton]; omega
  · rw [List.flatten_append, List.length_append]; simpa using hf
theorem HsC.add {h h' : AH} {cf : List (List Int)} (H : HsC h cf) {x : List Int} (hb : ∀ y ∈ x, 0 ≤ y ∧ y ≤ 255) {nx : List Int} (e33o : hR h 33 = mI nx) (hnl : nx.length = cf.length) (hnx : ∀ v j, j < (bkt cf v).length → nx.getD ((bkt cf v).getD j 0) 0 = nthB (bkt cf v) (j + 1))
    (e32 : hR h' 32 = mI (pt ((List.range 256).map fun v => nthB (bkt cf v) 0) (prt x % 256) ((cf.length : Nat) : Int))) (e33 : hR h' 33 = mI (nx ++ [nthB (bkt cf (prt x % 256).toNat) 0])) : HsC h' (cf ++ [x]) := by
  have hp := prt_rgl hb
  obtain ⟨v0, hv0⟩ : ∃ v0 : Nat, prt x % 256 = v0 := ⟨(prt x % 256).toNat, by omega⟩
  have hv : v0 < 256 := by omega
  rw [hv0] at e32 e33
  rw [Int.toNat_natCast] at e33
  refine ⟨fun l hl => ?_, ?_, nx ++ [nthB (bkt cf v0) 0], e33, by rw [List.length_append, List.length_append, hnl]; rfl, fun v j hj => ?_⟩
  · rcases List.mem_append.mp hl with z | z
    · exact H.1 l z
    · rw [List.mem_singleton.mp z]; exact hb
  · rw [e32, pt_nat]
    congr 1
    apply List.ext_getElem
    · rw [List.length_set, List.length_map, List.length_map]
    · intro i h1 h2
      rw [List.getElem_set]
      simp only [List.getElem_map, List.getElem_range]
      rw [bkt_add, hv0]
      by_cases c : v0 = i
      · rw [if_pos c, if_pos (by omega)]
        unfold nthB
        rw [if_pos (by simp)]; rfl
      · rw [if_neg c, if_neg (by omega)]
  · have old : ∀ f, f < cf.length → (nx ++ [nthB (bkt cf v0) 0]).getD f 0 = nx.getD f 0 := fun f hf => by
      rw [List.getD_eq_getElem?_getD, List.getElem?_append_left (by omega), ← List.getD_eq_getElem?_getD]
    have lt : ∀ v i, i < (bkt cf v).length → (bkt cf v).getD i 0 < cf.length := fun v i hi => (bkt_mem.mp (bkt_at hi)).1
    rw [bkt_add, hv0] at hj ⊢
    by_cases c : v0 = v
    · subst c
      rw [if_pos rfl] at hj ⊢
      cases j with
      | zero =>
        show (nx ++ [nthB (bkt cf v0) 0]).getD cf.length 0 = _
        rw [List.getD_eq_getElem?_getD, List.getElem?_append_right (by omega), hnl, Nat.sub_self]
        show nthB (bkt cf v0) 0 = nthB (cf.length :: bkt cf v0) (0 + 1)
        unfold nthB
        simp
      | succ j =>
        have hj' : j < (bkt cf v0).length := by simpa using hj
        show (nx ++ [nthB (bkt cf v0) 0]).getD ((bkt cf v0).getD j 0) 0 = _
        rw [old _ (lt v0 j hj'), hnx v0 j hj']
        unfold nthB
        simp
    · rw [if_neg (by omega)] at hj ⊢
      rw [old _ (lt v j hj)]
      exact hnx v j hj
