/-! ===== by program: mk29.py: evaluation of meanings ===== -/
theorem bind_ite {α β : Type} {p : Prop} [Decidable p] (x y : Option α) (f : α → Option β) : (if p then x else y).bind f = if p then x.bind f else y.bind f := by split <;> rfl
theorem ev_itea {p : Prop} [Decidable p] (a b : St) (env : List Slot) (h : AH) : (if p then a else b) env h = if p then a env h else b env h := by split <;> rfl
def seqC (b : St) (r : (Nat ⊕ Option Value) × List Slot × AH) : Option ((Nat ⊕ Option Value) × List Slot × AH) := if r.1 = .inl 0 then b r.2.1 r.2.2 else some r
theorem ev_seq (a b : St) (env : List Slot) (h : AH) : seqS a b env h = (a env h).bind (seqC b) := id rfl
theorem ev_seq0 (b : St) (env : List Slot) (h : AH) : seqC b (.inl 0, env, h) = b env h := id rfl
theorem ev_seq1 (b : St) (env : List Slot) (h : AH) : seqC b (.inl 1, env, h) = some (.inl 1, env, h) := id rfl
theorem ev_seq2 (b : St) (env : List Slot) (h : AH) : seqC b (.inl 2, env, h) = some (.inl 2, env, h) := id rfl
theorem ev_seqr (b : St) (v : Option Value) (env : List Slot) (h : AH) : seqC b (.inr v, env, h) = some (.inr v, env, h) := id rfl
def ifC (a : St) (env : List Slot) (r : Bool × AH) : Option ((Nat ⊕ Option Value) × List Slot × AH) := if r.1 = true then a env r.2 else some (.inl 0, env, r.2)
theorem ev_if (c : Ex Bool) (a : St) (env : List Slot) (h : AH) : ifS c a env h = (c env h).bind (ifC a env) := id rfl
theorem ev_ift (a : St) (env : List Slot) (h : AH) : ifC a env (true, h) = a env h := id rfl
theorem ev_iff (a : St) (env : List Slot) (h : AH) : ifC a env (false, h) = some (.inl 0, env, h) := id rfl
theorem ev_ifd (a : St) (env : List Slot) (h : AH) (p : Prop) [Decidable p] : ifC a env (decide p, h) = if p then a env h else some (.inl 0, env, h) := by unfold ifC; simp
def ifeC (a b : St) (env : List Slot) (r : Bool × AH) : Option ((Nat ⊕ Option Value) × List Slot × AH) := if r.1 = true then a env r.2 else b env r.2
theorem ev_ife (c : Ex Bool) (a b : St) (env : List Slot) (h : AH) : ifeS c a b env h = (c env h).bind (ifeC a b env) := id rfl
theorem ev_ifet (a b : St) (env : List Slot) (h : AH) : ifeC a b env (true, h) = a env h := id rfl
theorem ev_ifef (a b : St) (env : List Slot) (h : AH) : ifeC a b env (false, h) = b env h := id rfl
theorem ev_ifed (a b : St) (env : List Slot) (h : AH) (p : Prop) [Decidable p] : ifeC a b env (decide p, h) = if p then a env h else b env h := by unfold ifeC; simp
theorem ev_skip (env : List Slot) (h : AH) : skipS env h = some (.inl 0, env, h) := id rfl
theorem ev_cont (env : List Slot) (h : AH) : contS env h = some (.inl 2, env, h) := id rfl
theorem ev_brk (env : List Slot) (h : AH) : brkS env h = some (.inl 1, env, h) := id rfl
theorem ev_retV (env : List Slot) (h : AH) : retV env h = some (.inr none, env, h) := id rfl
def retIC (env : List Slot) (r : Int32 × AH) : Option ((Nat ⊕ Option Value) × List Slot × AH) := some (.inr (some (.int r.1)), env, r.2)
theorem ev_retI (f : Ex Int32) (env : List Slot) (h : AH) : retI f env h = (f env h).bind (retIC env) := id rfl
theorem ev_retIv (x : Int32) (env : List Slot) (h : AH) : retIC env (x, h) = some (.inr (some (.int x)), env, h) := id rfl
def retLC (env : List Slot) (r : Int64 × AH) : Option ((Nat ⊕ Option Value) × List Slot × AH) := some (.inr (some (.long r.1)), env, r.2)
theorem ev_retL (f : Ex Int64) (env : List Slot) (h : AH) : retL f env h = (f env h).bind (retLC env) := id rfl
theorem ev_retLv (x : Int64) (env : List Slot) (h : AH) : retLC env (x, h) = some (.inr (some (.long x)), env, h) := id rfl
def retRC (env : List Slot) (r : (Option Nat) × AH) : Option ((Nat ⊕ Option Value) × List Slot × AH) := some (.inr (some (va_rf r.1)), env, r.2)
theorem ev_retR (f : Ex (Option Nat)) (env : List Slot) (h : AH) : retR f env h = (f env h).bind (retRC env) := id rfl
theorem ev_retRv (x : (Option Nat)) (env : List Slot) (h : AH) : retRC env (x, h) = some (.inr (some (va_rf x)), env, h) := id rfl
def forC (s : St) (r : (Nat ⊕ Option Value) × List Slot × AH) : Option ((Nat ⊕ Option Value) × List Slot × AH) := if r.1 = .inl 0 ∨ r.1 = .inl 2 then s r.2.1 r.2.2 else some r
theorem ev_for (b s : St) (env : List Slot) (h : AH) : forB b s env h = (b env h).bind (forC s) := id rfl
theorem ev_for0 (s : St) (env : List Slot) (h : AH) : forC s (.inl 0, env, h) = s env h := id rfl
theorem ev_for2 (s : St) (env : List Slot) (h : AH) : forC s (.inl 2, env, h) = s env h := id rfl
theorem ev_for1 (s : St) (env : List Slot) (h : AH) : forC s (.inl 1, env, h) = some (.inl 1, env, h) := id rfl
theorem ev_forr (s : St) (v : Option Value) (env : List Slot) (h : AH) : forC s (.inr v, env, h) = some (.inr v, env, h) := id rfl
def scC (n : Nat) (r : (Nat ⊕ Option Value) × List Slot × AH) : Option ((Nat ⊕ Option Value) × List Slot × AH) := some (r.1, cutE r.2.1 n, r.2.2)
theorem ev_sc (n : Nat) (f : St) (env : List Slot) (h : AH) : scS n f env h = (f env h).bind (scC n) := id rfl
theorem ev_scv (n : Nat) (r : Nat ⊕ Option Value) (env : List Slot) (h : AH) : scC n (r, env, h) = some (r, cutE env n, h) := id rfl
def exC {α : Type} (env : List Slot) (r : α × AH) : Option ((Nat ⊕ Option Value) × List Slot × AH) := some (.inl 0, env, r.2)
theorem ev_ex {α : Type} (f : Ex α) (env : List Slot) (h : AH) : exS f env h = (f env h).bind (exC env) := id rfl
theorem ev_exv {α : Type} (x : α) (env : List Slot) (h : AH) : exC env (x, h) = some (.inl 0, env, h) := id rfl
def lsIC (k : Nat) (env : List Slot) (r : Int32 × AH) : Option ((Nat ⊕ Option Value) × List Slot × AH) := some (.inl 0, st1 env k (.int r.1), r.2)
theorem ev_lsI (k : Nat) (f : Ex Int32) (env : List Slot) (h : AH) : lsI k f env h = (f env h).bind (lsIC k env) := id rfl
theorem ev_lsIv (k : Nat) (x : Int32) (env : List Slot) (h : AH) : lsIC k env (x, h) = some (.inl 0, st1 env k (.int x), h) := id rfl
def lsLC (k : Nat) (env : List Slot) (r : Int64 × AH) : Option ((Nat ⊕ Option Value) × List Slot × AH) := some (.inl 0, st2 env k (.long r.1), r.2)
theorem ev_lsL (k : Nat) (f : Ex Int64) (env : List Slot) (h : AH) : lsL k f env h = (f env h).bind (lsLC k env) := id rfl
theorem ev_lsLv (k : Nat) (x : Int64) (env : List Slot) (h : AH) : lsLC k env (x, h) = some (.inl 0, st2 env k (.long x), h) := id rfl
def lsRC (k : Nat) (env : List Slot) (r : Option Nat × AH) : Option ((Nat ⊕ Option Value) × List Slot × AH) := match r.1 with
  | some a => some (.inl 0, st1 env k (.ref a), r.2)
  | none => none
theorem ev_lsR (k : Nat) (f : Ex (Option Nat)) (env : List Slot) (h : AH) : lsR k f env h = (f env h).bind (lsRC k env) := id rfl
theorem ev_lsRv (k a : Nat) (env : List Slot) (h : AH) : lsRC k env (some a, h) = some (.inl 0, st1 env k (.ref a), h) := id rfl
theorem ev_ciI (v : Int32) (env : List Slot) (h : AH) : ciI v env h = some (v, h) := id rfl
theorem ev_clL (v : Int64) (env : List Slot) (h : AH) : clL v env h = some (v, h) := id rfl
theorem ev_lvI0 (a : Int32) (l : List Slot) (h : AH) : lvI 0 (.val (.int a) :: l) h = some (a, h) := id rfl
theorem ev_lvL0 (a : Int64) (l : List Slot) (h : AH) : lvL 0 (.val (.long a) :: l) h = some (a, h) := id rfl
theorem ev_lvR0 (a : Nat) (l : List Slot) (h : AH) : lvR 0 (.val (.ref a) :: l) h = some (some a, h) := id rfl
theorem ev_inc0 (a n : Int32) (l : List Slot) (h : AH) : incI 0 n (.val (.int a) :: l) h = some (.inl 0, st1 (.val (.int a) :: l) 0 (.int (a + n)), h) := id rfl
theorem ev_s1_0 (x : Slot) (v : Value) (l : List Slot) : st1 (x :: l) 0 v = .val v :: l := id rfl
theorem ev_s2_0 (x y : Slot) (v : Value) (l : List Slot) : st2 (x :: y :: l) 0 v = .val v :: .second :: l := id rfl
theorem ev_lvI1 (x0 : Slot) (a : Int32) (l : List Slot) (h : AH) : lvI 1 (x0 :: .val (.int a) :: l) h = some (a, h) := id rfl
theorem ev_lvL1 (x0 : Slot) (a : Int64) (l : List Slot) (h : AH) : lvL 1 (x0 :: .val (.long a) :: l) h = some (a, h) := id rfl
theorem ev_lvR1 (x0 : Slot) (a : Nat) (l : List Slot) (h : AH) : lvR 1 (x0 :: .val (.ref a) :: l) h = some (some a, h) := id rfl
theorem ev_inc1 (x0 : Slot) (a n : Int32) (l : List Slot) (h : AH) : incI 1 n (x0 :: .val (.int a) :: l) h = some (.inl 0, st1 (x0 :: .val (.int a) :: l) 1 (.int (a + n)), h) := id rfl
theorem ev_s1_1i (b : Int32) (y : Slot) (v : Value) (l : List Slot) : st1 (.val (.int b) :: y :: l) 1 v = .val (.int b) :: .val v :: l := id rfl
theorem ev_s2_1i (b : Int32) (y w : Slot) (v : Value) (l : List Slot) : st2 (.val (.int b) :: y :: w :: l) 1 v = .val (.int b) :: .val v :: .second :: l := id rfl
theorem ev_s1_1r (b : Nat) (y : Slot) (v : Value) (l : List Slot) : st1 (.val (.ref b) :: y :: l) 1 v = .val (.ref b) :: .val v :: l := id rfl
theorem ev_s2_1r (b : Nat) (y w : Slot) (v : Value) (l : List Slot) : st2 (.val (.ref b) :: y :: w :: l) 1 v = .val (.ref b) :: .val v :: .second :: l := id rfl
theorem ev_s1_1u (y : Slot) (v : Value) (l : List Slot) : st1 (.unset :: y :: l) 1 v = .unset :: .val v :: l := id rfl
theorem ev_s2_1u (y w : Slot) (v : Value) (l : List Slot) : st2 (.unset :: y :: w :: l) 1 v = .unset :: .val v :: .second :: l := id rfl
theorem ev_s1_1s (y : Slot) (v : Value) (l : List Slot) : st1 (.second :: y :: l) 1 v = .second :: .val v :: l := id rfl
theorem ev_s2_1s (y w : Slot) (v : Value) (l : List Slot) : st2 (.second :: y :: w :: l) 1 v = .second :: .val v :: .second :: l := id rfl
theorem ev_lvI2 (x0 x1 : Slot) (a : Int32) (l : List Slot) (h : AH) : lvI 2 (x0 :: x1 :: .val (.int a) :: l) h = some (a, h) := id rfl
theorem ev_lvL2 (x0 x1 : Slot) (a : Int64) (l : List Slot) (h : AH) : lvL 2 (x0 :: x1 :: .val (.long a) :: l) h = some (a, h) := id rfl
theorem ev_lvR2 (x0 x1 : Slot) (a : Nat) (l : List Slot) (h : AH) : lvR 2 (x0 :: x1 :: .val (.ref a) :: l) h = some (some a, h) := id rfl
theorem ev_inc2 (x0 x1 : Slot) (a n : Int32) (l : List Slot) (h : AH) : incI 2 n (x0 :: x1 :: .val (.int a) :: l) h = some (.inl 0, st1 (x0 :: x1 :: .val (.int a) :: l) 2 (.int (a + n)), h) := id rfl
theorem ev_s1_2i (x0 : Slot) (b : Int32) (y : Slot) (v : Value) (l : List Slot) : st1 (x0 :: .val (.int b) :: y :: l) 2 v = x0 :: .val (.int b) :: .val v :: l := id rfl
theorem ev_s2_2i (x0 : Slot) (b : Int32) (y w : Slot) (v : Value) (l : List Slot) : st2 (x0 :: .val (.int b) :: y :: w :: l) 2 v = x0 :: .val (.int b) :: .val v :: .second :: l := id rfl
theorem ev_s1_2r (x0 : Slot) (b : Nat) (y : Slot) (v : Value) (l : List Slot) : st1 (x0 :: .val (.ref b) :: y :: l) 2 v = x0 :: .val (.ref b) :: .val v :: l := id rfl
theorem ev_s2_2r (x0 : Slot) (b : Nat) (y w : Slot) (v : Value) (l : List Slot) : st2 (x0 :: .val (.ref b) :: y :: w :: l) 2 v = x0 :: .val (.ref b) :: .val v :: .second :: l := id rfl
theorem ev_s1_2u (x0 : Slot) (y : Slot) (v : Value) (l : List Slot) : st1 (x0 :: .unset :: y :: l) 2 v = x0 :: .unset :: .val v :: l := id rfl
theorem ev_s2_2u (x0 : Slot) (y w : Slot) (v : Value) (l : List Slot) : st2 (x0 :: .unset :: y :: w :: l) 2 v = x0 :: .unset :: .val v :: .second :: l := id rfl
theorem ev_s1_2s (x0 : Slot) (y : Slot) (v : Value) (l : List Slot) : st1 (x0 :: .second :: y :: l) 2 v = x0 :: .second :: .val v :: l := id rfl
theorem ev_s2_2s (x0 : Slot) (y w : Slot) (v : Value) (l : List Slot) : st2 (x0 :: .second :: y :: w :: l) 2 v = x0 :: .second :: .val v :: .second :: l := id rfl
theorem ev_lvI3 (x0 x1 x2 : Slot) (a : Int32) (l : List Slot) (h : AH) : lvI 3 (x0 :: x1 :: x2 :: .val (.int a) :: l) h = some (a, h) := id rfl
theorem ev_lvL3 (x0 x1 x2 : Slot) (a : Int64) (l : List Slot) (h : AH) : lvL 3 (x0 :: x1 :: x2 :: .val (.long a) :: l) h = some (a, h) := id rfl
theorem ev_lvR3 (x0 x1 x2 : Slot) (a : Nat) (l : List Slot) (h : AH) : lvR 3 (x0 :: x1 :: x2 :: .val (.ref a) :: l) h = some (some a, h) := id rfl
theorem ev_inc3 (x0 x1 x2 : Slot) (a n : Int32) (l : List Slot) (h : AH) : incI 3 n (x0 :: x1 :: x2 :: .val (.int a) :: l) h = some (.inl 0, st1 (x0 :: x1 :: x2 :: .val (.int a) :: l) 3 (.int (a + n)), h) := id rfl
theorem ev_s1_3i (x0 x1 : Slot) (b : Int32) (y : Slot) (v : Value) (l : List Slot) : st1 (x0 :: x1 :: .val (.int b) :: y :: l) 3 v = x0 :: x1 :: .val (.int b) :: .val v :: l := id rfl
theorem ev_s2_3i (x0 x1 : Slot) (b : Int32) (y w : Slot) (v : Value) (l : List Slot) : st2 (x0 :: x1 :: .val (.int b) :: y :: w :: l) 3 v = x0 :: x1 :: .val (.int b) :: .val v :: .second :: l := id rfl
theorem ev_s1_3r (x0 x1 : Slot) (b : Nat) (y : Slot) (v : Value) (l : List Slot) : st1 (x0 :: x1 :: .val (.ref b) :: y :: l) 3 v = x0 :: x1 :: .val (.ref b) :: .val v :: l := id rfl
theorem ev_s2_3r (x0 x1 : Slot) (b : Nat) (y w : Slot) (v : Value) (l : List Slot) : st2 (x0 :: x1 :: .val (.ref b) :: y :: w :: l) 3 v = x0 :: x1 :: .val (.ref b) :: .val v :: .second :: l := id rfl
theorem ev_s1_3u (x0 x1 : Slot) (y : Slot) (v : Value) (l : List Slot) : st1 (x0 :: x1 :: .unset :: y :: l) 3 v = x0 :: x1 :: .unset :: .val v :: l := id rfl
theorem ev_s2_3u (x0 x1 : Slot) (y w : Slot) (v : Value) (l : List Slot) : st2 (x0 :: x1 :: .unset :: y :: w :: l) 3 v = x0 :: x1 :: .unset :: .val v :: .second :: l := id rfl
theorem ev_s1_3s (x0 x1 : Slot) (y : Slot) (v : Value) (l : List Slot) : st1 (x0 :: x1 :: .second :: y :: l) 3 v = x0 :: x1 :: .second :: .val v :: l := id rfl
theorem ev_s2_3s (x0 x1 : Slot) (y w : Slot) (v : Value) (l : List Slot) : st2 (x0 :: x1 :: .second :: y :: w :: l) 3 v = x0 :: x1 :: .second :: .val v :: .second :: l := id rfl
theorem ev_lvI4 (x0 x1 x2 x3 : Slot) (a : Int32) (l : List Slot) (h : AH) : lvI 4 (x0 :: x1 :: x2 :: x3 :: .val (.int a) :: l) h = some (a, h) := id rfl
theorem ev_lvL4 (x0 x1 x2 x3 : Slot) (a : Int64) (l : List Slot) (h : AH) : lvL 4 (x0 :: x1 :: x2 :: x3 :: .val (.long a) :: l) h = some (a, h) := id rfl
theorem ev_lvR4 (x0 x1 x2 x3 : Slot) (a : Nat) (l : List Slot) (h : AH) : lvR 4 (x0 :: x1 :: x2 :: x3 :: .val (.ref a) :: l) h = some (some a, h) := id rfl
theorem ev_inc4 (x0 x1 x2 x3 : Slot) (a n : Int32) (l : List Slot) (h : AH) : incI 4 n (x0 :: x1 :: x2 :: x3 :: .val (.int a) :: l) h = some (.inl 0, st1 (x0 :: x1 :: x2 :: x3 :: .val (.int a) :: l) 4 (.int (a + n)), h) := id rfl
theorem ev_s1_4i (x0 x1 x2 : Slot) (b : Int32) (y : Slot) (v : Value) (l : List Slot) : st1 (x0 :: x1 :: x2 :: .val (.int b) :: y :: l) 4 v = x0 :: x1 :: x2 :: .val (.int b) :: .val v :: l := id rfl
theorem ev_s2_4i (x0 x1 x2 : Slot) (b : Int32) (y w : Slot) (v : Value) (l : List Slot) : st2 (x0 :: x1 :: x2 :: .val (.int b) :: y :: w :: l) 4 v = x0 :: x1 :: x2 :: .val (.int b) :: .val v :: .second :: l := id rfl
theorem ev_s1_4r (x0 x1 x2 : Slot) (b : Nat) (y : Slot) (v : Value) (l : List Slot) : st1 (x0 :: x1 :: x2 :: .val (.ref b) :: y :: l) 4 v = x0 :: x1 :: x2 :: .val (.ref b) :: .val v :: l := id rfl
theorem ev_s2_4r (x0 x1 x2 : Slot) (b : Nat) (y w : Slot) (v : Value) (l : List Slot) : st2 (x0 :: x1 :: x2 :: .val (.ref b) :: y :: w :: l) 4 v = x0 :: x1 :: x2 :: .val (.ref b) :: .val v :: .second :: l := id rfl
theorem ev_s1_4u (x0 x1 x2 : Slot) (y : Slot) (v : Value) (l : List Slot) : st1 (x0 :: x1 :: x2 :: .unset :: y :: l) 4 v = x0 :: x1 :: x2 :: .unset :: .val v :: l := id rfl
theorem ev_s2_4u (x0 x1 x2 : Slot) (y w : Slot) (v : Value) (l : List Slot) : st2 (x0 :: x1 :: x2 :: .unset :: y :: w :: l) 4 v = x0 :: x1 :: x2 :: .unset :: .val v :: .second :: l := id rfl
theorem ev_s1_4s (x0 x1 x2 : Slot) (y : Slot) (v : Value) (l : List Slot) : st1 (x0 :: x1 :: x2 :: .second :: y :: l) 4 v = x0 :: x1 :: x2 :: .second :: .val v :: l := id rfl
theorem ev_s2_4s (x0 x1 x2 : Slot) (y w : Slot) (v : Value) (l : List Slot) : st2 (x0 :: x1 :: x2 :: .second :: y :: w :: l) 4 v = x0 :: x1 :: x2 :: .second :: .val v :: .second :: l := id rfl
theorem ev_lvI5 (x0 x1 x2 x3 x4 : Slot) (a : Int32) (l : List Slot) (h : AH) : lvI 5 (x0 :: x1 :: x2 :: x3 :: x4 :: .val (.int a) :: l) h = some (a, h) := id rfl
theorem ev_lvL5 (x0 x1 x2 x3 x4 : Slot) (a : Int64) (l : List Slot) (h : AH) : lvL 5 (x0 :: x1 :: x2 :: x3 :: x4 :: .val (.long a) :: l) h = some (a, h) := id rfl
theorem ev_lvR5 (x0 x1 x2 x3 x4 : Slot) (a : Nat) (l : List Slot) (h : AH) : lvR 5 (x0 :: x1 :: x2 :: x3 :: x4 :: .val (.ref a) :: l) h = some (some a, h) := id rfl
theorem ev_inc5 (x0 x1 x2 x3 x4 : Slot) (a n : Int32) (l : List Slot) (h : AH) : incI 5 n (x0 :: x1 :: x2 :: x3 :: x4 :: .val (.int a) :: l) h = some (.inl 0, st1 (x0 :: x1 :: x2 :: x3 :: x4 :: .val (.int a) :: l) 5 (.int (a + n)), h) := id rfl
theorem ev_s1_5i (x0 x1 x2 x3 : Slot) (b : Int32) (y : Slot) (v : Value) (l : List Slot) : st1 (x0 :: x1 :: x2 :: x3 :: .val (.int b) :: y :: l) 5 v = x0 :: x1 :: x2 :: x3 :: .val (.int b) :: .val v :: l := id rfl
theorem ev_s2_5i (x0 x1 x2 x3 : Slot) (b : Int32) (y w : Slot) (v : Value) (l : List Slot) : st2 (x0 :: x1 :: x2 :: x3 :: .val (.int b) :: y :: w :: l) 5 v = x0 :: x1 :: x2 :: x3 :: .val (.int b) :: .val v :: .second :: l := id rfl
theorem ev_s1_5r (x0 x1 x2 x3 : Slot) (b : Nat) (y : Slot) (v : Value) (l : List Slot) : st1 (x0 :: x1 :: x2 :: x3 :: .val (.ref b) :: y :: l) 5 v = x0 :: x1 :: x2 :: x3 :: .val (.ref b) :: .val v :: l := id rfl
theorem ev_s2_5r (x0 x1 x2 x3 : Slot) (b : Nat) (y w : Slot) (v : Value) (l : List Slot) : st2 (x0 :: x1 :: x2 :: x3 :: .val (.ref b) :: y :: w :: l) 5 v = x0 :: x1 :: x2 :: x3 :: .val (.ref b) :: .val v :: .second :: l := id rfl
theorem ev_s1_5u (x0 x1 x2 x3 : Slot) (y : Slot) (v : Value) (l : List Slot) : st1 (x0 :: x1 :: x2 :: x3 :: .unset :: y :: l) 5 v = x0 :: x1 :: x2 :: x3 :: .unset :: .val v :: l := id rfl
theorem ev_s2_5u (x0 x1 x2 x3 : Slot) (y w : Slot) (v : Value) (l : List Slot) : st2 (x0 :: x1 :: x2 :: x3 :: .unset :: y :: w :: l) 5 v = x0 :: x1 :: x2 :: x3 :: .unset :: .val v :: .second :: l := id rfl
theorem ev_s1_5s (x0 x1 x2 x3 : Slot) (y : Slot) (v : Value) (l : List Slot) : st1 (x0 :: x1 :: x2 :: x3 :: .second :: y :: l) 5 v = x0 :: x1 :: x2 :: x3 :: .second :: .val v :: l := id rfl
theorem ev_s2_5s (x0 x1 x2 x3 : Slot) (y w : Slot) (v : Value) (l : List Slot) : st2 (x0 :: x1 :: x2 :: x3 :: .second :: y :: w :: l) 5 v = x0 :: x1 :: x2 :: x3 :: .second :: .val v :: .second :: l := id rfl
theorem ev_lvI6 (x0 x1 x2 x3 x4 x5 : Slot) (a : Int32) (l : List Slot) (h : AH) : lvI 6 (x0 :: x1 :: x2 :: x3 :: x4 :: x5 :: .val (.int a) :: l) h = some (a, h) := id rfl
theorem ev_lvL6 (x0 x1 x2 x3 x4 x5 : Slot) (a : Int64) (l : List Slot) (h : AH) : lvL 6 (x0 :: x1 :: x2 :: x3 :: x4 :: x5 :: .val (.long a) :: l) h = some (a, h) := id rfl
theorem ev_lvR6 (x0 x1 x2 x3 x4 x5 : Slot) (a : Nat) (l : List Slot) (h : AH) : lvR 6 (x0 :: x1 :: x2 :: x3 :: x4 :: x5 :: .val (.ref a) :: l) h = some (some a, h) := id rfl
theorem ev_inc6 (x0 x1 x2 x3 x4 x5 : Slot) (a n : Int32) (l : List Slot) (h : AH) : incI 6 n (x0 :: x1 :: x2 :: x3 :: x4 :: x5 :: .val (.int a) :: l) h = some (.inl 0, st1 (x0 :: x1 :: x2 :: x3 :: x4 :: x5 :: .val (.int a) :: l) 6 (.int (a + n)), h) := id rfl
theorem ev_s1_6i (x0 x1 x2 x3 x4 : Slot) (b : Int32) (y : Slot) (v : Value) (l : List Slot) : st1 (x0 :: x1 :: x2 :: x3 :: x4 :: .val (.int b) :: y :: l) 6 v = x0 :: x1 :: x2 :: x3 :: x4 :: .val (.int b) :: .val v :: l := id rfl
theorem ev_s2_6i (x0 x1 x2 x3 x4 : Slot) (b : Int32) (y w : Slot) (v : Value) (l : List Slot) : st2 (x0 :: x1 :: x2 :: x3 :: x4 :: .val (.int b) :: y :: w :: l) 6 v = x0 :: x1 :: x2 :: x3 :: x4 :: .val (.int b) :: .val v :: .second :: l := id rfl
theorem ev_s1_6r (x0 x1 x2 x3 x4 : Slot) (b : Nat) (y : Slot) (v : Value) (l : List Slot) : st1 (x0 :: x1 :: x2 :: x3 :: x4 :: .val (.ref b) :: y :: l) 6 v = x0 :: x1 :: x2 :: x3 :: x4 :: .val (.ref b) :: .val v :: l := id rfl
theorem ev_s2_6r (x0 x1 x2 x3 x4 : Slot) (b : Nat) (y w : Slot) (v : Value) (l : List Slot) : st2 (x0 :: x1 :: x2 :: x3 :: x4 :: .val (.ref b) :: y :: w :: l) 6 v = x0 :: x1 :: x2 :: x3 :: x4 :: .val (.ref b) :: .val v :: .second :: l := id rfl
theorem ev_s1_6u (x0 x1 x2 x3 x4 : Slot) (y : Slot) (v : Value) (l : List Slot) : st1 (x0 :: x1 :: x2 :: x3 :: x4 :: .unset :: y :: l) 6 v = x0 :: x1 :: x2 :: x3 :: x4 :: .unset :: .val v :: l := id rfl
theorem ev_s2_6u (x0 x1 x2 x3 x4 : Slot) (y w : Slot) (v : Value) (l : List Slot) : st2 (x0 :: x1 :: x2 :: x3 :: x4 :: .unset :: y :: w :: l) 6 v = x0 :: x1 :: x2 :: x3 :: x4 :: .unset :: .val v :: .second :: l := id rfl
theorem ev_s1_6s (x0 x1 x2 x3 x4 : Slot) (y : Slot) (v : Value) (l : List Slot) : st1 (x0 :: x1 :: x2 :: x3 :: x4 :: .second :: y :: l) 6 v = x0 :: x1 :: x2 :: x3 :: x4 :: .second :: .val v :: l := id rfl
theorem ev_s2_6s (x0 x1 x2 x3 x4 : Slot) (y w : Slot) (v : Value) (l : List Slot) : st2 (x0 :: x1 :: x2 :: x3 :: x4 :: .second :: y :: w :: l) 6 v = x0 :: x1 :: x2 :: x3 :: x4 :: .second :: .val v :: .second :: l := id rfl
theorem ev_lvI7 (x0 x1 x2 x3 x4 x5 x6 : Slot) (a : Int32) (l : List Slot) (h : AH) : lvI 7 (x0 :: x1 :: x2 :: x3 :: x4 :: x5 :: x6 :: .val (.int a) :: l) h = some (a, h) := id rfl
theorem ev_lvL7 (x0 x1 x2 x3 x4 x5 x6 : Slot) (a : Int64) (l : List Slot) (h : AH) : lvL 7 (x0 :: x1 :: x2 :: x3 :: x4 :: x5 :: x6 :: .val (.long a) :: l) h = some (a, h) := id rfl
theorem ev_lvR7 (x0 x1 x2 x3 x4 x5 x6 : Slot) (a : Nat) (l : List Slot) (h : AH) : lvR 7 (x0 :: x1 :: x2 :: x3 :: x4 :: x5 :: x6 :: .val (.ref a) :: l) h = some (some a, h) := id rfl
theorem ev_inc7 (x0 x1 x2 x3 x4 x5 x6 : Slot) (a n : Int32) (l : List Slot) (h : AH) : incI 7 n (x0 :: x1 :: x2 :: x3 :: x4 :: x5 :: x6 :: .val (.int a) :: l) h = some (.inl 0, st1 (x0 :: x1 :: x2 :: x3 :: x4 :: x5 :: x6 :: .val (.int a) :: l) 7 (.int (a + n)), h) := id rfl
theorem ev_s1_7i (x0 x1 x2 x3 x4 x5 : Slot) (b : Int32) (y : Slot) (v : Value) (l : List Slot) : st1 (x0 :: x1 :: x2 :: x3 :: x4 :: x5 :: .val (.int b) :: y :: l) 7 v = x0 :: x1 :: x2 :: x3 :: x4 :: x5 :: .val (.int b) :: .val v :: l := id rfl
theorem ev_s2_7i (x0 x1 x2 x3 x4 x5 : Slot) (b : Int32) (y w : Slot) (v : Value) (l : List Slot) : st2 (x0 :: x1 :: x2 :: x3 :: x4 :: x5 :: .val (.int b) :: y :: w :: l) 7 v = x0 :: x1 :: x2 :: x3 :: x4 :: x5 :: .val (.int b) :: .val v :: .second :: l := id rfl
theorem ev_s1_7r (x0 x1 x2 x3 x4 x5 : Slot) (b : Nat) (y : Slot) (v : Value) (l : List Slot) : st1 (x0 :: x1 :: x2 :: x3 :: x4 :: x5 :: .val (.ref b) :: y :: l) 7 v = x0 :: x1 :: x2 :: x3 :: x4 :: x5 :: .val (.ref b) :: .val v :: l := id rfl
theorem ev_s2_7r (x0 x1 x2 x3 x4 x5 : Slot) (b : Nat) (y w : Slot) (v : Value) (l : List Slot) : st2 (x0 :: x1 :: x2 :: x3 :: x4 :: x5 :: .val (.ref b) :: y :: w :: l) 7 v = x0 :: x1 :: x2 :: x3 :: x4 :: x5 :: .val (.ref b) :: .val v :: .second :: l := id rfl
theorem ev_s1_7u (x0 x1 x2 x3 x4 x5 : Slot) (y : Slot) (v : Value) (l : List Slot) : st1 (x0 :: x1 :: x2 :: x3 :: x4 :: x5 :: .unset :: y :: l) 7 v = x0 :: x1 :: x2 :: x3 :: x4 :: x5 :: .unset :: .val v :: l := id rfl
theorem ev_s2_7u (x0 x1 x2 x3 x4 x5 : Slot) (y w : Slot) (v : Value) (l : List Slot) : st2 (x0 :: x1 :: x2 :: x3 :: x4 :: x5 :: .unset :: y :: w :: l) 7 v = x0 :: x1 :: x2 :: x3 :: x4 :: x5 :: .unset :: .val v :: .second :: l := id rfl
theorem ev_s1_7s (x0 x1 x2 x3 x4 x5 : Slot) (y : Slot) (v : Value) (l : List Slot) : st1 (x0 :: x1 :: x2 :: x3 :: x4 :: x5 :: .second :: y :: l) 7 v = x0 :: x1 :: x2 :: x3 :: x4 :: x5 :: .second :: .val v :: l := id rfl
theorem ev_s2_7s (x0 x1 x2 x3 x4 x5 : Slot) (y w : Slot) (v : Value) (l : List Slot) : st2 (x0 :: x1 :: x2 :: x3 :: x4 :: x5 :: .second :: y :: w :: l) 7 v = x0 :: x1 :: x2 :: x3 :: x4 :: x5 :: .second :: .val v :: .second :: l := id rfl
theorem ev_lvI8 (x0 x1 x2 x3 x4 x5 x6 x7 : Slot) (a : Int32) (l : List Slot) (h : AH) : lvI 8 (x0 :: x1 :: x2 :: x3 :: x4 :: x5 :: x6 :: x7 :: .val (.int a) :: l) h = some (a, h) := id rfl
theorem ev_lvL8 (x0 x1 x2 x3 x4 x5 x6 x7 : Slot) (a : Int64) (l : List Slot) (h : AH) : lvL 8 (x0 :: x1 :: x2 :: x3 :: x4 :: x5 :: x6 :: x7 :: .val (.long a) :: l) h = some (a, h) := id rfl
theorem ev_lvR8 (x0 x1 x2 x3 x4 x5 x6 x7 : Slot) (a : Nat) (l : List Slot) (h : AH) : lvR 8 (x0 :: x1 :: x2 :: x3 :: x4 :: x5 :: x6 :: x7 :: .val (.ref a) :: l) h = some (some a, h) := id rfl
theorem ev_inc8 (x0 x1 x2 x3 x4 x5 x6 x7 : Slot) (a n : Int32) (l : List Slot) (h : AH) : incI 8 n (x0 :: x1 :: x2 :: x3 :: x4 :: x5 :: x6 :: x7 :: .val (.int a) :: l) h = some (.inl 0, st1 (x0 :: x1 :: x2 :: x3 :: x4 :: x5 :: x6 :: x7 :: .val (.int a) :: l) 8 (.int (a + n)), h) := id rfl
theorem ev_s1_8i (x0 x1 x2 x3 x4 x5 x6 : Slot) (b : Int32) (y : Slot) (v : Value) (l : List Slot) : st1 (x0 :: x1 :: x2 :: x3 :: x4 :: x5 :: x6 :: .val (.int b) :: y :: l) 8 v = x0 :: x1 :: x2 :: x3 :: x4 :: x5 :: x6 :: .val (.int b) :: .val v :: l := id rfl
theorem ev_s2_8i (x0 x1 x2 x3 x4 x5 x6 : Slot) (b : Int32) (y w : Slot) (v : Value) (l : List Slot) : st2 (x0 :: x1 :: x2 :: x3 :: x4 :: x5 :: x6 :: .val (.int b) :: y :: w :: l) 8 v = x0 :: x1 :: x2 :: x3 :: x4 :: x5 :: x6 :: .val (.int b) :: .val v :: .second :: l := id rfl
theorem ev_s1_8r (x0 x1 x2 x3 x4 x5 x6 : Slot) (b : Nat) (y : Slot) (v : Value) (l : List Slot) : st1 (x0 :: x1 :: x2 :: x3 :: x4 :: x5 :: x6 :: .val (.ref b) :: y :: l) 8 v = x0 :: x1 :: x2 :: x3 :: x4 :: x5 :: x6 :: .val (.ref b) :: .val v :: l := id rfl
theorem ev_s2_8r (x0 x1 x2 x3 x4 x5 x6 : Slot) (b : Nat) (y w : Slot) (v : Value) (l : List Slot) : st2 (x0 :: x1 :: x2 :: x3 :: x4 :: x5 :: x6 :: .val (.ref b) :: y :: w :: l) 8 v = x0 :: x1 :: x2 :: x3 :: x4 :: x5 :: x6 :: .val (.ref b) :: .val v :: .second :: l := id rfl
theorem ev_s1_8u (x0 x1 x2 x3 x4 x5 x6 : Slot) (y : Slot) (v : Value) (l : List Slot) : st1 (x0 :: x1 :: x2 :: x3 :: x4 :: x5 :: x6 :: .unset :: y :: l) 8 v = x0 :: x1 :: x2 :: x3 :: x4 :: x5 :: x6 :: .unset :: .val v :: l := id rfl
theorem ev_s2_8u (x0 x1 x2 x3 x4 x5 x6 : Slot) (y w : Slot) (v : Value) (l : List Slot) : st2 (x0 :: x1 :: x2 :: x3 :: x4 :: x5 :: x6 :: .unset :: y :: w :: l) 8 v = x0 :: x1 :: x2 :: x3 :: x4 :: x5 :: x6 :: .unset :: .val v :: .second :: l := id rfl
theorem ev_s1_8s (x0 x1 x2 x3 x4 x5 x6 : Slot) (y : Slot) (v : Value) (l : List Slot) : st1 (x0 :: x1 :: x2 :: x3 :: x4 :: x5 :: x6 :: .second :: y :: l) 8 v = x0 :: x1 :: x2 :: x3 :: x4 :: x5 :: x6 :: .second :: .val v :: l := id rfl
theorem ev_s2_8s (x0 x1 x2 x3 x4 x5 x6 : Slot) (y w : Slot) (v : Value) (l : List Slot) : st2 (x0 :: x1 :: x2 :: x3 :: x4 :: x5 :: x6 :: .second :: y :: w :: l) 8 v = x0 :: x1 :: x2 :: x3 :: x4 :: x5 :: x6 :: .second :: .val v :: .second :: l := id rfl
theorem ev_lvI9 (x0 x1 x2 x3 x4 x5 x6 x7 x8 : Slot) (a : Int32) (l : List Slot) (h : AH) : lvI 9 (x0 :: x1 :: x2 :: x3 :: x4 :: x5 :: x6 :: x7 :: x8 :: .val (.int a) :: l) h = some (a, h) := id rfl
theorem ev_lvL9 (x0 x1 x2 x3 x4 x5 x6 x7 x8 : Slot) (a : Int64) (l : List Slot) (h : AH) : lvL 9 (x0 :: x1 :: x2 :: x3 :: x4 :: x5 :: x6 :: x7 :: x8 :: .val (.long a) :: l) h = some (a, h) := id rfl
theorem ev_lvR9 (x0 x1 x2 x3 x4 x5 x6 x7 x8 : Slot) (a : Nat) (l : List Slot) (h : AH) : lvR 9 (x0 :: x1 :: x2 :: x3 :: x4 :: x5 :: x6 :: x7 :: x8 :: .val (.ref a) :: l) h = some (some a, h) := id rfl
theorem ev_inc9 (x0 x1 x2 x3 x4 x5 x6 x7 x8 : Slot) (a n : Int32) (l : List Slot) (h : AH) : incI 9 n (x0 :: x1 :: x2 :: x3 :: x4 :: x5 :: x6 :: x7 :: x8 :: .val (.int a) :: l) h = some (.inl 0, st1 (x0 :: x1 :: x2 :: x3 :: x4 :: x5 :: x6 :: x7 :: x8 :: .val (.int a) :: l) 9 (.int (a + n)), h) := id rfl
theorem ev_s1_9i (x0 x1 x2 x3 x4 x5 x6 x7 : Slot) (b : Int32) (y : Slot) (v : Value) (l : List Slot) : st1 (x0 :: x1 :: x2 :: x3 :: x4 :: x5 :: x6 :: x7 :: .val (.int b) :: y :: l) 9 v = x0 :: x1 :: x2 :: x3 :: x4 :: x5 :: x6 :: x7 :: .val (.int b) :: .val v :: l := id rfl
theorem ev_s2_9i (x0 x1 x2 x3 x4 x5 x6 x7 : Slot) (b : Int32) (y w : Slot) (v : Value) (l : List Slot) : st2 (x0 :: x1 :: x2 :: x3 :: x4 :: x5 :: x6 :: x7 :: .val (.int b) :: y :: w :: l) 9 v = x0 :: x1 :: x2 :: x3 :: x4 :: x5 :: x6 :: x7 :: .val (.int b) :: .val v :: .second :: l := id rfl
theorem ev_s1_9r (x0 x1 x2 x3 x4 x5 x6 x7 : Slot) (b : Nat) (y : Slot) (v : Value) (l : List Slot) : st1 (x0 :: x1 :: x2 :: x3 :: x4 :: x5 :: x6 :: x7 :: .val (.ref b) :: y :: l) 9 v = x0 :: x1 :: x2 :: x3 :: x4 :: x5 :: x6 :: x7 :: .val (.ref b) :: .val v :: l := id rfl
theorem ev_s2_9r (x0 x1 x2 x3 x4 x5 x6 x7 : Slot) (b : Nat) (y w : Slot) (v : Value) (l : List Slot) : st2 (x0 :: x1 :: x2 :: x3 :: x4 :: x5 :: x6 :: x7 :: .val (.ref b) :: y :: w :: l) 9 v = x0 :: x1 :: x2 :: x3 :: x4 :: x5 :: x6 :: x7 :: .val (.ref b) :: .val v :: .second :: l := id rfl
theorem ev_s1_9u (x0 x1 x2 x3 x4 x5 x6 x7 : Slot) (y : Slot) (v : Value) (l : List Slot) : st1 (x0 :: x1 :: x2 :: x3 :: x4 :: x5 :: x6 :: x7 :: .unset :: y :: l) 9 v = x0 :: x1 :: x2 :: x3 :: x4 :: x5 :: x6 :: x7 :: .unset :: .val v :: l := id rfl
theorem ev_s2_9u (x0 x1 x2 x3 x4 x5 x6 x7 : Slot) (y w : Slot) (v : Value) (l : List Slot) : st2 (x0 :: x1 :: x2 :: x3 :: x4 :: x5 :: x6 :: x7 :: .unset :: y :: w :: l) 9 v = x0 :: x1 :: x2 :: x3 :: x4 :: x5 :: x6 :: x7 :: .unset :: .val v :: .second :: l := id rfl
theorem ev_s1_9s (x0 x1 x2 x3 x4 x5 x6 x7 : Slot) (y : Slot) (v : Value) (l : List Slot) : st1 (x0 :: x1 :: x2 :: x3 :: x4 :: x5 :: x6 :: x7 :: .second :: y :: l) 9 v = x0 :: x1 :: x2 :: x3 :: x4 :: x5 :: x6 :: x7 :: .second :: .val v :: l := id rfl
theorem ev_s2_9s (x0 x1 x2 x3 x4 x5 x6 x7 : Slot) (y w : Slot) (v : Value) (l : List Slot) : st2 (x0 :: x1 :: x2 :: x3 :: x4 :: x5 :: x6 :: x7 :: .second :: y :: w :: l) 9 v = x0 :: x1 :: x2 :: x3 :: x4 :: x5 :: x6 :: x7 :: .second :: .val v :: .second :: l := id rfl
theorem ev_lvI10 (x0 x1 x2 x3 x4 x5 x6 x7 x8 x9 : Slot) (a : Int32) (l : List Slot) (h : AH) : lvI 10 (x0 :: x1 :: x2 :: x3 :: x4 :: x5 :: x6 :: x7 :: x8 :: x9 :: .val (.int a) :: l) h = some (a, h) := id rfl
theorem ev_lvL10 (x0 x1 x2 x3 x4 x5 x6 x7 x8 x9 : Slot) (a : Int64) (l : List Slot) (h : AH) : lvL 10 (x0 :: x1 :: x2 :: x3 :: x4 :: x5 :: x6 :: x7 :: x8 :: x9 :: .val (.long a) :: l) h = some (a, h) := id rfl
theorem ev_lvR10 (x0 x1 x2 x3 x4 x5 x6 x7 x8 x9 : Slot) (a : Nat) (l : List Slot) (h : AH) : lvR 10 (x0 :: x1 :: x2 :: x3 :: x4 :: x5 :: x6 :: x7 :: x8 :: x9 :: .val (.ref a) :: l) h = some (some a, h) := id rfl
theorem ev_inc10 (x0 x1 x2 x3 x4 x5 x6 x7 x8 x9 : Slot) (a n : Int32) (l : List Slot) (h : AH) : incI 10 n (x0 :: x1 :: x2 :: x3 :: x4 :: x5 :: x6 :: x7 :: x8 :: x9 :: .val (.int a) :: l) h = some (.inl 0, st1 (x0 :: x1 :: x2 :: x3 :: x4 :: x5 :: x6 :: x7 :: x8 :: x9 :: .val (.int a) :: l) 10 (.int (a + n)), h) := id rfl
theorem ev_s1_10i (x0 x1 x2 x3 x4 x5 x6 x7 x8 : Slot) (b : Int32) (y : Slot) (v : Value) (l : List Slot) : st1 (x0 :: x1 :: x2 :: x3 :: x4 :: x5 :: x6 :: x7 :: x8 :: .val (.int b) :: y :: l) 10 v = x0 :: x1 :: x2 :: x3 :: x4 :: x5 :: x6 :: x7 :: x8 :: .val (.int b) :: .val v :: l := id rfl
theorem ev_s2_10i (x0 x1 x2 x3 x4 x5 x6 x7 x8 : Slot) (b : Int32) (y w : Slot) (v : Value) (l : List Slot) : st2 (x0 :: x1 :: x2 :: x3 :: x4 :: x5 :: x6 :: x7 :: x8 :: .val (.int b) :: y :: w :: l) 10 v = x0 :: x1 :: x2 :: x3 :: x4 :: x5 :: x6 :: x7 :: x8 :: .val (.int b) :: .val v :: .second :: l := id rfl
theorem ev_s1_10r (x0 x1 x2 x3 x4 x5 x6 x7 x8 : Slot) (b : Nat) (y : Slot) (v : Value) (l : List Slot) : st1 (x0 :: x1 :: x2 :: x3 :: x4 :: x5 :: x6 :: x7 :: x8 :: .val (.ref b) :: y :: l) 10 v = x0 :: x1 :: x2 :: x3 :: x4 :: x5 :: x6 :: x7 :: x8 :: .val (.ref b) :: .val v :: l := id rfl
theorem ev_s2_10r (x0 x1 x2 x3 x4 x5 x6 x7 x8 : Slot) (b : Nat) (y w : Slot) (v : Value) (l : List Slot) : st2 (x0 :: x1 :: x2 :: x3 :: x4 :: x5 :: x6 :: x7 :: x8 :: .val (.ref b) :: y :: w :: l) 10 v = x0 :: x1 :: x2 :: x3 :: x4 :: x5 :: x6 :: x7 :: x8 :: .val (.ref b) :: .val v :: .second :: l := id rfl
theorem ev_s1_10u (x0 x1 x2 x3 x4 x5 x6 x7 x8 : Slot) (y : Slot) (v : Value) (l : List Slot) : st1 (x0 :: x1 :: x2 :: x3 :: x4 :: x5 :: x6 :: x7 :: x8 :: .unset :: y :: l) 10 v = x0 :: x1 :: x2 :: x3 :: x4 :: x5 :: x6 :: x7 :: x8 :: .unset :: .val v :: l := id rfl
theorem ev_s2_10u (x0 x1 x2 x3 x4 x5 x6 x7 x8 : Slot) (y w : Slot) (v : Value) (l : List Slot) : st2 (x0 :: x1 :: x2 :: x3 :: x4 :: x5 :: x6 :: x7 :: x8 :: .unset :: y :: w :: l) 10 v = x0 :: x1 :: x2 :: x3 :: x4 :: x5 :: x6 :: x7 :: x8 :: .unset :: .val v :: .second :: l := id rfl
theorem ev_s1_10s (x0 x1 x2 x3 x4 x5 x6 x7 x8 : Slot) (y : Slot) (v : Value) (l : List Slot) : st1 (x0 :: x1 :: x2 :: x3 :: x4 :: x5 :: x6 :: x7 :: x8 :: .second :: y :: l) 10 v = x0 :: x1 :: x2 :: x3 :: x4 :: x5 :: x6 :: x7 :: x8 :: .second :: .val v :: l := id rfl
theorem ev_s2_10s (x0 x1 x2 x3 x4 x5 x6 x7 x8 : Slot) (y w : Slot) (v : Value) (l : List Slot) : st2 (x0 :: x1 :: x2 :: x3 :: x4 :: x5 :: x6 :: x7 :: x8 :: .second :: y :: w :: l) 10 v = x0 :: x1 :: x2 :: x3 :: x4 :: x5 :: x6 :: x7 :: x8 :: .second :: .val v :: .second :: l := id rfl
theorem ev_lvI11 (x0 x1 x2 x3 x4 x5 x6 x7 x8 x9 x10 : Slot) (a : Int32) (l : List Slot) (h : AH) : lvI 11 (x0 :: x1 :: x2 :: x3 :: x4 :: x5 :: x6 :: x7 :: x8 :: x9 :: x10 :: .val (.int a) :: l) h = some (a, h) := id rfl
theorem ev_lvL11 (x0 x1 x2 x3 x4 x5 x6 x7 x8 x9 x10 : Slot) (a : Int64) (l : List Slot) (h : AH) : lvL 11 (x0 :: x1 :: x2 :: x3 :: x4 :: x5 :: x6 :: x7 :: x8 :: x9 :: x10 :: .val (.long a) :: l) h = some (a, h) := id rfl
theorem ev_lvR11 (x0 x1 x2 x3 x4 x5 x6 x7 x8 x9 x10 : Slot) (a : Nat) (l : List Slot) (h : AH) : lvR 11 (x0 :: x1 :: x2 :: x3 :: x4 :: x5 :: x6 :: x7 :: x8 :: x9 :: x10 :: .val (.ref a) :: l) h = some (some a, h) := id rfl
theorem ev_inc11 (x0 x1 x2 x3 x4 x5 x6 x7 x8 x9 x10 : Slot) (a n : Int32) (l : List Slot) (h : AH) : incI 11 n (x0 :: x1 :: x2 :: x3 :: x4 :: x5 :: x6 :: x7 :: x8 :: x9 :: x10 :: .val (.int a) :: l) h = some (.inl 0, st1 (x0 :: x1 :: x2 :: x3 :: x4 :: x5 :: x6 :: x7 :: x8 :: x9 :: x10 :: .val (.int a) :: l) 11 (.int (a + n)), h) := id rfl
theorem ev_s1_11i (x0 x1 x2 x3 x4 x5 x6 x7 x8 x9 : Slot) (b : Int32) (y : Slot) (v : Value) (l : List Slot) : st1 (x0 :: x1 :: x2 :: x3 :: x4 :: x5 :: x6 :: x7 :: x8 :: x9 :: .val (.int b) :: y :: l) 11 v = x0 :: x1 :: x2 :: x3 :: x4 :: x5 :: x6 :: x7 :: x8 :: x9 :: .val (.int b) :: .val v :: l := id rfl
theorem ev_s2_11i (x0 x1 x2 x3 x4 x5 x6 x7 x8 x9 : Slot) (b : Int32) (y w : Slot) (v : Value) (l : List Slot) : st2 (x0 :: x1 :: x2 :: x3 :: x4 :: x5 :: x6 :: x7 :: x8 :: x9 :: .val (.int b) :: y :: w :: l) 11 v = x0 :: x1 :: x2 :: x3 :: x4 :: x5 :: x6 :: x7 :: x8 :: x9 :: .val (.int b) :: .val v :: .second :: l := id rfl
theorem ev_s1_11r (x0 x1 x2 x3 x4 x5 x6 x7 x8 x9 : Slot) (b : Nat) (y : Slot) (v : Value) (l : List Slot) : st1 (x0 :: x1 :: x2 :: x3 :: x4 :: x5 :: x6 :: x7 :: x8 :: x9 :: .val (.ref b) :: y :: l) 11 v = x0 :: x1 :: x2 :: x3 :: x4 :: x5 :: x6 :: x7 :: x8 :: x9 :: .val (.ref b) :: .val v :: l := id rfl
theorem ev_s2_11r (x0 x1 x2 x3 x4 x5 x6 x7 x8 x9 : Slot) (b : Nat) (y w : Slot) (v : Value) (l : List Slot) : st2 (x0 :: x1 :: x2 :: x3 :: x4 :: x5 :: x6 :: x7 :: x8 :: x9 :: .val (.ref b) :: y :: w :: l) 11 v = x0 :: x1 :: x2 :: x3 :: x4 :: x5 :: x6 :: x7 :: x8 :: x9 :: .val (.ref b) :: .val v :: .second :: l := id rfl
theorem ev_s1_11u (x0 x1 x2 x3 x4 x5 x6 x7 x8 x9 : Slot) (y : Slot) (v : Value) (l : List Slot) : st1 (x0 :: x1 :: x2 :: x3 :: x4 :: x5 :: x6 :: x7 :: x8 :: x9 :: .unset :: y :: l) 11 v = x0 :: x1 :: x2 :: x3 :: x4 :: x5 :: x6 :: x7 :: x8 :: x9 :: .unset :: .val v :: l := id rfl
theorem ev_s2_11u (x0 x1 x2 x3 x4 x5 x6 x7 x8 x9 : Slot) (y w : Slot) (v : Value) (l : List Slot) : st2 (x0 :: x1 :: x2 :: x3 :: x4 :: x5 :: x6 :: x7 :: x8 :: x9 :: .unset :: y :: w :: l) 11 v = x0 :: x1 :: x2 :: x3 :: x4 :: x5 :: x6 :: x7 :: x8 :: x9 :: .unset :: .val v :: .second :: l := id rfl
theorem ev_s1_11s (x0 x1 x2 x3 x4 x5 x6 x7 x8 x9 : Slot) (y : Slot) (v : Value) (l : List Slot) : st1 (x0 :: x1 :: x2 :: x3 :: x4 :: x5 :: x6 :: x7 :: x8 :: x9 :: .second :: y :: l) 11 v = x0 :: x1 :: x2 :: x3 :: x4 :: x5 :: x6 :: x7 :: x8 :: x9 :: .second :: .val v :: l := id rfl
theorem ev_s2_11s (x0 x1 x2 x3 x4 x5 x6 x7 x8 x9 : Slot) (y w : Slot) (v : Value) (l : List Slot) : st2 (x0 :: x1 :: x2 :: x3 :: x4 :: x5 :: x6 :: x7 :: x8 :: x9 :: .second :: y :: w :: l) 11 v = x0 :: x1 :: x2 :: x3 :: x4 :: x5 :: x6 :: x7 :: x8 :: x9 :: .second :: .val v :: .second :: l := id rfl
theorem ev_lvI12 (x0 x1 x2 x3 x4 x5 x6 x7 x8 x9 x10 x11 : Slot) (a : Int32) (l : List Slot) (h : AH) : lvI 12 (x0 :: x1 :: x2 :: x3 :: x4 :: x5 :: x6 :: x7 :: x8 :: x9 :: x10 :: x11 :: .val (.int a) :: l) h = some (a, h) := id rfl
theorem ev_lvL12 (x0 x1 x2 x3 x4 x5 x6 x7 x8 x9 x10 x11 : Slot) (a : Int64) (l : List Slot) (h : AH) : lvL 12 (x0 :: x1 :: x2 :: x3 :: x4 :: x5 :: x6 :: x7 :: x8 :: x9 :: x10 :: x11 :: .val (.long a) :: l) h = some (a, h) := id rfl
theorem ev_lvR12 (x0 x1 x2 x3 x4 x5 x6 x7 x8 x9 x10 x11 : Slot) (a : Nat) (l : List Slot) (h : AH) : lvR 12 (x0 :: x1 :: x2 :: x3 :: x4 :: x5 :: x6 :: x7 :: x8 :: x9 :: x10 :: x11 :: .val (.ref a) :: l) h = some (some a, h) := id rfl
theorem ev_inc12 (x0 x1 x2 x3 x4 x5 x6 x7 x8 x9 x10 x11 : Slot) (a n : Int32) (l : List Slot) (h : AH) : incI 12 n (x0 :: x1 :: x2 :: x3 :: x4 :: x5 :: x6 :: x7 :: x8 :: x9 :: x10 :: x11 :: .val (.int a) :: l) h = some (.inl 0, st1 (x0 :: x1 :: x2 :: x3 :: x4 :: x5 :: x6 :: x7 :: x8 :: x9 :: x10 :: x11 :: .val (.int a) :: l) 12 (.int (a + n)), h) := id rfl
theorem ev_s1_12i (x0 x1 x2 x3 x4 x5 x6 x7 x8 x9 x10 : Slot) (b : Int32) (y : Slot) (v : Value) (l : List Slot) : st1 (x0 :: x1 :: x2 :: x3 :: x4 :: x5 :: x6 :: x7 :: x8 :: x9 :: x10 :: .val (.int b) :: y :: l) 12 v = x0 :: x1 :: x2 :: x3 :: x4 :: x5 :: x6 :: x7 :: x8 :: x9 :: x10 :: .val (.int b) :: .val v :: l := id rfl
theorem ev_s2_12i (x0 x1 x2 x3 x4 x5 x6 x7 x8 x9 x10 : Slot) (b : Int32) (y w : Slot) (v : Value) (l : List Slot) : st2 (x0 :: x1 :: x2 :: x3 :: x4 :: x5 :: x6 :: x7 :: x8 :: x9 :: x10 :: .val (.int b) :: y :: w :: l) 12 v = x0 :: x1 :: x2 :: x3 :: x4 :: x5 :: x6 :: x7 :: x8 :: x9 :: x10 :: .val (.int b) :: .val v :: .second :: l := id rfl
theorem ev_s1_12r (x0 x1 x2 x3 x4 x5 x6 x7 x8 x9 x10 : Slot) (b : Nat) (y : Slot) (v : Value) (l : List Slot) : st1 (x0 :: x1 :: x2 :: x3 :: x4 :: x5 :: x6 :: x7 :: x8 :: x9 :: x10 :: .val (.ref b) :: y :: l) 12 v = x0 :: x1 :: x2 :: x3 :: x4 :: x5 :: x6 :: x7 :: x8 :: x9 :: x10 :: .val (.ref b) :: .val v :: l := id rfl
theorem ev_s2_12r (x0 x1 x2 x3 x4 x5 x6 x7 x8 x9 x10 : Slot) (b : Nat) (y w : Slot) (v : Value) (l : List Slot) : st2 (x0 :: x1 :: x2 :: x3 :: x4 :: x5 :: x6 :: x7 :: x8 :: x9 :: x10 :: .val (.ref b) :: y :: w :: l) 12 v = x0 :: x1 :: x2 :: x3 :: x4 :: x5 :: x6 :: x7 :: x8 :: x9 :: x10 :: .val (.ref b) :: .val v :: .second :: l := id rfl
theorem ev_s1_12u (x0 x1 x2 x3 x4 x5 x6 x7 x8 x9 x10 : Slot) (y : Slot) (v : Value) (l : List Slot) : st1 (x0 :: x1 :: x2 :: x3 :: x4 :: x5 :: x6 :: x7 :: x8 :: x9 :: x10 :: .unset :: y :: l) 12 v = x0 :: x1 :: x2 :: x3 :: x4 :: x5 :: x6 :: x7 :: x8 :: x9 :: x10 :: .unset :: .val v :: l := id rfl
theorem ev_s2_12u (x0 x1 x2 x3 x4 x5 x6 x7 x8 x9 x10 : Slot) (y w : Slot) (v : Value) (l : List Slot) : st2 (x0 :: x1 :: x2 :: x3 :: x4 :: x5 :: x6 :: x7 :: x8 :: x9 :: x10 :: .unset :: y :: w :: l) 12 v = x0 :: x1 :: x2 :: x3 :: x4 :: x5 :: x6 :: x7 :: x8 :: x9 :: x10 :: .unset :: .val v :: .second :: l := id rfl
theorem ev_s1_12s (x0 x1 x2 x3 x4 x5 x6 x7 x8 x9 x10 : Slot) (y : Slot) (v : Value) (l : List Slot) : st1 (x0 :: x1 :: x2 :: x3 :: x4 :: x5 :: x6 :: x7 :: x8 :: x9 :: x10 :: .second :: y :: l) 12 v = x0 :: x1 :: x2 :: x3 :: x4 :: x5 :: x6 :: x7 :: x8 :: x9 :: x10 :: .second :: .val v :: l := id rfl
theorem ev_s2_12s (x0 x1 x2 x3 x4 x5 x6 x7 x8 x9 x10 : Slot) (y w : Slot) (v : Value) (l : List Slot) : st2 (x0 :: x1 :: x2 :: x3 :: x4 :: x5 :: x6 :: x7 :: x8 :: x9 :: x10 :: .second :: y :: w :: l) 12 v = x0 :: x1 :: x2 :: x3 :: x4 :: x5 :: x6 :: x7 :: x8 :: x9 :: x10 :: .second :: .val v :: .second :: l := id rfl
theorem ev_lvI13 (x0 x1 x2 x3 x4 x5 x6 x7 x8 x9 x10 x11 x12 : Slot) (a : Int32) (l : List Slot) (h : AH) : lvI 13 (x0 :: x1 :: x2 :: x3 :: x4 :: x5 :: x6 :: x7 :: x8 :: x9 :: x10 :: x11 :: x12 :: .val (.int a) :: l) h = some (a, h) := id rfl
theorem ev_lvL13 (x0 x1 x2 x3 x4 x5 x6 x7 x8 x9 x10 x11 x12 : Slot) (a : Int64) (l : List Slot) (h : AH) : lvL 13 (x0 :: x1 :: x2 :: x3 :: x4 :: x5 :: x6 :: x7 :: x8 :: x9 :: x10 :: x11 :: x12 :: .val (.long a) :: l) h = some (a, h) := id rfl
theorem ev_lvR13 (x0 x1 x2 x3 x4 x5 x6 x7 x8 x9 x10 x11 x12 : Slot) (a : Nat) (l : List Slot) (h : AH) : lvR 13 (x0 :: x1 :: x2 :: x3 :: x4 :: x5 :: x6 :: x7 :: x8 :: x9 :: x10 :: x11 :: x12 :: .val (.ref a) :: l) h = some (some a, h) := id rfl
theorem ev_inc13 (x0 x1 x2 x3 x4 x5 x6 x7 x8 x9 x10 x11 x12 : Slot) (a n : Int32) (l : List Slot) (h : AH) : incI 13 n (x0 :: x1 :: x2 :: x3 :: x4 :: x5 :: x6 :: x7 :: x8 :: x9 :: x10 :: x11 :: x12 :: .val (.int a) :: l) h = some (.inl 0, st1 (x0 :: x1 :: x2 :: x3 :: x4 :: x5 :: x6 :: x7 :: x8 :: x9 :: x10 :: x11 :: x12 :: .val (.int a) :: l) 13 (.int (a + n)), h) := id rfl
theorem ev_s1_13i (x0 x1 x2 x3 x4 x5 x6 x7 x8 x9 x10 x11 : Slot) (b : Int32) (y : Slot) (v : Value) (l : List Slot) : st1 (x0 :: x1 :: x2 :: x3 :: x4 :: x5 :: x6 :: x7 :: x8 :: x9 :: x10 :: x11 :: .val (.int b) :: y :: l) 13 v = x0 :: x1 :: x2 :: x3 :: x4 :: x5 :: x6 :: x7 :: x8 :: x9 :: x10 :: x11 :: .val (.int b) :: .val v :: l := id rfl
theorem ev_s2_13i (x0 x1 x2 x3 x4 x5 x6 x7 x8 x9 x10 x11 : Slot) (b : Int32) (y w : Slot) (v : Value) (l : List Slot) : st2 (x0 :: x1 :: x2 :: x3 :: x4 :: x5 :: x6 :: x7 :: x8 :: x9 :: x10 :: x11 :: .val (.int b) :: y :: w :: l) 13 v = x0 :: x1 :: x2 :: x3 :: x4 :: x5 :: x6 :: x7 :: x8 :: x9 :: x10 :: x11 :: .val (.int b) :: .val v :: .second :: l := id rfl
theorem ev_s1_13r (x0 x1 x2 x3 x4 x5 x6 x7 x8 x9 x10 x11 : Slot) (b : Nat) (y : Slot) (v : Value) (l : List Slot) : st1 (x0 :: x1 :: x2 :: x3 :: x4 :: x5 :: x6 :: x7 :: x8 :: x9 :: x10 :: x11 :: .val (.ref b) :: y :: l) 13 v = x0 :: x1 :: x2 :: x3 :: x4 :: x5 :: x6 :: x7 :: x8 :: x9 :: x10 :: x11 :: .val (.ref b) :: .val v :: l := id rfl
theorem ev_s2_13r (x0 x1 x2 x3 x4 x5 x6 x7 x8 x9 x10 x11 : Slot) (b : Nat) (y w : Slot) (v : Value) (l : List Slot) : st2 (x0 :: x1 :: x2 :: x3 :: x4 :: x5 :: x6 :: x7 :: x8 :: x9 :: x10 :: x11 :: .val (.ref b) :: y :: w :: l) 13 v = x0 :: x1 :: x2 :: x3 :: x4 :: x5 :: x6 :: x7 :: x8 :: x9 :: x10 :: x11 :: .val (.ref b) :: .val v :: .second :: l := id rfl
theorem ev_s1_13u (x0 x1 x2 x3 x4 x5 x6 x7 x8 x9 x10 x11 : Slot) (y : Slot) (v : Value) (l : List Slot) : st1 (x0 :: x1 :: x2 :: x3 :: x4 :: x5 :: x6 :: x7 :: x8 :: x9 :: x10 :: x11 :: .unset :: y :: l) 13 v = x0 :: x1 :: x2 :: x3 :: x4 :: x5 :: x6 :: x7 :: x8 :: x9 :: x10 :: x11 :: .unset :: .val v :: l := id rfl
theorem ev_s2_13u (x0 x1 x2 x3 x4 x5 x6 x7 x8 x9 x10 x11 : Slot) (y w : Slot) (v : Value) (l : List Slot) : st2 (x0 :: x1 :: x2 :: x3 :: x4 :: x5 :: x6 :: x7 :: x8 :: x9 :: x10 :: x11 :: .unset :: y :: w :: l) 13 v = x0 :: x1 :: x2 :: x3 :: x4 :: x5 :: x6 :: x7 :: x8 :: x9 :: x10 :: x11 :: .unset :: .val v :: .second :: l := id rfl
theorem ev_s1_13s (x0 x1 x2 x3 x4 x5 x6 x7 x8 x9 x10 x11 : Slot) (y : Slot) (v : Value) (l : List Slot) : st1 (x0 :: x1 :: x2 :: x3 :: x4 :: x5 :: x6 :: x7 :: x8 :: x9 :: x10 :: x11 :: .second :: y :: l) 13 v = x0 :: x1 :: x2 :: x3 :: x4 :: x5 :: x6 :: x7 :: x8 :: x9 :: x10 :: x11 :: .second :: .val v :: l := id rfl
theorem ev_s2_13s (x0 x1 x2 x3 x4 x5 x6 x7 x8 x9 x10 x11 : Slot) (y w : Slot) (v : Value) (l : List Slot) : st2 (x0 :: x1 :: x2 :: x3 :: x4 :: x5 :: x6 :: x7 :: x8 :: x9 :: x10 :: x11 :: .second :: y :: w :: l) 13 v = x0 :: x1 :: x2 :: x3 :: x4 :: x5 :: x6 :: x7 :: x8 :: x9 :: x10 :: x11 :: .second :: .val v :: .second :: l := id rfl
theorem ev_cut1_0 (x0 : Slot) : cutE [x0] 0 = [.unset] := id rfl
theorem ev_cut1_1 (x0 : Slot) : cutE [x0] 1 = [x0] := id rfl
theorem ev_cut2_0 (x0 x1 : Slot) : cutE [x0, x1] 0 = [.unset, .unset] := id rfl
theorem ev_cut2_1 (x0 x1 : Slot) : cutE [x0, x1] 1 = [x0, .unset] := id rfl
theorem ev_cut2_2 (x0 x1 : Slot) : cutE [x0, x1] 2 = [x0, x1] := id rfl
theorem ev_cut3_0 (x0 x1 x2 : Slot) : cutE [x0, x1, x2] 0 = [.unset, .unset, .unset] := id rfl
theorem ev_cut3_1 (x0 x1 x2 : Slot) : cutE [x0, x1, x2] 1 = [x0, .unset, .unset] := id rfl
theorem ev_cut3_2 (x0 x1 x2 : Slot) : cutE [x0, x1, x2] 2 = [x0, x1, .unset] := id rfl
theorem ev_cut3_3 (x0 x1 x2 : Slot) : cutE [x0, x1, x2] 3 = [x0, x1, x2] := id rfl
theorem ev_cut4_0 (x0 x1 x2 x3 : Slot) : cutE [x0, x1, x2, x3] 0 = [.unset, .unset, .unset, .unset] := id rfl
theorem ev_cut4_1 (x0 x1 x2 x3 : Slot) : cutE [x0, x1, x2, x3] 1 = [x0, .unset, .unset, .unset] := id rfl
theorem ev_cut4_2 (x0 x1 x2 x3 : Slot) : cutE [x0, x1, x2, x3] 2 = [x0, x1, .unset, .unset] := id rfl
theorem ev_cut4_3 (x0 x1 x2 x3 : Slot) : cutE [x0, x1, x2, x3] 3 = [x0, x1, x2, .unset] := id rfl
theorem ev_cut4_4 (x0 x1 x2 x3 : Slot) : cutE [x0, x1, x2, x3] 4 = [x0, x1, x2, x3] := id rfl
theorem ev_cut5_0 (x0 x1 x2 x3 x4 : Slot) : cutE [x0, x1, x2, x3, x4] 0 = [.unset, .unset, .unset, .unset, .unset] := id rfl
theorem ev_cut5_1 (x0 x1 x2 x3 x4 : Slot) : cutE [x0, x1, x2, x3, x4] 1 = [x0, .unset, .unset, .unset, .unset] := id rfl
theorem ev_cut5_2 (x0 x1 x2 x3 x4 : Slot) : cutE [x0, x1, x2, x3, x4] 2 = [x0, x1, .unset, .unset, .unset] := id rfl
theorem ev_cut5_3 (x0 x1 x2 x3 x4 : Slot) : cutE [x0, x1, x2, x3, x4] 3 = [x0, x1, x2, .unset, .unset] := id rfl
theorem ev_cut5_4 (x0 x1 x2 x3 x4 : Slot) : cutE [x0, x1, x2, x3, x4] 4 = [x0, x1, x2, x3, .unset] := id rfl
theorem ev_cut5_5 (x0 x1 x2 x3 x4 : Slot) : cutE [x0, x1, x2, x3, x4] 5 = [x0, x1, x2, x3, x4] := id rfl
theorem ev_cut6_0 (x0 x1 x2 x3 x4 x5 : Slot) : cutE [x0, x1, x2, x3, x4, x5] 0 = [.unset, .unset, .unset, .unset, .unset, .unset] := id rfl
theorem ev_cut6_1 (x0 x1 x2 x3 x4 x5 : Slot) : cutE [x0, x1, x2, x3, x4, x5] 1 = [x0, .unset, .unset, .unset, .unset, .unset] := id rfl
theorem ev_cut6_2 (x0 x1 x2 x3 x4 x5 : Slot) : cutE [x0, x1, x2, x3, x4, x5] 2 = [x0, x1, .unset, .unset, .unset, .unset] := id rfl
theorem ev_cut6_3 (x0 x1 x2 x3 x4 x5 : Slot) : cutE [x0, x1, x2, x3, x4, x5] 3 = [x0, x1, x2, .unset, .unset, .unset] := id rfl
theorem ev_cut6_4 (x0 x1 x2 x3 x4 x5 : Slot) : cutE [x0, x1, x2, x3, x4, x5] 4 = [x0, x1, x2, x3, .unset, .unset] := id rfl
theorem ev_cut6_5 (x0 x1 x2 x3 x4 x5 : Slot) : cutE [x0, x1, x2, x3, x4, x5] 5 = [x0, x1, x2, x3, x4, .unset] := id rfl
theorem ev_cut6_6 (x0 x1 x2 x3 x4 x5 : Slot) : cutE [x0, x1, x2, x3, x4, x5] 6 = [x0, x1, x2, x3, x4, x5] := id rfl
theorem ev_cut7_0 (x0 x1 x2 x3 x4 x5 x6 : Slot) : cutE [x0, x1, x2, x3, x4, x5, x6] 0 = [.unset, .unset, .unset, .unset, .unset, .unset, .unset] := id rfl
theorem ev_cut7_1 (x0 x1 x2 x3 x4 x5 x6 : Slot) : cutE [x0, x1, x2, x3, x4, x5, x6] 1 = [x0, .unset, .unset, .unset, .unset, .unset, .unset] := id rfl
theorem ev_cut7_2 (x0 x1 x2 x3 x4 x5 x6 : Slot) : cutE [x0, x1, x2, x3, x4, x5, x6] 2 = [x0, x1, .unset, .unset, .unset, .unset, .unset] := id rfl
theorem ev_cut7_3 (x0 x1 x2 x3 x4 x5 x6 : Slot) : cutE [x0, x1, x2, x3, x4, x5, x6] 3 = [x0, x1, x2, .unset, .unset, .unset, .unset] := id rfl
theorem ev_cut7_4 (x0 x1 x2 x3 x4 x5 x6 : Slot) : cutE [x0, x1, x2, x3, x4, x5, x6] 4 = [x0, x1, x2, x3, .unset, .unset, .unset] := id rfl
theorem ev_cut7_5 (x0 x1 x2 x3 x4 x5 x6 : Slot) : cutE [x0, x1, x2, x3, x4, x5, x6] 5 = [x0, x1, x2, x3, x4, .unset, .unset] := id rfl
theorem ev_cut7_6 (x0 x1 x2 x3 x4 x5 x6 : Slot) : cutE [x0, x1, x2, x3, x4, x5, x6] 6 = [x0, x1, x2, x3, x4, x5, .unset] := id rfl
theorem ev_cut7_7 (x0 x1 x2 x3 x4 x5 x6 : Slot) : cutE [x0, x1, x2, x3, x4, x5, x6] 7 = [x0, x1, x2, x3, x4, x5, x6] := id rfl
theorem ev_cut8_0 (x0 x1 x2 x3 x4 x5 x6 x7 : Slot) : cutE [x0, x1, x2, x3, x4, x5, x6, x7] 0 = [.unset, .unset, .unset, .unset, .unset, .unset, .unset, .unset] := id rfl
theorem ev_cut8_1 (x0 x1 x2 x3 x4 x5 x6 x7 : Slot) : cutE [x0, x1, x2, x3, x4, x5, x6, x7] 1 = [x0, .unset, .unset, .unset, .unset, .unset, .unset, .unset] := id rfl
theorem ev_cut8_2 (x0 x1 x2 x3 x4 x5 x6 x7 : Slot) : cutE [x0, x1, x2, x3, x4, x5, x6, x7] 2 = [x0, x1, .unset, .unset, .unset, .unset, .unset, .unset] := id rfl
theorem ev_cut8_3 (x0 x1 x2 x3 x4 x5 x6 x7 : Slot) : cutE [x0, x1, x2, x3, x4, x5, x6, x7] 3 = [x0, x1, x2, .unset, .unset, .unset, .unset, .unset] := id rfl
theorem ev_cut8_4 (x0 x1 x2 x3 x4 x5 x6 x7 : Slot) : cutE [x0, x1, x2, x3, x4, x5, x6, x7] 4 = [x0, x1, x2, x3, .unset, .unset, .unset, .unset] := id rfl
theorem ev_cut8_5 (x0 x1 x2 x3 x4 x5 x6 x7 : Slot) : cutE [x0, x1, x2, x3, x4, x5, x6, x7] 5 = [x0, x1, x2, x3, x4, .unset, .unset, .unset] := id rfl
theorem ev_cut8_6 (x0 x1 x2 x3 x4 x5 x6 x7 : Slot) : cutE [x0, x1, x2, x3, x4, x5, x6, x7] 6 = [x0, x1, x2, x3, x4, x5, .unset, .unset] := id rfl
theorem ev_cut8_7 (x0 x1 x2 x3 x4 x5 x6 x7 : Slot) : cutE [x0, x1, x2, x3, x4, x5, x6, x7] 7 = [x0, x1, x2, x3, x4, x5, x6, .unset] := id rfl
theorem ev_cut8_8 (x0 x1 x2 x3 x4 x5 x6 x7 : Slot) : cutE [x0, x1, x2, x3, x4, x5, x6, x7] 8 = [x0, x1, x2, x3, x4, x5, x6, x7] := id rfl
theorem ev_cut9_0 (x0 x1 x2 x3 x4 x5 x6 x7 x8 : Slot) : cutE [x0, x1, x2, x3, x4, x5, x6, x7, x8] 0 = [.unset, .unset, .unset, .unset, .unset, .unset, .unset, .unset, .unset] := id rfl
theorem ev_cut9_1 (x0 x1 x2 x3 x4 x5 x6 x7 x8 : Slot) : cutE [x0, x1, x2, x3, x4, x5, x6, x7, x8] 1 = [x0, .unset, .unset, .unset, .unset, .unset, .unset, .unset, .unset] := id rfl
theorem ev_cut9_2 (x0 x1 x2 x3 x4 x5 x6 x7 x8 : Slot) : cutE [x0, x1, x2, x3, x4, x5, x6, x7, x8] 2 = [x0, x1, .unset, .unset, .unset, .unset, .unset, .unset, .unset] := id rfl
theorem ev_cut9_3 (x0 x1 x2 x3 x4 x5 x6 x7 x8 : Slot) : cutE [x0, x1, x2, x3, x4, x5, x6, x7, x8] 3 = [x0, x1, x2, .unset, .unset, .unset, .unset, .unset, .unset] := id rfl
theorem ev_cut9_4 (x0 x1 x2 x3 x4 x5 x6 x7 x8 : Slot) : cutE [x0, x1, x2, x3, x4, x5, x6, x7, x8] 4 = [x0, x1, x2, x3, .unset, .unset, .unset, .unset, .unset] := id rfl
theorem ev_cut9_5 (x0 x1 x2 x3 x4 x5 x6 x7 x8 : Slot) : cutE [x0, x1, x2, x3, x4, x5, x6, x7, x8] 5 = [x0, x1, x2, x3, x4, .unset, .unset, .unset, .unset] := id rfl
theorem ev_cut9_6 (x0 x1 x2 x3 x4 x5 x6 x7 x8 : Slot) : cutE [x0, x1, x2, x3, x4, x5, x6, x7, x8] 6 = [x0, x1, x2, x3, x4, x5, .unset, .unset, .unset] := id rfl
theorem ev_cut9_7 (x0 x1 x2 x3 x4 x5 x6 x7 x8 : Slot) : cutE [x0, x1, x2, x3, x4, x5, x6, x7, x8] 7 = [x0, x1, x2, x3, x4, x5, x6, .unset, .unset] := id rfl
theorem ev_cut9_8 (x0 x1 x2 x3 x4 x5 x6 x7 x8 : Slot) : cutE [x0, x1, x2, x3, x4, x5, x6, x7, x8] 8 = [x0, x1, x2, x3, x4, x5, x6, x7, .unset] := id rfl
theorem ev_cut9_9 (x0 x1 x2 x3 x4 x5 x6 x7 x8 : Slot) : cutE [x0, x1, x2, x3, x4, x5, x6, x7, x8] 9 = [x0, x1, x2, x3, x4, x5, x6, x7, x8] := id rfl
theorem ev_cut10_0 (x0 x1 x2 x3 x4 x5 x6 x7 x8 x9 : Slot) : cutE [x0, x1, x2, x3, x4, x5, x6, x7, x8, x9] 0 = [.unset, .unset, .unset, .unset, .unset, .unset, .unset, .unset, .unset, .unset] := id rfl
theorem ev_cut10_1 (x0 x1 x2 x3 x4 x5 x6 x7 x8 x9 : Slot) : cutE [x0, x1, x2, x3, x4, x5, x6, x7, x8, x9] 1 = [x0, .unset, .unset, .unset, .unset, .unset, .unset, .unset, .unset, .unset] := id rfl
theorem ev_cut10_2 (x0 x1 x2 x3 x4 x5 x6 x7 x8 x9 : Slot) : cutE [x0, x1, x2, x3, x4, x5, x6, x7, x8, x9] 2 = [x0, x1, .unset, .unset, .unset, .unset, .unset, .unset, .unset, .unset] := id rfl
theorem ev_cut10_3 (x0 x1 x2 x3 x4 x5 x6 x7 x8 x9 : Slot) : cutE [x0, x1, x2, x3, x4, x5, x6, x7, x8, x9] 3 = [x0, x1, x2, .unset, .unset, .unset, .unset, .unset, .unset, .unset] := id rfl
theorem ev_cut10_4 (x0 x1 x2 x3 x4 x5 x6 x7 x8 x9 : Slot) : cutE [x0, x1, x2, x3, x4, x5, x6, x7, x8, x9] 4 = [x0, x1, x2, x3, .unset, .unset, .unset, .unset, .unset, .unset] := id rfl
theorem ev_cut10_5 (x0 x1 x2 x3 x4 x5 x6 x7 x8 x9 : Slot) : cutE [x0, x1, x2, x3, x4, x5, x6, x7, x8, x9] 5 = [x0, x1, x2, x3, x4, .unset, .unset, .unset, .unset, .unset] := id rfl
theorem ev_cut10_6 (x0 x1 x2 x3 x4 x5 x6 x7 x8 x9 : Slot) : cutE [x0, x1, x2, x3, x4, x5, x6, x7, x8, x9] 6 = [x0, x1, x2, x3, x4, x5, .unset, .unset, .unset, .unset] := id rfl
theorem ev_cut10_7 (x0 x1 x2 x3 x4 x5 x6 x7 x8 x9 : Slot) : cutE [x0, x1, x2, x3, x4, x5, x6, x7, x8, x9] 7 = [x0, x1, x2, x3, x4, x5, x6, .unset, .unset, .unset] := id rfl
theorem ev_cut10_8 (x0 x1 x2 x3 x4 x5 x6 x7 x8 x9 : Slot) : cutE [x0, x1, x2, x3, x4, x5, x6, x7, x8, x9] 8 = [x0, x1, x2, x3, x4, x5, x6, x7, .unset, .unset] := id rfl
theorem ev_cut10_9 (x0 x1 x2 x3 x4 x5 x6 x7 x8 x9 : Slot) : cutE [x0, x1, x2, x3, x4, x5, x6, x7, x8, x9] 9 = [x0, x1, x2, x3, x4, x5, x6, x7, x8, .unset] := id rfl
theorem ev_cut10_10 (x0 x1 x2 x3 x4 x5 x6 x7 x8 x9 : Slot) : cutE [x0, x1, x2, x3, x4, x5, x6, x7, x8, x9] 10 = [x0, x1, x2, x3, x4, x5, x6, x7, x8, x9] := id rfl
theorem ev_cut11_0 (x0 x1 x2 x3 x4 x5 x6 x7 x8 x9 x10 : Slot) : cutE [x0, x1, x2, x3, x4, x5, x6, x7, x8, x9, x10] 0 = [.unset, .unset, .unset, .unset, .unset, .unset, .unset, .unset, .unset, .unset, .unset] := id rfl
theorem ev_cut11_1 (x0 x1 x2 x3 x4 x5 x6 x7 x8 x9 x10 : Slot) : cutE [x0, x1, x2, x3, x4, x5, x6, x7, x8, x9, x10] 1 = [x0, .unset, .unset, .unset, .unset, .unset, .unset, .unset, .unset, .unset, .unset] := id rfl
theorem ev_cut11_2 (x0 x1 x2 x3 x4 x5 x6 x7 x8 x9 x10 : Slot) : cutE [x0, x1, x2, x3, x4, x5, x6, x7, x8, x9, x10] 2 = [x0, x1, .unset, .unset, .unset, .unset, .unset, .unset, .unset, .unset, .unset] := id rfl
theorem ev_cut11_3 (x0 x1 x2 x3 x4 x5 x6 x7 x8 x9 x10 : Slot) : cutE [x0, x1, x2, x3, x4, x5, x6, x7, x8, x9, x10] 3 = [x0, x1, x2, .unset, .unset, .unset, .unset, .unset, .unset, .unset, .unset] := id rfl
theorem ev_cut11_4 (x0 x1 x2 x3 x4 x5 x6 x7 x8 x9 x10 : Slot) : cutE [x0, x1, x2, x3, x4, x5, x6, x7, x8, x9, x10] 4 = [x0, x1, x2, x3, .unset, .unset, .unset, .unset, .unset, .unset, .unset] := id rfl
theorem ev_cut11_5 (x0 x1 x2 x3 x4 x5 x6 x7 x8 x9 x10 : Slot) : cutE [x0, x1, x2, x3, x4, x5, x6, x7, x8, x9, x10] 5 = [x0, x1, x2, x3, x4, .unset, .unset, .unset, .unset, .unset, .unset] := id rfl
theorem ev_cut11_6 (x0 x1 x2 x3 x4 x5 x6 x7 x8 x9 x10 : Slot) : cutE [x0, x1, x2, x3, x4, x5, x6, x7, x8, x9, x10] 6 = [x0, x1, x2, x3, x4, x5, .unset, .unset, .unset, .unset, .unset] := id rfl
theorem ev_cut11_7 (x0 x1 x2 x3 x4 x5 x6 x7 x8 x9 x10 : Slot) : cutE [x0, x1, x2, x3, x4, x5, x6, x7, x8, x9, x10] 7 = [x0, x1, x2, x3, x4, x5, x6, .unset, .unset, .unset, .unset] := id rfl
theorem ev_cut11_8 (x0 x1 x2 x3 x4 x5 x6 x7 x8 x9 x10 : Slot) : cutE [x0, x1, x2, x3, x4, x5, x6, x7, x8, x9, x10] 8 = [x0, x1, x2, x3, x4, x5, x6, x7, .unset, .unset, .unset] := id rfl
theorem ev_cut11_9 (x0 x1 x2 x3 x4 x5 x6 x7 x8 x9 x10 : Slot) : cutE [x0, x1, x2, x3, x4, x5, x6, x7, x8, x9, x10] 9 = [x0, x1, x2, x3, x4, x5, x6, x7, x8, .unset, .unset] := id rfl
theorem ev_cut11_10 (x0 x1 x2 x3 x4 x5 x6 x7 x8 x9 x10 : Slot) : cutE [x0, x1, x2, x3, x4, x5, x6, x7, x8, x9, x10] 10 = [x0, x1, x2, x3, x4, x5, x6, x7, x8, x9, .unset] := id rfl
theorem ev_cut11_11 (x0 x1 x2 x3 x4 x5 x6 x7 x8 x9 x10 : Slot) : cutE [x0, x1, x2, x3, x4, x5, x6, x7, x8, x9, x10] 11 = [x0, x1, x2, x3, x4, x5, x6, x7, x8, x9, x10] := id rfl
theorem ev_cut12_0 (x0 x1 x2 x3 x4 x5 x6 x7 x8 x9 x10 x11 : Slot) : cutE [x0, x1, x2, x3, x4, x5, x6, x7, x8, x9, x10, x11] 0 = [.unset, .unset, .unset, .unset, .unset, .unset, .unset, .unset, .unset, .unset, .unset, .unset] := id rfl
theorem ev_cut12_1 (x0 x1 x2 x3 x4 x5 x6 x7 x8 x9 x10 x11 : Slot) : cutE [x0, x1, x2, x3, x4, x5, x6, x7, x8, x9, x10, x11] 1 = [x0, .unset, .unset, .unset, .unset, .unset, .unset, .unset, .unset, .unset, .unset, .unset] := id rfl
theorem ev_cut12_2 (x0 x1 x2 x3 x4 x5 x6 x7 x8 x9 x10 x11 : Slot) : cutE [x0, x1, x2, x3, x4, x5, x6, x7, x8, x9, x10, x11] 2 = [x0, x1, .unset, .unset, .unset, .unset, .unset, .unset, .unset, .unset, .unset, .unset] := id rfl
theorem ev_cut12_3 (x0 x1 x2 x3 x4 x5 x6 x7 x8 x9 x10 x11 : Slot) : cutE [x0, x1, x2, x3, x4, x5, x6, x7, x8, x9, x10, x11] 3 = [x0, x1, x2, .unset, .unset, .unset, .unset, .unset, .unset, .unset, .unset, .unset] := id rfl
theorem ev_cut12_4 (x0 x1 x2 x3 x4 x5 x6 x7 x8 x9 x10 x11 : Slot) : cutE [x0, x1, x2, x3, x4, x5, x6, x7, x8, x9, x10, x11] 4 = [x0, x1, x2, x3, .unset, .unset, .unset, .unset, .unset, .unset, .unset, .unset] := id rfl
theorem ev_cut12_5 (x0 x1 x2 x3 x4 x5 x6 x7 x8 x9 x10 x11 : Slot) : cutE [x0, x1, x2, x3, x4, x5, x6, x7, x8, x9, x10, x11] 5 = [x0, x1, x2, x3, x4, .unset, .unset, .unset, .unset, .unset, .unset, .unset] := id rfl
theorem ev_cut12_6 (x0 x1 x2 x3 x4 x5 x6 x7 x8 x9 x10 x11 : Slot) : cutE [x0, x1, x2, x3, x4, x5, x6, x7, x8, x9, x10, x11] 6 = [x0, x1, x2, x3, x4, x5, .unset, .unset, .unset, .unset, .unset, .unset] := id rfl
theorem ev_cut12_7 (x0 x1 x2 x3 x4 x5 x6 x7 x8 x9 x10 x11 : Slot) : cutE [x0, x1, x2, x3, x4, x5, x6, x7, x8, x9, x10, x11] 7 = [x0, x1, x2, x3, x4, x5, x6, .unset, .unset, .unset, .unset, .unset] := id rfl
theorem ev_cut12_8 (x0 x1 x2 x3 x4 x5 x6 x7 x8 x9 x10 x11 : Slot) : cutE [x0, x1, x2, x3, x4, x5, x6, x7, x8, x9, x10, x11] 8 = [x0, x1, x2, x3, x4, x5, x6, x7, .unset, .unset, .unset, .unset] := id rfl
theorem ev_cut12_9 (x0 x1 x2 x3 x4 x5 x6 x7 x8 x9 x10 x11 : Slot) : cutE [x0, x1, x2, x3, x4, x5, x6, x7, x8, x9, x10, x11] 9 = [x0, x1, x2, x3, x4, x5, x6, x7, x8, .unset, .unset, .unset] := id rfl
theorem ev_cut12_10 (x0 x1 x2 x3 x4 x5 x6 x7 x8 x9 x10 x11 : Slot) : cutE [x0, x1, x2, x3, x4, x5, x6, x7, x8, x9, x10, x11] 10 = [x0, x1, x2, x3, x4, x5, x6, x7, x8, x9, .unset, .unset] := id rfl
theorem ev_cut12_11 (x0 x1 x2 x3 x4 x5 x6 x7 x8 x9 x10 x11 : Slot) : cutE [x0, x1, x2, x3, x4, x5, x6, x7, x8, x9, x10, x11] 11 = [x0, x1, x2, x3, x4, x5, x6, x7, x8, x9, x10, .unset] := id rfl
theorem ev_cut12_12 (x0 x1 x2 x3 x4 x5 x6 x7 x8 x9 x10 x11 : Slot) : cutE [x0, x1, x2, x3, x4, x5, x6, x7, x8, x9, x10, x11] 12 = [x0, x1, x2, x3, x4, x5, x6, x7, x8, x9, x10, x11] := id rfl
theorem ev_cut13_0 (x0 x1 x2 x3 x4 x5 x6 x7 x8 x9 x10 x11 x12 : Slot) : cutE [x0, x1, x2, x3, x4, x5, x6, x7, x8, x9, x10, x11, x12] 0 = [.unset, .unset, .unset, .unset, .unset, .unset, .unset, .unset, .unset, .unset, .unset, .unset, .unset] := id rfl
theorem ev_cut13_1 (x0 x1 x2 x3 x4 x5 x6 x7 x8 x9 x10 x11 x12 : Slot) : cutE [x0, x1, x2, x3, x4, x5, x6, x7, x8, x9, x10, x11, x12] 1 = [x0, .unset, .unset, .unset, .unset, .unset, .unset, .unset, .unset, .unset, .unset, .unset, .unset] := id rfl
theorem ev_cut13_2 (x0 x1 x2 x3 x4 x5 x6 x7 x8 x9 x10 x11 x12 : Slot) : cutE [x0, x1, x2, x3, x4, x5, x6, x7, x8, x9, x10, x11, x12] 2 = [x0, x1, .unset, .unset, .unset, .unset, .unset, .unset, .unset, .unset, .unset, .unset, .unset] := id rfl
theorem ev_cut13_3 (x0 x1 x2 x3 x4 x5 x6 x7 x8 x9 x10 x11 x12 : Slot) : cutE [x0, x1, x2, x3, x4, x5, x6, x7, x8, x9, x10, x11, x12] 3 = [x0, x1, x2, .unset, .unset, .unset, .unset, .unset, .unset, .unset, .unset, .unset, .unset] := id rfl
theorem ev_cut13_4 (x0 x1 x2 x3 x4 x5 x6 x7 x8 x9 x10 x11 x12 : Slot) : cutE [x0, x1, x2, x3, x4, x5, x6, x7, x8, x9, x10, x11, x12] 4 = [x0, x1, x2, x3, .unset, .unset, .unset, .unset, .unset, .unset, .unset, .unset, .unset] := id rfl
theorem ev_cut13_5 (x0 x1 x2 x3 x4 x5 x6 x7 x8 x9 x10 x11 x12 : Slot) : cutE [x0, x1, x2, x3, x4, x5, x6, x7, x8, x9, x10, x11, x12] 5 = [x0, x1, x2, x3, x4, .unset, .unset, .unset, .unset, .unset, .unset, .unset, .unset] := id rfl
theorem ev_cut13_6 (x0 x1 x2 x3 x4 x5 x6 x7 x8 x9 x10 x11 x12 : Slot) : cutE [x0, x1, x2, x3, x4, x5, x6, x7, x8, x9, x10, x11, x12] 6 = [x0, x1, x2, x3, x4, x5, .unset, .unset, .unset, .unset, .unset, .unset, .unset] := id rfl
theorem ev_cut13_7 (x0 x1 x2 x3 x4 x5 x6 x7 x8 x9 x10 x11 x12 : Slot) : cutE [x0, x1, x2, x3, x4, x5, x6, x7, x8, x9, x10, x11, x12] 7 = [x0, x1, x2, x3, x4, x5, x6, .unset, .unset, .unset, .unset, .unset, .unset] := id rfl
theorem ev_cut13_8 (x0 x1 x2 x3 x4 x5 x6 x7 x8 x9 x10 x11 x12 : Slot) : cutE [x0, x1, x2, x3, x4, x5, x6, x7, x8, x9, x10, x11, x12] 8 = [x0, x1, x2, x3, x4, x5, x6, x7, .unset, .unset, .unset, .unset, .unset] := id rfl
theorem ev_cut13_9 (x0 x1 x2 x3 x4 x5 x6 x7 x8 x9 x10 x11 x12 : Slot) : cutE [x0, x1, x2, x3, x4, x5, x6, x7, x8, x9, x10, x11, x12] 9 = [x0, x1, x2, x3, x4, x5, x6, x7, x8, .unset, .unset, .unset, .unset] := id rfl
theorem ev_cut13_10 (x0 x1 x2 x3 x4 x5 x6 x7 x8 x9 x10 x11 x12 : Slot) : cutE [x0, x1, x2, x3, x4, x5, x6, x7, x8, x9, x10, x11, x12] 10 = [x0, x1, x2, x3, x4, x5, x6, x7, x8, x9, .unset, .unset, .unset] := id rfl
theorem ev_cut13_11 (x0 x1 x2 x3 x4 x5 x6 x7 x8 x9 x10 x11 x12 : Slot) : cutE [x0, x1, x2, x3, x4, x5, x6, x7, x8, x9, x10, x11, x12] 11 = [x0, x1, x2, x3, x4, x5, x6, x7, x8, x9, x10, .unset, .unset] := id rfl
theorem ev_cut13_12 (x0 x1 x2 x3 x4 x5 x6 x7 x8 x9 x10 x11 x12 : Slot) : cutE [x0, x1, x2, x3, x4, x5, x6, x7, x8, x9, x10, x11, x12] 12 = [x0, x1, x2, x3, x4, x5, x6, x7, x8, x9, x10, x11, .unset] := id rfl
theorem ev_cut13_13 (x0 x1 x2 x3 x4 x5 x6 x7 x8 x9 x10 x11 x12 : Slot) : cutE [x0, x1, x2, x3, x4, x5, x6, x7, x8, x9, x10, x11, x12] 13 = [x0, x1, x2, x3, x4, x5, x6, x7, x8, x9, x10, x11, x12] := id rfl
def binC {α β γ : Type} (op : α → β → Option γ) (g : Ex β) (env : List Slot) (r : α × AH) : Option (γ × AH) := (g env r.2).bind fun r2 => (op r.1 r2.1).bind fun z => some (z, r2.2)
def bin2C {α β γ : Type} (op : α → β → Option γ) (x : α) (r : β × AH) : Option (γ × AH) := (op x r.1).bind fun z => some (z, r.2)
theorem ev_bin {α β γ : Type} (op : α → β → Option γ) (x : α) (g : Ex β) (env : List Slot) (h : AH) : binC op g env (x, h) = (g env h).bind (bin2C op x) := id rfl
def unaC {α β : Type} (op : α → Option β) (r : α × AH) : Option (β × AH) := (op r.1).bind fun z => some (z, r.2)
theorem ev_addI (f g : Ex Int32) (env : List Slot) (h : AH) : addI f g env h = (f env h).bind (binC (fun x y : Int32 => some (x + y)) g env) := id rfl
theorem ev_addIv (x y : Int32) (h : AH) : bin2C (fun x y : Int32 => some (x + y)) x (y, h) = some (x + y, h) := id rfl
theorem ev_subI (f g : Ex Int32) (env : List Slot) (h : AH) : subI f g env h = (f env h).bind (binC (fun x y : Int32 => some (x - y)) g env) := id rfl
theorem ev_subIv (x y : Int32) (h : AH) : bin2C (fun x y : Int32 => some (x - y)) x (y, h) = some (x - y, h) := id rfl
theorem ev_mulI (f g : Ex Int32) (env : List Slot) (h : AH) : mulI f g env h = (f env h).bind (binC (fun x y : Int32 => some (x * y)) g env) := id rfl
theorem ev_mulIv (x y : Int32) (h : AH) : bin2C (fun x y : Int32 => some (x * y)) x (y, h) = some (x * y, h) := id rfl
theorem ev_andI (f g : Ex Int32) (env : List Slot) (h : AH) : andI f g env h = (f env h).bind (binC (fun x y : Int32 => some (x &&& y)) g env) := id rfl
theorem ev_andIv (x y : Int32) (h : AH) : bin2C (fun x y : Int32 => some (x &&& y)) x (y, h) = some (x &&& y, h) := id rfl
theorem ev_orI (f g : Ex Int32) (env : List Slot) (h : AH) : orI f g env h = (f env h).bind (binC (fun x y : Int32 => some (x ||| y)) g env) := id rfl
theorem ev_orIv (x y : Int32) (h : AH) : bin2C (fun x y : Int32 => some (x ||| y)) x (y, h) = some (x ||| y, h) := id rfl
theorem ev_xorI (f g : Ex Int32) (env : List Slot) (h : AH) : xorI f g env h = (f env h).bind (binC (fun x y : Int32 => some (x ^^^ y)) g env) := id rfl
theorem ev_xorIv (x y : Int32) (h : AH) : bin2C (fun x y : Int32 => some (x ^^^ y)) x (y, h) = some (x ^^^ y, h) := id rfl
theorem ev_shlI (f g : Ex Int32) (env : List Slot) (h : AH) : shlI f g env h = (f env h).bind (binC (fun x y : Int32 => some (x <<< (y &&& 31))) g env) := id rfl
theorem ev_shlIv (x y : Int32) (h : AH) : bin2C (fun x y : Int32 => some (x <<< (y &&& 31))) x (y, h) = some (x <<< (y &&& 31), h) := id rfl
theorem ev_shrI (f g : Ex Int32) (env : List Slot) (h : AH) : shrI f g env h = (f env h).bind (binC (fun x y : Int32 => some (x >>> (y &&& 31))) g env) := id rfl
theorem ev_shrIv (x y : Int32) (h : AH) : bin2C (fun x y : Int32 => some (x >>> (y &&& 31))) x (y, h) = some (x >>> (y &&& 31), h) := id rfl
theorem ev_ushrI (f g : Ex Int32) (env : List Slot) (h : AH) : ushrI f g env h = (f env h).bind (binC (fun x y : Int32 => some ((x.toUInt32 >>> (y.toUInt32 &&& Int32.toUInt32 31)).toInt32)) g env) := id rfl
theorem ev_ushrIv (x y : Int32) (h : AH) : bin2C (fun x y : Int32 => some ((x.toUInt32 >>> (y.toUInt32 &&& Int32.toUInt32 31)).toInt32)) x (y, h) = some ((x.toUInt32 >>> (y.toUInt32 &&& Int32.toUInt32 31)).toInt32, h) := id rfl
theorem ev_addL (f g : Ex Int64) (env : List Slot) (h : AH) : addL f g env h = (f env h).bind (binC (fun x y : Int64 => some (x + y)) g env) := id rfl
theorem ev_addLv (x y : Int64) (h : AH) : bin2C (fun x y : Int64 => some (x + y)) x (y, h) = some (x + y, h) := id rfl
theorem ev_subL (f g : Ex Int64) (env : List Slot) (h : AH) : subL f g env h = (f env h).bind (binC (fun x y : Int64 => some (x - y)) g env) := id rfl
theorem ev_subLv (x y : Int64) (h : AH) : bin2C (fun x y : Int64 => some (x - y)) x (y, h) = some (x - y, h) := id rfl
theorem ev_mulL (f g : Ex Int64) (env : List Slot) (h : AH) : mulL f g env h = (f env h).bind (binC (fun x y : Int64 => some (x * y)) g env) := id rfl
theorem ev_mulLv (x y : Int64) (h : AH) : bin2C (fun x y : Int64 => some (x * y)) x (y, h) = some (x * y, h) := id rfl
theorem ev_andL (f g : Ex Int64) (env : List Slot) (h : AH) : andL f g env h = (f env h).bind (binC (fun x y : Int64 => some (x &&& y)) g env) := id rfl
theorem ev_andLv (x y : Int64) (h : AH) : bin2C (fun x y : Int64 => some (x &&& y)) x (y, h) = some (x &&& y, h) := id rfl
theorem ev_orL (f g : Ex Int64) (env : List Slot) (h : AH) : orL f g env h = (f env h).bind (binC (fun x y : Int64 => some (x ||| y)) g env) := id rfl
theorem ev_orLv (x y : Int64) (h : AH) : bin2C (fun x y : Int64 => some (x ||| y)) x (y, h) = some (x ||| y, h) := id rfl
theorem ev_shlL (f : Ex Int64) (g : Ex Int32) (env : List Slot) (h : AH) : shlL f g env h = (f env h).bind (binC (fun (x : Int64) (y : Int32) => some (x <<< (y.toInt64 &&& 63))) g env) := id rfl
theorem ev_shlLv (x : Int64) (y : Int32) (h : AH) : bin2C (fun (x : Int64) (y : Int32) => some (x <<< (y.toInt64 &&& 63))) x (y, h) = some (x <<< (y.toInt64 &&& 63), h) := id rfl
theorem ev_divI (f g : Ex Int32) (env : List Slot) (h : AH) : divI f g env h = (f env h).bind (binC (fun x y : Int32 => if y = 0 then none else some (x / y)) g env) := id rfl
theorem ev_divIv (x y : Int32) (h : AH) : bin2C (fun x y : Int32 => if y = 0 then none else some (x / y)) x (y, h) = if y = 0 then none else some (x / y, h) := by unfold bin2C; dsimp only; split <;> rfl
theorem ev_remI (f g : Ex Int32) (env : List Slot) (h : AH) : remI f g env h = (f env h).bind (binC (fun x y : Int32 => if y = 0 then none else some (x - x / y * y)) g env) := id rfl
theorem ev_remIv (x y : Int32) (h : AH) : bin2C (fun x y : Int32 => if y = 0 then none else some (x - x / y * y)) x (y, h) = if y = 0 then none else some (x - x / y * y, h) := by unfold bin2C; dsimp only; split <;> rfl
theorem ev_divL (f g : Ex Int64) (env : List Slot) (h : AH) : divL f g env h = (f env h).bind (binC (fun x y : Int64 => if y = 0 then none else some (x / y)) g env) := id rfl
theorem ev_divLv (x y : Int64) (h : AH) : bin2C (fun x y : Int64 => if y = 0 then none else some (x / y)) x (y, h) = if y = 0 then none else some (x / y, h) := by unfold bin2C; dsimp only; split <;> rfl
theorem ev_remL (f g : Ex Int64) (env : List Slot) (h : AH) : remL f g env h = (f env h).bind (binC (fun x y : Int64 => if y = 0 then none else some (x - x / y * y)) g env) := id rfl
theorem ev_remLv (x y : Int64) (h : AH) : bin2C (fun x y : Int64 => if y = 0 then none else some (x - x / y * y)) x (y, h) = if y = 0 then none else some (x - x / y * y, h) := by unfold bin2C; dsimp only; split <;> rfl
theorem ev_eqI (f g : Ex Int32) (env : List Slot) (h : AH) : eqI f g env h = (f env h).bind (binC (fun x y : Int32 => some (decide (x = y))) g env) := id rfl
theorem ev_eqIv (x y : Int32) (h : AH) : bin2C (fun x y : Int32 => some (decide (x = y))) x (y, h) = some (decide (x = y), h) := id rfl
theorem ev_eqL (f g : Ex Int64) (env : List Slot) (h : AH) : eqL f g env h = (f env h).bind (binC (fun x y : Int64 => some (decide (x = y))) g env) := id rfl
theorem ev_eqLv (x y : Int64) (h : AH) : bin2C (fun x y : Int64 => some (decide (x = y))) x (y, h) = some (decide (x = y), h) := id rfl
theorem ev_eq0 (f : Ex Int32) (env : List Slot) (h : AH) : eq0 f env h = (f env h).bind (unaC fun x : Int32 => some (decide (x = 0))) := id rfl
theorem ev_eq0v (x : Int32) (h : AH) : unaC (fun x : Int32 => some (decide (x = 0))) (x, h) = some (decide (x = 0), h) := id rfl
theorem ev_neI (f g : Ex Int32) (env : List Slot) (h : AH) : neI f g env h = (f env h).bind (binC (fun x y : Int32 => some (decide (¬ x = y))) g env) := id rfl
theorem ev_neIv (x y : Int32) (h : AH) : bin2C (fun x y : Int32 => some (decide (¬ x = y))) x (y, h) = some (decide (¬ x = y), h) := id rfl
theorem ev_neL (f g : Ex Int64) (env : List Slot) (h : AH) : neL f g env h = (f env h).bind (binC (fun x y : Int64 => some (decide (¬ x = y))) g env) := id rfl
theorem ev_neLv (x y : Int64) (h : AH) : bin2C (fun x y : Int64 => some (decide (¬ x = y))) x (y, h) = some (decide (¬ x = y), h) := id rfl
theorem ev_ne0 (f : Ex Int32) (env : List Slot) (h : AH) : ne0 f env h = (f env h).bind (unaC fun x : Int32 => some (decide (¬ x = 0))) := id rfl
theorem ev_ne0v (x : Int32) (h : AH) : unaC (fun x : Int32 => some (decide (¬ x = 0))) (x, h) = some (decide (¬ x = 0), h) := id rfl
theorem ev_ltI (f g : Ex Int32) (env : List Slot) (h : AH) : ltI f g env h = (f env h).bind (binC (fun x y : Int32 => some (decide (x < y))) g env) := id rfl
theorem ev_ltIv (x y : Int32) (h : AH) : bin2C (fun x y : Int32 => some (decide (x < y))) x (y, h) = some (decide (x < y), h) := id rfl
theorem ev_ltL (f g : Ex Int64) (env : List Slot) (h : AH) : ltL f g env h = (f env h).bind (binC (fun x y : Int64 => some (decide (x < y))) g env) := id rfl
theorem ev_ltLv (x y : Int64) (h : AH) : bin2C (fun x y : Int64 => some (decide (x < y))) x (y, h) = some (decide (x < y), h) := id rfl
theorem ev_lt0 (f : Ex Int32) (env : List Slot) (h : AH) : lt0 f env h = (f env h).bind (unaC fun x : Int32 => some (decide (x < 0))) := id rfl
theorem ev_lt0v (x : Int32) (h : AH) : unaC (fun x : Int32 => some (decide (x < 0))) (x, h) = some (decide (x < 0), h) := id rfl
theorem ev_geI (f g : Ex Int32) (env : List Slot) (h : AH) : geI f g env h = (f env h).bind (binC (fun x y : Int32 => some (decide (y ≤ x))) g env) := id rfl
theorem ev_geIv (x y : Int32) (h : AH) : bin2C (fun x y : Int32 => some (decide (y ≤ x))) x (y, h) = some (decide (y ≤ x), h) := id rfl
theorem ev_geL (f g : Ex Int64) (env : List Slot) (h : AH) : geL f g env h = (f env h).bind (binC (fun x y : Int64 => some (decide (y ≤ x))) g env) := id rfl
theorem ev_geLv (x y : Int64) (h : AH) : bin2C (fun x y : Int64 => some (decide (y ≤ x))) x (y, h) = some (decide (y ≤ x), h) := id rfl
theorem ev_ge0 (f : Ex Int32) (env : List Slot) (h : AH) : ge0 f env h = (f env h).bind (unaC fun x : Int32 => some (decide (0 ≤ x))) := id rfl
theorem ev_ge0v (x : Int32) (h : AH) : unaC (fun x : Int32 => some (decide (0 ≤ x))) (x, h) = some (decide (0 ≤ x), h) := id rfl
theorem ev_gtI (f g : Ex Int32) (env : List Slot) (h : AH) : gtI f g env h = (f env h).bind (binC (fun x y : Int32 => some (decide (y < x))) g env) := id rfl
theorem ev_gtIv (x y : Int32) (h : AH) : bin2C (fun x y : Int32 => some (decide (y < x))) x (y, h) = some (decide (y < x), h) := id rfl
theorem ev_gtL (f g : Ex Int64) (env : List Slot) (h : AH) : gtL f g env h = (f env h).bind (binC (fun x y : Int64 => some (decide (y < x))) g env) := id rfl
theorem ev_gtLv (x y : Int64) (h : AH) : bin2C (fun x y : Int64 => some (decide (y < x))) x (y, h) = some (decide (y < x), h) := id rfl
theorem ev_gt0 (f : Ex Int32) (env : List Slot) (h : AH) : gt0 f env h = (f env h).bind (unaC fun x : Int32 => some (decide (0 < x))) := id rfl
theorem ev_gt0v (x : Int32) (h : AH) : unaC (fun x : Int32 => some (decide (0 < x))) (x, h) = some (decide (0 < x), h) := id rfl
theorem ev_leI (f g : Ex Int32) (env : List Slot) (h : AH) : leI f g env h = (f env h).bind (binC (fun x y : Int32 => some (decide (x ≤ y))) g env) := id rfl
theorem ev_leIv (x y : Int32) (h : AH) : bin2C (fun x y : Int32 => some (decide (x ≤ y))) x (y, h) = some (decide (x ≤ y), h) := id rfl
theorem ev_leL (f g : Ex Int64) (env : List Slot) (h : AH) : leL f g env h = (f env h).bind (binC (fun x y : Int64 => some (decide (x ≤ y))) g env) := id rfl
theorem ev_leLv (x y : Int64) (h : AH) : bin2C (fun x y : Int64 => some (decide (x ≤ y))) x (y, h) = some (decide (x ≤ y), h) := id rfl
theorem ev_le0 (f : Ex Int32) (env : List Slot) (h : AH) : le0 f env h = (f env h).bind (unaC fun x : Int32 => some (decide (x ≤ 0))) := id rfl
theorem ev_le0v (x : Int32) (h : AH) : unaC (fun x : Int32 => some (decide (x ≤ 0))) (x, h) = some (decide (x ≤ 0), h) := id rfl
theorem ev_i2L (f : Ex Int32) (env : List Slot) (h : AH) : i2L f env h = (f env h).bind (unaC fun x : Int32 => some x.toInt64) := id rfl
theorem ev_i2Lv (x : Int32) (h : AH) : unaC (fun x : Int32 => some x.toInt64) (x, h) = some (x.toInt64, h) := id rfl
theorem ev_l2I (f : Ex Int64) (env : List Slot) (h : AH) : l2I f env h = (f env h).bind (unaC fun x : Int64 => some x.toInt32) := id rfl
theorem ev_l2Iv (x : Int64) (h : AH) : unaC (fun x : Int64 => some x.toInt32) (x, h) = some (x.toInt32, h) := id rfl
theorem ev_nul (f : Ex (Option Nat)) (env : List Slot) (h : AH) : nulX f env h = (f env h).bind (unaC fun x : Option Nat => some x.isNone) := id rfl
theorem ev_nuls (a : Nat) (h : AH) : unaC (fun x : Option Nat => some x.isNone) (some a, h) = some (false, h) := id rfl
theorem ev_nuln (h : AH) : unaC (fun x : Option Nat => some x.isNone) (none, h) = some (true, h) := id rfl
def andC (b : Ex Bool) (env : List Slot) (r : Bool × AH) : Option (Bool × AH) := if r.1 = true then b env r.2 else some (false, r.2)
theorem ev_andX (a b : Ex Bool) (env : List Slot) (h : AH) : andX a b env h = (a env h).bind (andC b env) := id rfl
theorem ev_andXt (b : Ex Bool) (env : List Slot) (h : AH) : andC b env (true, h) = b env h := id rfl
theorem ev_andXf (b : Ex Bool) (env : List Slot) (h : AH) : andC b env (false, h) = some (false, h) := id rfl
theorem ev_andXd (b : Ex Bool) (env : List Slot) (h : AH) (p : Prop) [Decidable p] : andC b env (decide p, h) = if p then b env h else some (false, h) := by unfold andC; simp
def orC (b : Ex Bool) (env : List Slot) (r : Bool × AH) : Option (Bool × AH) := if r.1 = true then some (true, r.2) else b env r.2
theorem ev_orX (a b : Ex Bool) (env : List Slot) (h : AH) : orX a b env h = (a env h).bind (orC b env) := id rfl
theorem ev_orXt (b : Ex Bool) (env : List Slot) (h : AH) : orC b env (true, h) = some (true, h) := id rfl
theorem ev_orXf (b : Ex Bool) (env : List Slot) (h : AH) : orC b env (false, h) = b env h := id rfl
theorem ev_orXd (b : Ex Bool) (env : List Slot) (h : AH) (p : Prop) [Decidable p] : orC b env (decide p, h) = if p then some (true, h) else b env h := by unfold orC; simp
def notC (r : Bool × AH) : Option (Bool × AH) := some (!r.1, r.2)
theorem ev_notX (a : Ex Bool) (env : List Slot) (h : AH) : notX a env h = (a env h).bind notC := id rfl
theorem ev_notXv (b : Bool) (h : AH) : notC (b, h) = some (!b, h) := id rfl
theorem ev_notd (p : Prop) [Decidable p] : (!decide p) = decide (¬ p) := by simp
def iteC {α : Type} (f g : Ex α) (env : List Slot) (r : Bool × AH) : Option (α × AH) := if r.1 = true then f env r.2 else g env r.2
theorem ev_iteX {α : Type} (c : Ex Bool) (f g : Ex α) (env : List Slot) (h : AH) : iteX c f g env h = (c env h).bind (iteC f g env) := id rfl
theorem ev_iteXt {α : Type} (f g : Ex α) (env : List Slot) (h : AH) : iteC f g env (true, h) = f env h := id rfl
theorem ev_iteXf {α : Type} (f g : Ex α) (env : List Slot) (h : AH) : iteC f g env (false, h) = g env h := id rfl
theorem ev_iteXd {α : Type} (f g : Ex α) (env : List Slot) (h : AH) (p : Prop) [Decidable p] : iteC f g env (decide p, h) = if p then f env h else g env h := by unfold iteC; simp
def getIC (c k : Nat) (r : Option Nat × AH) : Option (Int32 × AH) := match r.1 with
  | some q => if hT r.2 q = (0, c) then some (hI r.2 q k, r.2) else none
  | none => none
theorem ev_getI (c k : Nat) (f : Ex (Option Nat)) (env : List Slot) (h : AH) : getI c k f env h = (f env h).bind (getIC c k) := id rfl
theorem ev_getIv (c k q : Nat) (h : AH) : getIC c k (some q, h) = if hT h q = (0, c) then some (hI h q k, h) else none := id rfl
def getLC (c k : Nat) (r : Option Nat × AH) : Option (Int64 × AH) := match r.1 with
  | some q => if hT r.2 q = (0, c) then some (hL r.2 q k, r.2) else none
  | none => none
theorem ev_getL (c k : Nat) (f : Ex (Option Nat)) (env : List Slot) (h : AH) : getL c k f env h = (f env h).bind (getLC c k) := id rfl
theorem ev_getLv (c k q : Nat) (h : AH) : getLC c k (some q, h) = if hT h q = (0, c) then some (hL h q k, h) else none := id rfl
def getRC (c k : Nat) (r : Option Nat × AH) : Option ((Option Nat) × AH) := match r.1 with
  | some q => if hT r.2 q = (0, c) then some (hP r.2 q k, r.2) else none
  | none => none
theorem ev_getR (c k : Nat) (f : Ex (Option Nat)) (env : List Slot) (h : AH) : getR c k f env h = (f env h).bind (getRC c k) := id rfl
theorem ev_getRv (c k q : Nat) (h : AH) : getRC c k (some q, h) = if hT h q = (0, c) then some (hP h q k, h) else none := id rfl
def rszC (r : Option Nat × AH) : Option (Int32 × AH) := match r.1 with
  | some q => if (hT r.2 q).1 = 1 then some (nI (hR r.2 q).length, r.2) else none
  | none => none
theorem ev_rsz (f : Ex (Option Nat)) (env : List Slot) (h : AH) : rszI f env h = (f env h).bind rszC := id rfl
theorem ev_rszv (q : Nat) (h : AH) : rszC (some q, h) = if (hT h q).1 = 1 then some (nI (hR h q).length, h) else none := id rfl
def aldIC (kd : Nat) (g : Ex Int32) (env : List Slot) (r : Option Nat × AH) : Option (Int32 × AH) := (g env r.2).bind fun r2 => match r.1 with
  | some q => if (hT r2.2 q).1 = kd ∧ ¬ r2.1 < 0 ∧ r2.1.toNatClampNeg < (hT r2.2 q).2 then some (hI r2.2 q r2.1.toNatClampNeg, r2.2) else none
  | none => none
def aldID (kd : Nat) (q : Nat) (r : Int32 × AH) : Option (Int32 × AH) := if (hT r.2 q).1 = kd ∧ ¬ r.1 < 0 ∧ r.1.toNatClampNeg < (hT r.2 q).2 then some (hI r.2 q r.1.toNatClampNeg, r.2) else none
theorem ev_aldI (kd : Nat) (f : Ex (Option Nat)) (g : Ex Int32) (env : List Slot) (h : AH) : aldI kd f g env h = (f env h).bind (aldIC kd g env) := id rfl
theorem ev_aldIq (kd : Nat) (q : Nat) (g : Ex Int32) (env : List Slot) (h : AH) : aldIC kd g env (some q, h) = (g env h).bind (aldID kd q) := id rfl
theorem ev_aldIv (kd : Nat) (q : Nat) (i : Int32) (h : AH) : aldID kd q (i, h) = if (hT h q).1 = kd ∧ ¬ i < 0 ∧ i.toNatClampNeg < (hT h q).2 then some (hI h q i.toNatClampNeg, h) else none := id rfl
def aldLC (g : Ex Int32) (env : List Slot) (r : Option Nat × AH) : Option (Int64 × AH) := (g env r.2).bind fun r2 => match r.1 with
  | some q => if (hT r2.2 q).1 = 3 ∧ ¬ r2.1 < 0 ∧ r2.1.toNatClampNeg < (hT r2.2 q).2 then some (hL r2.2 q r2.1.toNatClampNeg, r2.2) else none
  | none => none
def aldLD (q : Nat) (r : Int32 × AH) : Option (Int64 × AH) := if (hT r.2 q).1 = 3 ∧ ¬ r.1 < 0 ∧ r.1.toNatClampNeg < (hT r.2 q).2 then some (hL r.2 q r.1.toNatClampNeg, r.2) else none
theorem ev_aldL (f : Ex (Option Nat)) (g : Ex Int32) (env : List Slot) (h : AH) : aldL f g env h = (f env h).bind (aldLC g env) := id rfl
theorem ev_aldLq (q : Nat) (g : Ex Int32) (env : List Slot) (h : AH) : aldLC g env (some q, h) = (g env h).bind (aldLD q) := id rfl
theorem ev_aldLv (q : Nat) (i : Int32) (h : AH) : aldLD q (i, h) = if (hT h q).1 = 3 ∧ ¬ i < 0 ∧ i.toNatClampNeg < (hT h q).2 then some (hL h q i.toNatClampNeg, h) else none := id rfl
def aldRC (g : Ex Int32) (env : List Slot) (r : Option Nat × AH) : Option ((Option Nat) × AH) := (g env r.2).bind fun r2 => match r.1 with
  | some q => if (hT r2.2 q).1 = 5 ∧ ¬ r2.1 < 0 ∧ r2.1.toNatClampNeg < (hT r2.2 q).2 then some (hP r2.2 q r2.1.toNatClampNeg, r2.2) else none
  | none => none
def aldRD (q : Nat) (r : Int32 × AH) : Option ((Option Nat) × AH) := if (hT r.2 q).1 = 5 ∧ ¬ r.1 < 0 ∧ r.1.toNatClampNeg < (hT r.2 q).2 then some (hP r.2 q r.1.toNatClampNeg, r.2) else none
theorem ev_aldR (f : Ex (Option Nat)) (g : Ex Int32) (env : List Slot) (h : AH) : aldR f g env h = (f env h).bind (aldRC g env) := id rfl
theorem ev_aldRq (q : Nat) (g : Ex Int32) (env : List Slot) (h : AH) : aldRC g env (some q, h) = (g env h).bind (aldRD q) := id rfl
theorem ev_aldRv (q : Nat) (i : Int32) (h : AH) : aldRD q (i, h) = if (hT h q).1 = 5 ∧ ¬ i < 0 ∧ i.toNatClampNeg < (hT h q).2 then some (hP h q i.toNatClampNeg, h) else none := id rfl
def alnC (r : Option Nat × AH) : Option (Int32 × AH) := alnI (fun _ _ => some r) [] r.2
theorem ev_aln (f : Ex (Option Nat)) (env : List Slot) (h : AH) : alnI f env h = (f env h).bind alnC := id rfl
def putIC (c k : Nat) (g : Ex Int32) (env : List Slot) (r : Option Nat × AH) : Option ((Nat ⊕ Option Value) × List Slot × AH) := putI c k (fun _ _ => some r) g env r.2
def putID (c k q : Nat) (env : List Slot) (r : Int32 × AH) : Option ((Nat ⊕ Option Value) × List Slot × AH) := if hT r.2 q = (0, c) then some (.inl 0, env, sI r.2 q k r.1) else none
theorem ev_putI (c k : Nat) (f : Ex (Option Nat)) (g : Ex Int32) (env : List Slot) (h : AH) : putI c k f g env h = (f env h).bind (putIC c k g env) := id rfl
theorem ev_putIq (c k q : Nat) (g : Ex Int32) (env : List Slot) (h : AH) : putIC c k g env (some q, h) = (g env h).bind (putID c k q env) := id rfl
theorem ev_putIv (c k q : Nat) (x : Int32) (env : List Slot) (h : AH) : putID c k q env (x, h) = if hT h q = (0, c) then some (.inl 0, env, sI h q k x) else none := id rfl
def putZC (c k : Nat) (g : Ex Int32) (env : List Slot) (r : Option Nat × AH) : Option ((Nat ⊕ Option Value) × List Slot × AH) := putZ c k (fun _ _ => some r) g env r.2
def putZD (c k q : Nat) (env : List Slot) (r : Int32 × AH) : Option ((Nat ⊕ Option Value) × List Slot × AH) := if hT r.2 q = (0, c) ∧ (r.1 = 0 ∨ r.1 = 1) then some (.inl 0, env, sI r.2 q k r.1) else none
theorem ev_putZ (c k : Nat) (f : Ex (Option Nat)) (g : Ex Int32) (env : List Slot) (h : AH) : putZ c k f g env h = (f env h).bind (putZC c k g env) := id rfl
theorem ev_putZq (c k q : Nat) (g : Ex Int32) (env : List Slot) (h : AH) : putZC c k g env (some q, h) = (g env h).bind (putZD c k q env) := id rfl
theorem ev_putZv (c k q : Nat) (x : Int32) (env : List Slot) (h : AH) : putZD c k q env (x, h) = if hT h q = (0, c) ∧ (x = 0 ∨ x = 1) then some (.inl 0, env, sI h q k x) else none := id rfl
def putLC (c k : Nat) (g : Ex Int64) (env : List Slot) (r : Option Nat × AH) : Option ((Nat ⊕ Option Value) × List Slot × AH) := putL c k (fun _ _ => some r) g env r.2
def putLD (c k q : Nat) (env : List Slot) (r : Int64 × AH) : Option ((Nat ⊕ Option Value) × List Slot × AH) := if hT r.2 q = (0, c) then some (.inl 0, env, sL r.2 q k r.1) else none
theorem ev_putL (c k : Nat) (f : Ex (Option Nat)) (g : Ex Int64) (env : List Slot) (h : AH) : putL c k f g env h = (f env h).bind (putLC c k g env) := id rfl
theorem ev_putLq (c k q : Nat) (g : Ex Int64) (env : List Slot) (h : AH) : putLC c k g env (some q, h) = (g env h).bind (putLD c k q env) := id rfl
theorem ev_putLv (c k q : Nat) (x : Int64) (env : List Slot) (h : AH) : putLD c k q env (x, h) = if hT h q = (0, c) then some (.inl 0, env, sL h q k x) else none := id rfl
def putRC (c k : Nat) (g : Ex (Option Nat)) (env : List Slot) (r : Option Nat × AH) : Option ((Nat ⊕ Option Value) × List Slot × AH) := putR c k (fun _ _ => some r) g env r.2
def putRD (c k q : Nat) (env : List Slot) (r : (Option Nat) × AH) : Option ((Nat ⊕ Option Value) × List Slot × AH) := if hT r.2 q = (0, c) then some (.inl 0, env, sP r.2 q k r.1) else none
theorem ev_putR (c k : Nat) (f : Ex (Option Nat)) (g : Ex (Option Nat)) (env : List Slot) (h : AH) : putR c k f g env h = (f env h).bind (putRC c k g env) := id rfl
theorem ev_putRq (c k q : Nat) (g : Ex (Option Nat)) (env : List Slot) (h : AH) : putRC c k g env (some q, h) = (g env h).bind (putRD c k q env) := id rfl
theorem ev_putRv (c k q : Nat) (x : (Option Nat)) (env : List Slot) (h : AH) : putRD c k q env (x, h) = if hT h q = (0, c) then some (.inl 0, env, sP h q k x) else none := id rfl
def astIC (g : Ex Int32) (u : Ex Int32) (env : List Slot) (r : Option Nat × AH) : Option ((Nat ⊕ Option Value) × List Slot × AH) := astI (fun _ _ => some r) g u env r.2
def astID (q : Nat) (u : Ex Int32) (env : List Slot) (r : Int32 × AH) : Option ((Nat ⊕ Option Value) × List Slot × AH) := astI (fun _ h => some (some q, h)) (fun _ _ => some r) u env r.2
def astIE (q : Nat) (i : Int32) (env : List Slot) (r : Int32 × AH) : Option ((Nat ⊕ Option Value) × List Slot × AH) := astI (fun _ h => some (some q, h)) (fun _ h => some (i, h)) (fun _ _ => some r) env r.2
theorem ev_astI (f : Ex (Option Nat)) (g : Ex Int32) (u : Ex Int32) (env : List Slot) (h : AH) : astI f g u env h = (f env h).bind (astIC g u env) := id rfl
theorem ev_astIq (q : Nat) (g : Ex Int32) (u : Ex Int32) (env : List Slot) (h : AH) : astIC g u env (some q, h) = (g env h).bind (astID q u env) := id rfl
theorem ev_astIi (q : Nat) (i : Int32) (u : Ex Int32) (env : List Slot) (h : AH) : astID q u env (i, h) = (u env h).bind (astIE q i env) := id rfl
theorem ev_astIv (q : Nat) (i : Int32) (x : Int32) (env : List Slot) (h : AH) : astIE q i env (x, h) = if (hT h q).1 = 2 ∧ ¬ i < 0 ∧ i.toNatClampNeg < (hT h q).2 then some (.inl 0, env, sI h q i.toNatClampNeg x) else none := id rfl
def astZC (g : Ex Int32) (u : Ex Int32) (env : List Slot) (r : Option Nat × AH) : Option ((Nat ⊕ Option Value) × List Slot × AH) := astZ (fun _ _ => some r) g u env r.2
def astZD (q : Nat) (u : Ex Int32) (env : List Slot) (r : Int32 × AH) : Option ((Nat ⊕ Option Value) × List Slot × AH) := astZ (fun _ h => some (some q, h)) (fun _ _ => some r) u env r.2
def astZE (q : Nat) (i : Int32) (env : List Slot) (r : Int32 × AH) : Option ((Nat ⊕ Option Value) × List Slot × AH) := astZ (fun _ h => some (some q, h)) (fun _ h => some (i, h)) (fun _ _ => some r) env r.2
theorem ev_astZ (f : Ex (Option Nat)) (g : Ex Int32) (u : Ex Int32) (env : List Slot) (h : AH) : astZ f g u env h = (f env h).bind (astZC g u env) := id rfl
theorem ev_astZq (q : Nat) (g : Ex Int32) (u : Ex Int32) (env : List Slot) (h : AH) : astZC g u env (some q, h) = (g env h).bind (astZD q u env) := id rfl
theorem ev_astZi (q : Nat) (i : Int32) (u : Ex Int32) (env : List Slot) (h : AH) : astZD q u env (i, h) = (u env h).bind (astZE q i env) := id rfl
theorem ev_astZv (q : Nat) (i : Int32) (x : Int32) (env : List Slot) (h : AH) : astZE q i env (x, h) = if (hT h q).1 = 4 ∧ ¬ i < 0 ∧ i.toNatClampNeg < (hT h q).2 ∧ (x = 0 ∨ x = 1) then some (.inl 0, env, sI h q i.toNatClampNeg x) else none := id rfl
def astLC (g : Ex Int32) (u : Ex Int64) (env : List Slot) (r : Option Nat × AH) : Option ((Nat ⊕ Option Value) × List Slot × AH) := astL (fun _ _ => some r) g u env r.2
def astLD (q : Nat) (u : Ex Int64) (env : List Slot) (r : Int32 × AH) : Option ((Nat ⊕ Option Value) × List Slot × AH) := astL (fun _ h => some (some q, h)) (fun _ _ => some r) u env r.2
def astLE (q : Nat) (i : Int32) (env : List Slot) (r : Int64 × AH) : Option ((Nat ⊕ Option Value) × List Slot × AH) := astL (fun _ h => some (some q, h)) (fun _ h => some (i, h)) (fun _ _ => some r) env r.2
theorem ev_astL (f : Ex (Option Nat)) (g : Ex Int32) (u : Ex Int64) (env : List Slot) (h : AH) : astL f g u env h = (f env h).bind (astLC g u env) := id rfl
theorem ev_astLq (q : Nat) (g : Ex Int32) (u : Ex Int64) (env : List Slot) (h : AH) : astLC g u env (some q, h) = (g env h).bind (astLD q u env) := id rfl
theorem ev_astLi (q : Nat) (i : Int32) (u : Ex Int64) (env : List Slot) (h : AH) : astLD q u env (i, h) = (u env h).bind (astLE q i env) := id rfl
theorem ev_astLv (q : Nat) (i : Int32) (x : Int64) (env : List Slot) (h : AH) : astLE q i env (x, h) = if (hT h q).1 = 3 ∧ ¬ i < 0 ∧ i.toNatClampNeg < (hT h q).2 then some (.inl 0, env, sL h q i.toNatClampNeg x) else none := id rfl
def astRC (g : Ex Int32) (u : Ex (Option Nat)) (env : List Slot) (r : Option Nat × AH) : Option ((Nat ⊕ Option Value) × List Slot × AH) := astR (fun _ _ => some r) g u env r.2
theorem ev_astR (f : Ex (Option Nat)) (g : Ex Int32) (u : Ex (Option Nat)) (env : List Slot) (h : AH) : astR f g u env h = (f env h).bind (astRC g u env) := id rfl
def updC (c k : Nat) (op : Int32 → Int32 → Int32) (g : Ex Int32) (env : List Slot) (r : Option Nat × AH) : Option ((Nat ⊕ Option Value) × List Slot × AH) := updI c k op (fun _ _ => some r) g env r.2
def updD (c k q : Nat) (op : Int32 → Int32 → Int32) (x : Int32) (env : List Slot) (r : Int32 × AH) : Option ((Nat ⊕ Option Value) × List Slot × AH) := if hT r.2 q = (0, c) then some (.inl 0, env, sI r.2 q k (op x r.1)) else none
theorem ev_upd (c k : Nat) (op : Int32 → Int32 → Int32) (f : Ex (Option Nat)) (g : Ex Int32) (env : List Slot) (h : AH) : updI c k op f g env h = (f env h).bind (updC c k op g env) := id rfl
theorem ev_updq (c k q : Nat) (op : Int32 → Int32 → Int32) (g : Ex Int32) (env : List Slot) (h : AH) : updC c k op g env (some q, h) = if hT h q = (0, c) then (g env h).bind (updD c k q op (hI h q k) env) else none := id rfl
theorem ev_updv (c k q : Nat) (op : Int32 → Int32 → Int32) (x y : Int32) (env : List Slot) (h : AH) : updD c k q op x env (y, h) = if hT h q = (0, c) then some (.inl 0, env, sI h q k (op x y)) else none := id rfl
def inaC (g : Ex Int32) (n : Int32) (env : List Slot) (r : Option Nat × AH) : Option ((Nat ⊕ Option Value) × List Slot × AH) := incA (fun _ _ => some r) g n env r.2
def inaD (q : Nat) (n : Int32) (env : List Slot) (r : Int32 × AH) : Option ((Nat ⊕ Option Value) × List Slot × AH) := if (hT r.2 q).1 = 2 ∧ ¬ r.1 < 0 ∧ r.1.toNatClampNeg < (hT r.2 q).2 then some (.inl 0, env, sI r.2 q r.1.toNatClampNeg (hI r.2 q r.1.toNatClampNeg + n)) else none
theorem ev_ina (f : Ex (Option Nat)) (g : Ex Int32) (n : Int32) (env : List Slot) (h : AH) : incA f g n env h = (f env h).bind (inaC g n env) := id rfl
theorem ev_inaq (q : Nat) (g : Ex Int32) (n : Int32) (env : List Slot) (h : AH) : inaC g n env (some q, h) = (g env h).bind (inaD q n env) := id rfl
theorem ev_inav (q : Nat) (i n : Int32) (env : List Slot) (h : AH) : inaD q n env (i, h) = if (hT h q).1 = 2 ∧ ¬ i < 0 ∧ i.toNatClampNeg < (hT h q).2 then some (.inl 0, env, sI h q i.toNatClampNeg (hI h q i.toNatClampNeg + n)) else none := id rfl
def rzsC (g : Ex Int32) (env : List Slot) (r : Option Nat × AH) : Option ((Nat ⊕ Option Value) × List Slot × AH) := rszS (fun _ _ => some r) g env r.2
def rzsD (q : Nat) (env : List Slot) (r : Int32 × AH) : Option ((Nat ⊕ Option Value) × List Slot × AH) := if (hT r.2 q).1 = 1 ∧ ¬ r.1 < 0 ∧ r.1.toNatClampNeg ≤ (hR r.2 q).length then some (.inl 0, env, sR r.2 q ((hR r.2 q).take r.1.toNatClampNeg)) else none
theorem ev_rzs (f : Ex (Option Nat)) (g : Ex Int32) (env : List Slot) (h : AH) : rszS f g env h = (f env h).bind (rzsC g env) := id rfl
theorem ev_rzsq (q : Nat) (g : Ex Int32) (env : List Slot) (h : AH) : rzsC g env (some q, h) = (g env h).bind (rzsD q env) := id rfl
theorem ev_rzsv (q : Nat) (i : Int32) (env : List Slot) (h : AH) : rzsD q env (i, h) = if (hT h q).1 = 1 ∧ ¬ i < 0 ∧ i.toNatClampNeg ≤ (hR h q).length then some (.inl 0, env, sR h q ((hR h q).take i.toNatClampNeg)) else none := id rfl
def swC (sel : Int32 → St) (env : List Slot) (r : Int32 × AH) : Option ((Nat ⊕ Option Value) × List Slot × AH) := (sel r.1 env r.2).bind fun r2 => some (if r2.1 = .inl 1 then .inl 0 else r2.1, r2.2)
def swD (r : (Nat ⊕ Option Value) × List Slot × AH) : Option ((Nat ⊕ Option Value) × List Slot × AH) := some (if r.1 = .inl 1 then .inl 0 else r.1, r.2)
theorem ev_sw (f : Ex Int32) (sel : Int32 → St) (env : List Slot) (h : AH) : swS f sel env h = (f env h).bind (swC sel env) := id rfl
theorem ev_swx (sel : Int32 → St) (x : Int32) (env : List Slot) (h : AH) : swC sel env (x, h) = (sel x env h).bind swD := id rfl
theorem ev_swr (v : Option Value) (env : List Slot) (h : AH) : swD (.inr v, env, h) = some (.inr v, env, h) := id rfl
theorem ev_agN (env : List Slot) (h : AH) : agN env h = some ([], h) := id rfl
def agC1 {α : Type} (inj : α → Value) (r : Args) (env : List Slot) (x : α × AH) : Option (List Value × AH) := (r env x.2).bind fun y => some (inj x.1 :: y.1, y.2)
def agC2 (v : Value) (y : List Value × AH) : Option (List Value × AH) := some (v :: y.1, y.2)
theorem ev_agC {α : Type} (inj : α → Value) (f : Ex α) (r : Args) (env : List Slot) (h : AH) : agC inj f r env h = (f env h).bind (agC1 inj r env) := id rfl
theorem ev_agi (r : Args) (x : Int32) (env : List Slot) (h : AH) : agC1 Value.int r env (x, h) = (r env h).bind (agC2 (.int x)) := id rfl
theorem ev_agl (r : Args) (x : Int64) (env : List Slot) (h : AH) : agC1 Value.long r env (x, h) = (r env h).bind (agC2 (.long x)) := id rfl
theorem ev_agr (r : Args) (a : Nat) (env : List Slot) (h : AH) : agC1 va_rf r env (some a, h) = (r env h).bind (agC2 (.ref a)) := id rfl
theorem ev_ag2 (v : Value) (l : List Value) (h : AH) : agC2 v (l, h) = some (v :: l, h) := id rfl
def calC {α : Type} (dec : Option Value → Option α) (chk : List Value → AH → Bool) (m : MS) (r : List Value × AH) : Option (α × AH) := if chk r.1 r.2 = true then (m r.1 r.2).bind fun r2 => (dec r2.1).bind fun x => some (x, r2.2) else none
def calD {α : Type} (dec : Option Value → Option α) (r : Option Value × AH) : Option (α × AH) := (dec r.1).bind fun x => some (x, r.2)
theorem ev_calX {α : Type} (dec : Option Value → Option α) (chk : List Value → AH → Bool) (m : MS) (as : Args) (env : List Slot) (h : AH) : calX dec chk m as env h = (as env h).bind (calC dec chk m) := id rfl
theorem ev_calv {α : Type} (dec : Option Value → Option α) (chk : List Value → AH → Bool) (m : MS) (l : List Value) (h : AH) : calC dec chk m (l, h) = if chk l h = true then (m l h).bind (calD dec) else none := id rfl
theorem ev_decI (x : Int32) (h : AH) : calD decI (some (.int x), h) = some (x, h) := id rfl
theorem ev_decL (x : Int64) (h : AH) : calD decL (some (.long x), h) = some (x, h) := id rfl
theorem ev_decR (a : Nat) (h : AH) : calD decR (some (.ref a), h) = some (some a, h) := id rfl
def clsC (chk : List Value → AH → Bool) (m : MS) (env : List Slot) (r : List Value × AH) : Option ((Nat ⊕ Option Value) × List Slot × AH) := calS chk m (fun _ _ => some r) env r.2
def clsD (env : List Slot) (r : Option Value × AH) : Option ((Nat ⊕ Option Value) × List Slot × AH) := match r.1 with
  | none => some (.inl 0, env, r.2)
  | some _ => none
theorem ev_calS (chk : List Value → AH → Bool) (m : MS) (as : Args) (env : List Slot) (h : AH) : calS chk m as env h = (as env h).bind (clsC chk m env) := id rfl
theorem ev_clsv (chk : List Value → AH → Bool) (m : MS) (l : List Value) (env : List Slot) (h : AH) : clsC chk m env (l, h) = if chk l h = true then (m l h).bind (clsD env) else none := id rfl
theorem ev_clsd (env : List Slot) (h : AH) : clsD env (none, h) = some (.inl 0, env, h) := id rfl
theorem ev_ck0 (c q : Nat) (h : AH) : ckV c 0 (.ref q :: []) h = (decide (hT h q = (0, c)) || (decide (c = 5) && decide ((hT h q).1 = 1))) := by simp [ckV, rcB]
theorem ev_ck1 (c q : Nat) (v1 : Value) (h : AH) : ckV c 1 (.ref q :: [v1]) h = (decide (hT h q = (0, c)) || (decide (c = 5) && decide ((hT h q).1 = 1))) := by simp [ckV, rcB]
theorem ev_cs1 (v1 : Value) (h : AH) : ckS 1 [v1] h = true := by simp [ckS]
theorem ev_ck2 (c q : Nat) (v1 v2 : Value) (h : AH) : ckV c 2 (.ref q :: [v1, v2]) h = (decide (hT h q = (0, c)) || (decide (c = 5) && decide ((hT h q).1 = 1))) := by simp [ckV, rcB]
theorem ev_cs2 (v1 v2 : Value) (h : AH) : ckS 2 [v1, v2] h = true := by simp [ckS]
theorem ev_ck3 (c q : Nat) (v1 v2 v3 : Value) (h : AH) : ckV c 3 (.ref q :: [v1, v2, v3]) h = (decide (hT h q = (0, c)) || (decide (c = 5) && decide ((hT h q).1 = 1))) := by simp [ckV, rcB]
theorem ev_cs3 (v1 v2 v3 : Value) (h : AH) : ckS 3 [v1, v2, v3] h = true := by simp [ckS]
theorem ev_ck4 (c q : Nat) (v1 v2 v3 v4 : Value) (h : AH) : ckV c 4 (.ref q :: [v1, v2, v3, v4]) h = (decide (hT h q = (0, c)) || (decide (c = 5) && decide ((hT h q).1 = 1))) := by simp [ckV, rcB]
theorem ev_cs4 (v1 v2 v3 v4 : Value) (h : AH) : ckS 4 [v1, v2, v3, v4] h = true := by simp [ckS]
theorem ev_ck5 (c q : Nat) (v1 v2 v3 v4 v5 : Value) (h : AH) : ckV c 5 (.ref q :: [v1, v2, v3, v4, v5]) h = (decide (hT h q = (0, c)) || (decide (c = 5) && decide ((hT h q).1 = 1))) := by simp [ckV, rcB]
theorem ev_cs5 (v1 v2 v3 v4 v5 : Value) (h : AH) : ckS 5 [v1, v2, v3, v4, v5] h = true := by simp [ckS]
theorem ev_finV (env : List Slot) (h : AH) : finM none (.inr (none), env, h) = some (none, h) := id rfl
theorem ev_finI (x : Int32) (env : List Slot) (h : AH) : finM (some .int) (.inr (some (.int x)), env, h) = some (some (.int x), h) := id rfl
theorem ev_finL (x : Int64) (env : List Slot) (h : AH) : finM (some .long) (.inr (some (.long x)), env, h) = some (some (.long x), h) := id rfl
theorem ev_finR (n : String) (x : Nat) (env : List Slot) (h : AH) : finM (some (.object n)) (.inr (some (.ref x)), env, h) = some (some (.ref x), h) := id rfl
theorem ev_fin1 (env : List Slot) (h : AH) : finM (some .boolean) (.inr (some (.int (iI 1))), env, h) = some (some (.int (iI 1)), h) := id rfl
theorem ev_fin0 (env : List Slot) (h : AH) : finM (some .boolean) (.inr (some (.int (iI 0))), env, h) = some (some (.int (iI 0)), h) := id rfl
theorem ev_finZ (x : Int32) (hx : x = 0 ∨ x = 1) (env : List Slot) (h : AH) : finM (some .boolean) (.inr (some (.int x)), env, h) = some (some (.int x), h) := by rcases hx with e | e <;> rw [e] <;> rfl
def newC (c a : Nat) (r : Option Value × AH) : Option (Option Nat × AH) := match r.1 with
  | none => some (some a, r.2)
  | some _ => none
theorem ev_newO (c : Nat) (m : MS) (env : List Slot) (h : AH) : newO c m env h = (m [.ref (hN h)] (hNew h (0, c))).bind (newC c (hN h)) := id rfl
theorem ev_newv (c a : Nat) (h : AH) : newC c a (none, h) = some (some a, h) := id rfl
theorem ev_newR (l : Nat) (env : List Slot) (h : AH) : newR l env h = some (some (hN h), hNew h (1, l)) := id rfl
def newaC (kd : Nat) (r : Int32 × AH) : Option (Option Nat × AH) := if ¬ r.1 < 0 ∧ r.1.toNatClampNeg ≤ 65536 then some (some (hN r.2), hNew r.2 (kd, r.1.toNatClampNeg)) else none
theorem ev_newA (kd : Nat) (f : Ex Int32) (env : List Slot) (h : AH) : newA kd f env h = (f env h).bind (newaC kd) := id rfl
theorem ev_newAv (kd : Nat) (n : Int32) (h : AH) : newaC kd (n, h) = if ¬ n < 0 ∧ n.toNatClampNeg ≤ 65536 then some (some (hN h), hNew h (kd, n.toNatClampNeg)) else none := id rfl
def oiC (env : List Slot) (r : Option Nat × AH) : Option ((Nat ⊕ Option Value) × List Slot × AH) := match r.1 with
  | some _ => some (.inl 0, env, r.2)
  | none => none
theorem ev_oi (f : Ex (Option Nat)) (env : List Slot) (h : AH) : oiS f env h = (f env h).bind (oiC env) := id rfl
theorem ev_oiv (a : Nat) (env : List Slot) (h : AH) : oiC env (some a, h) = some (.inl 0, env, h) := id rfl
