-- ===== the model's reader, as a pure machine =====
def rk (o : Nat) : Nat := if o = 10 then 1 else if o = 11 then 2 else if o = 12 then 3 else if o = 13 then 4 else if o = 14 then 4 else if o = 15 then 5 else if o = 16 then 5 else if o = 17 then 6 else if o = 18 then 7 else 0
def fb (r o : Nat) : Bool := decide (r ≤ rk o)
/-- what is done, and what still waits, when all of rank r or more is done -/
def ft (r : Nat) (W : List Nat) : List Nat := W.takeWhile (fb r)
def fl (r : Nat) (W : List Nat) : List Nat := W.dropWhile (fb r)
def nn (o : Nat) : Bool := decide (o = 12) || decide (o = 18)
def fc (W : List Nat) : Nat := W.countP nn
def cUp (c : Nat → Bool) (i : Nat) (b : Bool) : Nat → Bool := fun j => if j = i then b else c j
theorem cUp_s {c : Nat → Bool} {i : Nat} {b : Bool} : cUp c i b i = b := if_pos rfl
theorem cUp_n {c : Nat → Bool} {i j : Nat} {b : Bool} (h : j ≠ i) : cUp c i b j = c j := if_neg h
def opc (k : Int32) : Option Nat := if k = 43 then some 15 else if k = 45 then some 16 else if k = 42 then some 17 else if k = 60 then some 13 else if k = 61 then some 14 else if k = 8 then some 11 else if k = 7 then some 10 else none
def cde (ts : List TK) : Int32 := if hk ts = 2 then -1 - hvl ts else hvl ts
def cN (o : Nat) (b : Bool) : Bool := decide (rk o = 4) || (decide (4 < rk o) && b)
def runM (n : Nat) (wants mN : Bool) (W : List Nat) (O : List Int32) (op dp : Nat) (c : Nat → Bool) (ts : List TK) : Option (List Int32) × List TK := match n with
  | 0 => (none, ts)
  | n + 1 =>
    if wants = true then
      if hk ts = 2 ∨ hk ts = 3 then runM n false mN (fl 7 W) (O ++ [cde ts] ++ (ft 7 W).map nI) (op - fc (ft 7 W)) dp c ts.tail
      else if (hk ts = 40 ∨ hk ts = 45 ∨ (mN = true ∧ hk ts = 9)) ∧ ¬ op = 5 then
        (if hk ts = 40 then runM n true true (30 :: W) O (op + 1) (dp + 1) (cUp c (dp + 1) false) ts.tail
        else runM n true (decide (¬ hk ts = 45)) ((if hk ts = 9 then 12 else 18) :: W) O (op + 1) dp c ts.tail)
      else (none, ts)
    else if hk ts = 59 ∧ dp = 0 then (some (O ++ (ft 1 W).map nI), ts)
    else match opc (hk ts) with
      | some o => if rk o = 4 ∧ c dp = true then (none, ts) else runM n true (decide (o = 10 ∨ o = 11)) (o :: fl (rk o) W) (O ++ (ft (rk o) W).map nI) (op - fc (ft (rk o) W)) dp (cUp c dp (cN o (c dp))) ts.tail
      | none => if hk ts = 41 ∧ ¬ dp = 0 then runM n false mN (fl 7 (fl 1 W).tail) (O ++ (ft 1 W).map nI ++ (ft 7 (fl 1 W).tail).map nI) (op - fc (ft 1 W) - 1 - fc (ft 7 (fl 1 W).tail)) (dp - 1) c ts.tail else (none, ts)
section
variable {n op dp : Nat} {mN : Bool} {W : List Nat} {O : List Int32} {c : Nat → Bool} {ts : List TK}
theorem runM_v (h : hk ts = 2 ∨ hk ts = 3) : runM (n + 1) true mN W O op dp c ts = runM n false mN (fl 7 W) (O ++ [cde ts] ++ (ft 7 W).map nI) (op - fc (ft 7 W)) dp c ts.tail := by
  rw [runM, if_pos rfl, if_pos h]
theorem runM_p (h : hk ts = 40) (h5 : ¬ op = 5) : runM (n + 1) true mN W O op dp c ts = runM n true true (30 :: W) O (op + 1) (dp + 1) (cUp c (dp + 1) false) ts.tail := by
  rw [runM, if_pos rfl, if_neg (by rw [h]; decide), if_pos ⟨Or.inl h, h5⟩, if_pos h]
theorem runM_m (h : hk ts = 45) (h5 : ¬ op = 5) : runM (n + 1) true mN W O op dp c ts = runM n true false (18 :: W) O (op + 1) dp c ts.tail := by
  rw [runM, if_pos rfl, if_neg (by rw [h]; decide), if_pos ⟨Or.inr (Or.inl h), h5⟩, if_neg (by rw [h]; decide), if_neg (show ¬ hk ts = 9 by rw [h]; decide), h]
  rfl
theorem runM_n (h : hk ts = 9) (h5 : ¬ op = 5) : runM (n + 1) true true W O op dp c ts = runM n true true (12 :: W) O (op + 1) dp c ts.tail := by
  rw [runM, if_pos rfl, if_neg (by rw [h]; decide), if_pos ⟨Or.inr (Or.inr ⟨rfl, h⟩), h5⟩, if_neg (by rw [h]; decide), if_pos h, h]
  rfl
theorem runM_f (h2 : ¬ hk ts = 2) (h3 : ¬ hk ts = 3) (h : (¬ hk ts = 40 ∧ ¬ hk ts = 45 ∧ ¬ (mN = true ∧ hk ts = 9)) ∨ op = 5) : runM n true mN W O op dp c ts = (none, ts) := by
  cases n with
  | zero => rfl
  | succ n =>
    rw [runM, if_pos rfl, if_neg (fun q => q.elim h2 h3), if_neg]
    rintro ⟨a, b⟩
    rcases h with ⟨x, y, z⟩ | h
    · rcases a with a | a | a
      · exact x a
      · exact y a
      · exact z a
    · exact b h
theorem runM_e (h : hk ts = 59) (h0 : dp = 0) : runM (n + 1) false mN W O op dp c ts = (some (O ++ (ft 1 W).map nI), ts) := by
  rw [runM, if_neg (by decide), if_pos ⟨h, h0⟩]
theorem runM_o {o : Nat} (h : opc (hk ts) = some o) (h4 : ¬ (rk o = 4 ∧ c dp = true)) : runM (n + 1) false mN W O op dp c ts = runM n true (decide (o = 10 ∨ o = 11)) (o :: fl (rk o) W) (O ++ (ft (rk o) W).map nI) (op - fc (ft (rk o) W)) dp (cUp c dp (cN o (c dp))) ts.tail := by
  rw [runM, if_neg (by decide), if_neg (fun q => by rw [q.1, show opc 59 = none by decide] at h; cases h), h]
  dsimp only
  rw [if_neg h4]
theorem runM_c (h : hk ts = 41) (h0 : ¬ dp = 0) : runM (n + 1) false mN W O op dp c ts = runM n false mN (fl 7 (fl 1 W).tail) (O ++ (ft 1 W).map nI ++ (ft 7 (fl 1 W).tail).map nI) (op - fc (ft 1 W) - 1 - fc (ft 7 (fl 1 W).tail)) (dp - 1) c ts.tail := by
  rw [runM, if_neg (by decide), if_neg (fun q => by rw [h] at q; exact absurd q.1 (by decide)), show opc (hk ts) = none by rw [h]; decide]
  dsimp only
  rw [if_pos ⟨h, h0⟩]
theorem runM_s (h59 : ¬ (hk ts = 59 ∧ dp = 0)) (ho : ∀ o, opc (hk ts) = some o → rk o = 4 ∧ c dp = true) (h41 : ¬ (hk ts = 41 ∧ ¬ dp = 0)) : runM n false mN W O op dp c ts = (none, ts) := by
  cases n with
  | zero => rfl
  | succ n =>
    rw [runM, if_neg (by decide), if_neg h59]
    cases hq : opc (hk ts) with
    | none => dsimp only; rw [if_neg h41]
    | some o => dsimp only; rw [if_pos (ho o hq)]
end
theorem fl_stop {r : Nat} {W : List Nat} (h : ∀ o, W.head? = some o → rk o < r) : fl r W = W ∧ ft r W = [] := by
  cases W with
  | nil => exact ⟨rfl, rfl⟩
  | cons a W =>
    have hb : fb r a = false := by
      unfold fb
      exact decide_eq_false (by have := h a rfl; omega)
    unfold fl ft
    rw [List.dropWhile_cons, List.takeWhile_cons, hb]
    exact ⟨rfl, rfl⟩
theorem fl_app {r : Nat} {p W : List Nat} (hp : ∀ o, o ∈ p → r ≤ rk o) (h : ∀ o, W.head? = some o → rk o < r) : fl r (p ++ W) = W ∧ ft r (p ++ W) = p := by
  induction p with
  | nil => exact fl_stop h
  | cons a p ih =>
    have hb : fb r a = true := decide_eq_true (hp a List.mem_cons_self)
    obtain ⟨i1, i2⟩ := ih (fun o ho => hp o (List.mem_cons_of_mem _ ho))
    unfold fl at i1 ⊢
    unfold ft at i2 ⊢
    rw [List.cons_append, List.dropWhile_cons, List.takeWhile_cons, hb]
    exact ⟨i1, by rw [if_pos rfl, i2]⟩
theorem fl_7 {W : List Nat} : fl 7 (18 :: W) = fl 7 W ∧ ft 7 (18 :: W) = 18 :: ft 7 W := by
  have hb : fb 7 18 = true := by decide
  unfold fl ft
  rw [List.dropWhile_cons, List.takeWhile_cons, hb]
  exact ⟨rfl, rfl⟩
theorem opc_rk {k : Int32} {o : Nat} (h : opc k = some o) : (o = 15 ∨ o = 16 ∨ o = 17 ∨ o = 13 ∨ o = 14 ∨ o = 11 ∨ o = 10) ∧ 1 ≤ rk o ∧ rk o < 7 := by
  unfold opc at h
  split at h
  · cases h; decide
  split at h
  · cases h; decide
  split at h
  · cases h; decide
  split at h
  · cases h; decide
  split at h
  · cases h; decide
  split at h
  · cases h; decide
  split at h
  · cases h; decide
  · cases h
/-- these codes, and then these that wait, leave e -/
def CDS (cs : List Int32) (p : List Nat) (e : FX) : Prop := (∀ F s, rnC F (cs ++ p.map nI) (some s) = some (e F :: s)) ∧ (∀ x, x ∈ cs → okC x) ∧ ∀ o, o ∈ p → 10 ≤ o ∧ o ≤ 18
theorem CDS.fl {cs : List Int32} {p : List Nat} {e : FX} (h : CDS cs p e) : CDS (cs ++ p.map nI) [] e := by
  refine ⟨fun F s => by rw [List.map_nil, List.append_nil]; exact h.1 F s, fun x hx => ?_, fun o ho => absurd ho (by simp)⟩
  rcases List.mem_append.mp hx with q | q
  · exact h.2.1 x q
  · obtain ⟨o, ho, rfl⟩ := List.mem_map.mp q
    exact Or.inr ⟨o, rfl, Or.inr (h.2.2 o ho)⟩
theorem CDS.un {cs : List Int32} {p : List Nat} {e : FX} {o u : Nat} (h : CDS cs p e) (ho : 10 ≤ o ∧ o ≤ 18) (hs : ∀ F x s, stp F (nI o) (x :: s) = some (uopV u x :: s)) : CDS cs (p ++ [o]) (fun F => uopV u (e F)) := by
  refine ⟨fun F s => ?_, h.2.1, fun q hq => ?_⟩
  · rw [List.map_append, ← List.append_assoc, rnC_app, h.1 F s]
    exact hs F _ _
  · rcases List.mem_append.mp hq with z | z
    · exact h.2.2 q z
    · rw [List.mem_singleton.mp z]; exact ho
theorem CDS.bin {cs cs2 : List Int32} {p p2 : List Nat} {e e2 : FX} {o b : Nat} (h : CDS cs p e) (h2 : CDS cs2 p2 e2) (ho : 10 ≤ o ∧ o ≤ 18) (hs : ∀ F x y s, stp F (nI o) (y :: x :: s) = some (bopV b x y :: s)) : CDS (cs ++ p.map nI ++ cs2) (p2 ++ [o]) (fun F => bopV b (e F) (e2 F)) := by
  refine ⟨fun F s => ?_, fun x hx => ?_, fun q hq => ?_⟩
  · rw [List.map_append, ← List.append_assoc, List.append_assoc (cs ++ p.map nI), rnC_app, rnC_app, h.1 F s, h2.1 F _]
    exact hs F _ _ _
  · rcases List.mem_append.mp hx with z | z
    · exact h.fl.2.1 x z
    · exact h2.2.1 x z
  · rcases List.mem_append.mp hq with z | z
    · exact h2.2.2 q z
    · rw [List.mem_singleton.mp z]; exact ho
/-- names and numbers are such -/
def NOk (ts : List TK) : Prop := ∀ t, t ∈ ts → (t.1 = 3 → ∃ j, j < 6 ∧ t.2.1 = nI j) ∧ (t.1 = 2 → ¬ t.2.1 < 0 ∧ -1 - t.2.1 < 0)
theorem NOk.tl {ts : List TK} (h : NOk ts) : NOk ts.tail := fun t ht => h t (List.mem_of_mem_tail ht)
theorem hk_ne {ts : List TK} (h : ¬ hk ts = 0) : ts.tail.length + 1 = ts.length := by
  cases ts with
  | nil => exact absurd rfl h
  | cons a r => rfl
/-- what a reading of level L does to the machine -/
def OUT (L : Nat) (q : PR) (z : Option (List Int32) × List TK) (W : List Nat) (O : List Int32) (op dp : Nat) (c : Nat → Bool) (len : Nat) : Prop :=
  (∀ r, q = (none, r) → z = (none, r)) ∧
  ∀ e r, q = (some e, r) → ∃ (n : Nat) (mN : Bool) (p : List Nat) (cs : List Int32) (c' : Nat → Bool), z = runM n false mN (p ++ W) (O ++ cs) (op + fc p) dp c' r ∧ r.length ≤ n ∧ r.length < len ∧ NOk r ∧ (∀ o, o ∈ p → L ≤ rk o) ∧ CDS cs p e ∧ (∀ i, i < dp → c' i = c i) ∧ (4 < L → c' dp = c dp) ∧ ∀ o, opc (hk r) = some o → rk o < L ∨ (rk o = 4 ∧ c' dp = true)
def SIM (L H : Nat) (P : List TK → PR) (k : Nat) (nt : Bool) : Prop :=
  ∀ (n : Nat) (mN : Bool) (W : List Nat) (O : List Int32) (op dp : Nat) (c : Nat → Bool) (ts : List TK), ts.length ≤ n → ts.length ≤ 161 → NOk ts → k + op = 5 → (∀ o, W.head? = some o → rk o < H) → (nt = true → mN = true) → (nt = false → mN = true → ¬ hk ts = 9) → (L ≤ 4 → c dp = false) → OUT L (P ts) (runM n true mN W O op dp c ts) W O op dp c ts.length
def SM1 (P : List TK → PR) (k : Nat) : Prop :=
  ∀ (n : Nat) (mN : Bool) (W : List Nat) (O : List Int32) (op dp : Nat) (c : Nat → Bool) (ts : List TK), ts.length ≤ n → ts.length ≤ 161 → NOk ts → k + op = 5 → (mN = true → ¬ hk ts = 9) →
  (∀ r, P ts = (none, r) → runM n true mN W O op dp c ts = (none, r)) ∧
  ∀ e r, P ts = (some e, r) → ∃ (n' : Nat) (mN' : Bool) (cs : List Int32) (c' : Nat → Bool), runM n true mN W O op dp c ts = runM n' false mN' (fl 7 W) (O ++ cs ++ (ft 7 W).map nI) (op - fc (ft 7 W)) dp c' r ∧ r.length ≤ n' ∧ r.length < ts.length ∧ NOk r ∧ CDS cs [] e ∧ ∀ i, i ≤ dp → c' i = c i
theorem SM1.sim {P : List TK → PR} {k : Nat} (h : SM1 P k) : SIM 7 7 P k false := by
  intro n mN W O op dp c ts h1 h2 h3 h4 h5 h6 h7 h8
  obtain ⟨a, b⟩ := h n mN W O op dp c ts h1 h2 h3 h4 (h7 rfl)
  refine ⟨a, fun e r hq => ?_⟩
  obtain ⟨n', mN', cs, c', b1, b2, b3, b4, b5, b6⟩ := b e r hq
  obtain ⟨f1, f2⟩ := fl_stop h5
  refine ⟨n', mN', [], cs, c', ?_, b2, b3, b4, fun o ho => absurd ho (by simp), b5, fun i hi => b6 i (by omega), fun _ => b6 dp (Nat.le_refl _), fun o ho => Or.inl (opc_rk ho).2.2⟩
  rw [b1, f1, f2]
  show runM n' false mN' W (O ++ cs ++ []) (op - 0) dp c' r = runM n' false mN' W (O ++ cs) (op + 0) dp c' r
  rw [List.append_nil]
  rfl
theorem fc_app {a b : List Nat} : fc (a ++ b) = fc a + fc b := List.countP_append
theorem opc_4 {k : Int32} {o : Nat} (h : opc k = some o) (h4 : rk o = 4) : k = 60 ∨ k = 61 := by
  unfold opc at h
  split at h
  · cases h; exact absurd h4 (by decide)
  split at h
  · cases h; exact absurd h4 (by decide)
  split at h
  · cases h; exact absurd h4 (by decide)
  split at h
  · rename_i z; exact Or.inl z
  split at h
  · rename_i z; exact Or.inr z
  split at h
  · cases h; exact absurd h4 (by decide)
  split at h
  · cases h; exact absurd h4 (by decide)
  · cases h
/-- the class's sign of a level, and the model's -/
def OPS (L : Nat) (opf : Int32 → Option Nat) : Prop := (∀ k b, opf k = some b → ∃ o, opc k = some o ∧ rk o = L ∧ fc [o] = 0 ∧ (∀ F x y s, stp F (nI o) (y :: x :: s) = some (bopV b x y :: s)) ∧ ((o = 10 ∨ o = 11) ↔ L ≤ 2)) ∧ ∀ k o, opf k = none → opc k = some o → ¬ rk o = L
theorem lp_sim {L H k : Nat} {opf : Int32 → Option Nat} {sub : List TK → PR} {W : List Nat} {O : List Int32} {op dp : Nat} {c : Nat → Bool} {len : Nat} (hL : L = 1 ∨ L = 2 ∨ L = 5 ∨ L = 6) (hH : L < H) (hsub : SIM (L + 1) H sub k (decide (L ≤ 2))) (hops : OPS L opf) (hk5 : k + op = 5) (hW : ∀ o, W.head? = some o → rk o < L) : ∀ (N n : Nat) (mN : Bool) (p : List Nat) (cs : List Int32) (c' : Nat → Bool) (e : FX) (r : List TK), r.length ≤ N → r.length ≤ n → r.length ≤ 160 → NOk r → r.length < len → (∀ o, o ∈ p → L ≤ rk o) → CDS cs p e → (∀ i, i < dp → c' i = c i) → (4 < L → c' dp = c dp) → (∀ o, opc (hk r) = some o → rk o < L + 1 ∨ (rk o = 4 ∧ c' dp = true)) → OUT L (lpP opf sub N (some e, r)) (runM n false mN (p ++ W) (O ++ cs) (op + fc p) dp c' r) W O op dp c len := by
  intro N
  induction N with
  | zero =>
    intro n mN p cs c' e r a1 a2 a3 a4 a5 a6 a7 a8 a9 a10
    refine ⟨fun r' hq => (by cases hq), fun e' r' hq => ?_⟩
    have hr : r = [] := List.eq_nil_of_length_eq_zero (by omega)
    cases hq
    refine ⟨n, mN, p, cs, c', rfl, a2, a5, a4, a6, a7, a8, a9, fun o ho => ?_⟩
    rw [hr] at ho
    exact absurd ho (by rw [show opc (hk []) = none by decide]; intro z; cases z)
  | succ N ih =>
    intro n mN p cs c' e r a1 a2 a3 a4 a5 a6 a7 a8 a9 a10
    cases hq : opf (hk r) with
    | none =>
      rw [lpP_e hq]
      refine ⟨fun r' hq => (by cases hq), fun e' r' hq2 => ?_⟩
      cases hq2
      refine ⟨n, mN, p, cs, c', rfl, a2, a5, a4, a6, a7, a8, a9, fun o ho => ?_⟩
      have := hops.2 _ _ hq ho
      rcases a10 o ho with z | z
      · exact Or.inl (by omega)
      · exact Or.inr z
    | some b =>
      obtain ⟨o, o1, o2, o3, o4, o5⟩ := hops.1 _ _ hq
      have hne : ¬ hk r = 0 := fun z => by rw [z, show opc 0 = none by decide] at o1; cases o1
      have hlen := hk_ne hne
      obtain ⟨n1, rfl⟩ : ∃ n1, n = n1 + 1 := ⟨n - 1, by omega⟩
      obtain ⟨f1, f2⟩ := fl_app a6 hW
      rw [lpP_s hq, runM_o o1 (fun z => by omega), o2, f1, f2, show op + fc p - fc p = op by omega]
      have hS := hsub n1 (decide (o = 10 ∨ o = 11)) (o :: W) (O ++ cs ++ p.map nI) op dp (cUp c' dp (cN o (c' dp))) r.tail (by omega) (by omega) a4.tl hk5 (fun q hq => by cases hq; omega) (fun z => decide_eq_true (o5.mpr (of_decide_eq_true z))) (fun z z2 => absurd (o5.mp (of_decide_eq_true z2)) (of_decide_eq_false z)) (fun z => by
        rw [cUp_s]
        unfold cN
        rw [o2, decide_eq_false (show ¬ L = 4 by omega), decide_eq_false (show ¬ 4 < L by omega)]
        rfl)
      obtain ⟨s1, s2⟩ := hS
      cases hs : sub r.tail with
      | mk q r2 =>
        cases q with
        | none =>
          rw [hs] at s1
          show OUT L (lpP opf sub N (none, r2)) _ W O op dp c len
          rw [lpP_n, s1 r2 rfl]
          exact ⟨fun r' hq => by cases hq; rfl, fun e' r' hq => (by cases hq)⟩
        | some e2 =>
          obtain ⟨n2, mN2, p2, cs2, c3, t1, t2, t3, t4, t5, t6, t7, t8, t9⟩ := s2 e2 r2 hs
          show OUT L (lpP opf sub N (some (fun F => bopV b (e F) (e2 F)), r2)) _ W O op dp c len
          rw [t1, show p2 ++ o :: W = (p2 ++ [o]) ++ W by rw [List.append_assoc]; rfl, show O ++ cs ++ p.map nI ++ cs2 = O ++ (cs ++ p.map nI ++ cs2) by simp only [List.append_assoc], show op + fc p2 = op + fc (p2 ++ [o]) by rw [fc_app, o3, Nat.add_zero]]
          refine ih n2 mN2 (p2 ++ [o]) (cs ++ p.map nI ++ cs2) c3 _ r2 (by omega) t2 (by omega) t4 (by omega) (fun q hq => ?_) (a7.bin t6 (by rcases (opc_rk o1).1 with z | z | z | z | z | z | z <;> omega) o4) (fun i hi => ?_) (fun h4 => ?_) t9
          · rcases List.mem_append.mp hq with z | z
            · have := t5 q z; omega
            · rw [List.mem_singleton.mp z]; omega
          · rw [t7 i hi, cUp_n (by omega)]; exact a8 i hi
          · rw [t8 (by omega), cUp_s]
            unfold cN
            rw [o2, decide_eq_false (show ¬ L = 4 by omega), decide_eq_true h4]
            exact a9 h4
theorem seq_sim {L H k : Nat} {opf : Int32 → Option Nat} {sub : List TK → PR} (hL : L = 1 ∨ L = 2 ∨ L = 5 ∨ L = 6) (hH : L < H) (hsub : SIM (L + 1) H sub k (decide (L ≤ 2))) (hops : OPS L opf) : SIM L L (seqP opf sub) k (decide (L ≤ 2)) := by
  intro n mN W O op dp c ts h1 h2 h3 h4 h5 h6 h7 h8
  obtain ⟨s1, s2⟩ := hsub n mN W O op dp c ts h1 h2 h3 h4 (fun o ho => Nat.lt_trans (h5 o ho) hH) h6 h7 (fun z => h8 (by omega))
  unfold seqP
  cases hs : sub ts with
  | mk q r =>
    cases q with
    | none =>
      rw [lpP_n, s1 r hs]
      exact ⟨fun r' hq => by cases hq; rfl, fun e' r' hq => (by cases hq)⟩
    | some e =>
      obtain ⟨n2, mN2, p2, cs2, c3, t1, t2, t3, t4, t5, t6, t7, t8, t9⟩ := s2 e r hs
      rw [t1]
      exact lp_sim hL hH hsub hops h4 h5 160 n2 mN2 p2 cs2 c3 e r (by omega) t2 (by omega) t4 t3 (fun o ho => by have := t5 o ho; omega) t6 t7 (fun z => t8 (by omega)) t9
theorem cmp_sim {k : Nat} {one : List TK → PR} (hS : SIM 5 5 (sumP one) k false) : SIM 4 4 (cmpP one) k false := by
  intro n mN W O op dp c ts h1 h2 h3 h4 h5 h6 h7 h8
  obtain ⟨s1, s2⟩ := hS n mN W O op dp c ts h1 h2 h3 h4 (fun o ho => by have := h5 o ho; omega) h6 h7 (fun z => absurd z (by decide))
  unfold cmpP
  cases hs : sumP one ts with
  | mk q r =>
    cases q with
    | none =>
      rw [s1 r hs]
      exact ⟨fun r' hq => by cases hq; rfl, fun e' r' hq => (by cases hq)⟩
    | some e =>
      obtain ⟨n2, mN2, p2, cs2, c3, t1, t2, t3, t4, t5, t6, t7, t8, t9⟩ := s2 e r hs
      rw [t1]
      have hc3 : c3 dp = false := (t8 (by decide)).trans (h8 (Nat.le_refl _))
      -- with a sign of comparing
      have cm : ∀ (b o : Nat), opc (hk r) = some o → rk o = 4 → fc [o] = 0 → ¬ (o = 10 ∨ o = 11) → (∀ F x y s, stp F (nI o) (y :: x :: s) = some (bopV b x y :: s)) → OUT 4 (binP b e (sumP one r.tail)) (runM n2 false mN2 (p2 ++ W) (O ++ cs2) (op + fc p2) dp c3 r) W O op dp c ts.length := by
        intro b o o1 o2 o3 o5 o4
        have hne : ¬ hk r = 0 := fun z => by rw [z, show opc 0 = none by decide] at o1; cases o1
        have hlen := hk_ne hne
        obtain ⟨n1, rfl⟩ : ∃ n1, n2 = n1 + 1 := ⟨n2 - 1, by omega⟩
        obtain ⟨f1, f2⟩ := fl_app (r := 4) (p := p2) (W := W) (fun o ho => by have := t5 o ho; omega) h5
        rw [runM_o o1 (fun z => by rw [hc3] at z; exact absurd z.2 (by decide)), o2, f1, f2, show op + fc p2 - fc p2 = op by omega, decide_eq_false o5]
        obtain ⟨u1, u2⟩ := hS n1 false (o :: W) (O ++ cs2 ++ p2.map nI) op dp (cUp c3 dp (cN o (c3 dp))) r.tail (by omega) (by omega) t4.tl h4 (fun q hq => by cases hq; omega) (fun z => absurd z (by decide)) (fun _ z => absurd z (by decide)) (fun z => absurd z (by decide))
        cases hs2 : sumP one r.tail with
        | mk q r2 =>
          cases q with
          | none =>
            rw [u1 r2 hs2]
            exact ⟨fun r' hq => by cases hq; rfl, fun e' r' hq => (by cases hq)⟩
          | some e2 =>
            obtain ⟨n3, mN3, p3, cs3, c4, v1, v2, v3, v4, v5, v6, v7, v8, v9⟩ := u2 e2 r2 hs2
            refine ⟨fun r' hq => (by cases hq), fun e' r' hq => ?_⟩
            cases hq
            have hc4 : c4 dp = true := by
              rw [v8 (by decide), cUp_s]
              unfold cN
              rw [o2]
              rfl
            refine ⟨n3, mN3, p3 ++ [o], cs2 ++ p2.map nI ++ cs3, c4, ?_, v2, by omega, v4, fun q hq => ?_, t6.bin v6 (by rcases (opc_rk o1).1 with z | z | z | z | z | z | z <;> omega) o4, fun i hi => ?_, fun z => absurd z (by decide), fun q hq => ?_⟩
            · rw [v1, show p3 ++ o :: W = (p3 ++ [o]) ++ W by rw [List.append_assoc]; rfl, show O ++ cs2 ++ p2.map nI ++ cs3 = O ++ (cs2 ++ p2.map nI ++ cs3) by simp only [List.append_assoc], show op + fc p3 = op + fc (p3 ++ [o]) by rw [fc_app, o3, Nat.add_zero]]
            · rcases List.mem_append.mp hq with z | z
              · have := v5 q z; omega
              · rw [List.mem_singleton.mp z]; omega
            · rw [v7 i hi, cUp_n (by omega)]; exact t7 i hi
            · rcases v9 q hq with z | z
              · by_cases e4 : rk q = 4
                · exact Or.inr ⟨e4, hc4⟩
                · exact Or.inl (by omega)
              · exact Or.inr z
      dsimp only
      by_cases h60 : hk r = 60
      · rw [if_pos h60]
        exact cm 5 13 (by rw [h60]; decide) (by decide) (by decide) (by decide) (fun F x y s => rfl)
      · rw [if_neg h60]
        by_cases h61 : hk r = 61
        · rw [if_pos h61]
          exact cm 6 14 (by rw [h61]; decide) (by decide) (by decide) (by decide) (fun F x y s => rfl)
        · rw [if_neg h61]
          refine ⟨fun r' hq => (by cases hq), fun e' r' hq => ?_⟩
          cases hq
          refine ⟨n2, mN2, p2, cs2, c3, rfl, t2, t3, t4, fun o ho => by have := t5 o ho; omega, t6, t7, fun z => absurd z (by decide), fun o ho => ?_⟩
          rcases t9 o ho with z | z
          · by_cases e4 : rk o = 4
            · rcases opc_4 ho e4 with y | y
              · exact absurd y h60
              · exact absurd y h61
            · exact Or.inl (by omega)
          · exact Or.inr z
theorem ops_O : OPS 1 opO := by
  refine ⟨fun k b h => ?_, fun k o h ho h1 => ?_⟩
  · unfold opO at h
    split at h
    · rename_i z
      cases h
      exact ⟨10, by rw [z]; decide, by decide, by decide, fun F x y s => rfl, by decide⟩
    · cases h
  · unfold opO at h
    split at h
    · cases h
    · rename_i z
      unfold opc at ho
      repeat' split at ho
      all_goals first | (cases ho; exact absurd h1 (by decide)) | (rename_i y; exact absurd y z) | cases ho
theorem ops_A : OPS 2 opA := by
  refine ⟨fun k b h => ?_, fun k o h ho h1 => ?_⟩
  · unfold opA at h
    split at h
    · rename_i z
      cases h
      exact ⟨11, by rw [z]; decide, by decide, by decide, fun F x y s => rfl, by decide⟩
    · cases h
  · unfold opA at h
    split at h
    · cases h
    · rename_i z
      unfold opc at ho
      repeat' split at ho
      all_goals first | (cases ho; exact absurd h1 (by decide)) | (rename_i y; exact absurd y z) | cases ho
theorem ops_T : OPS 6 opT := by
  refine ⟨fun k b h => ?_, fun k o h ho h1 => ?_⟩
  · unfold opT at h
    split at h
    · rename_i z
      cases h
      exact ⟨17, by rw [z]; decide, by decide, by decide, fun F x y s => rfl, by decide⟩
    · cases h
  · unfold opT at h
    split at h
    · cases h
    · rename_i z
      unfold opc at ho
      repeat' split at ho
      all_goals first | (cases ho; exact absurd h1 (by decide)) | (rename_i y; exact absurd y z) | cases ho
theorem ops_S : OPS 5 opS := by
  refine ⟨fun k b h => ?_, fun k o h ho h1 => ?_⟩
  · unfold opS at h
    split at h
    · rename_i z
      cases h
      exact ⟨15, by rw [z]; decide, by decide, by decide, fun F x y s => rfl, by decide⟩
    · split at h
      · rename_i z
        cases h
        exact ⟨16, by rw [z]; decide, by decide, by decide, fun F x y s => rfl, by decide⟩
      · cases h
  · unfold opS at h
    split at h
    · cases h
    · split at h
      · cases h
      · rename_i z1 z2
        unfold opc at ho
        repeat' split at ho
        all_goals first | (cases ho; exact absurd h1 (by decide)) | (rename_i y; exact absurd y z1) | (rename_i y; exact absurd y z2) | cases ho
theorem opc_3 {k : Int32} {o : Nat} (h : opc k = some o) : ¬ rk o = 3 := by
  rcases (opc_rk h).1 with z | z | z | z | z | z | z <;> subst z <;> decide
theorem E_sim {k : Nat} (h : SIM 3 4 (pk k).2 k true) : SIM 1 1 (eP (pk k).2) k true := seq_sim (L := 1) (Or.inl rfl) (H := 2) (by decide) (seq_sim (L := 2) (Or.inr (Or.inl rfl)) (H := 4) (by decide) h ops_A) ops_O
theorem sum_sim {k : Nat} {one : List TK → PR} (h : SM1 one k) : SIM 5 5 (sumP one) k false := seq_sim (L := 5) (Or.inr (Or.inr (Or.inl rfl))) (H := 6) (by decide) (seq_sim (L := 6) (Or.inr (Or.inr (Or.inr rfl))) (H := 7) (by decide) h.sim ops_T) ops_S
theorem OUT.four {q : PR} {z : Option (List Int32) × List TK} {W : List Nat} {O : List Int32} {op dp : Nat} {c : Nat → Bool} {len : Nat} (h : OUT 4 q z W O op dp c len) : OUT 3 q z W O op dp c len := by
  refine ⟨h.1, fun e r hq => ?_⟩
  obtain ⟨n2, mN2, p2, cs2, c3, t1, t2, t3, t4, t5, t6, t7, t8, t9⟩ := h.2 e r hq
  refine ⟨n2, mN2, p2, cs2, c3, t1, t2, t3, t4, fun o ho => by have := t5 o ho; omega, t6, t7, fun z => absurd z (by decide), fun o ho => ?_⟩
  have := opc_3 ho
  rcases t9 o ho with z | z
  · exact Or.inl (by omega)
  · exact Or.inr z
theorem not_sim {k : Nat} (h1 : SM1 (pk k).1 k) (hp : ∀ j, k = j + 1 → SIM 3 4 (pk j).2 j true) : SIM 3 4 (pk k).2 k true := by
  intro n mN W O op dp c ts a1 a2 a3 a4 a5 a6 a7 a8
  have hmN := a6 rfl
  subst hmN
  rw [pk_not]
  by_cases h9 : hk ts = 9
  · rw [if_pos h9]
    cases k with
    | zero =>
      dsimp only
      rw [runM_f (by rw [h9]; decide) (by rw [h9]; decide) (Or.inr (by omega))]
      exact ⟨fun r' hq => by cases hq; rfl, fun e' r' hq => (by cases hq)⟩
    | succ k =>
      dsimp only
      have hlen := hk_ne (ts := ts) (by rw [h9]; decide)
      obtain ⟨n1, rfl⟩ : ∃ n1, n = n1 + 1 := ⟨n - 1, by omega⟩
      rw [runM_n h9 (by omega)]
      obtain ⟨s1, s2⟩ := hp k rfl n1 true (12 :: W) O (op + 1) dp c ts.tail (by omega) (by omega) a3.tl (by omega) (fun q hq => by cases hq; decide) (fun _ => rfl) (fun z => absurd z (by decide)) (fun _ => a8 (by decide))
      cases hs : (pk k).2 ts.tail with
      | mk q r =>
        cases q with
        | none =>
          rw [s1 r hs]
          exact ⟨fun r' hq => by cases hq; rfl, fun e' r' hq => (by cases hq)⟩
        | some e =>
          obtain ⟨n2, mN2, p2, cs2, c3, t1, t2, t3, t4, t5, t6, t7, t8, t9⟩ := s2 e r hs
          refine ⟨fun r' hq => (by cases hq), fun e' r' hq => ?_⟩
          cases hq
          refine ⟨n2, mN2, p2 ++ [12], cs2, c3, ?_, t2, by omega, t4, fun q hq => ?_, t6.un (o := 12) (u := 4) (by decide) (fun F x s => rfl), t7, fun z => absurd z (by decide), t9⟩
          · rw [t1, show p2 ++ 12 :: W = (p2 ++ [12]) ++ W by rw [List.append_assoc]; rfl, show op + 1 + fc p2 = op + fc (p2 ++ [12]) by rw [fc_app, show fc [12] = 1 by decide]; omega]
          · rcases List.mem_append.mp hq with z | z
            · exact t5 q z
            · rw [List.mem_singleton.mp z]; decide
  · rw [if_neg h9]
    exact (cmp_sim (sum_sim h1) n true W O op dp c ts a1 a2 a3 a4 a5 (fun z => absurd z (by decide)) (fun _ _ => h9) (fun _ => a8 (by decide))).four
theorem rnC_one {F : Nat → Int32} {x : Int32} {s : List Int32} : rnC F ([x] ++ ([] : List Nat).map nI) (some s) = stp F x s := rfl
/-- a number or a name -/
theorem one0_sim {n : Nat} {mN : Bool} {W : List Nat} {O : List Int32} {op dp : Nat} {c : Nat → Bool} {ts : List TK} (a1 : ts.length ≤ n) (a3 : NOk ts) (a5 : mN = true → ¬ hk ts = 9) (ho : (¬ hk ts = 40 ∧ ¬ hk ts = 45) ∨ op = 5) :
    (∀ r, one0 ts = (none, r) → runM n true mN W O op dp c ts = (none, r)) ∧
    ∀ e r, one0 ts = (some e, r) → ∃ (n' : Nat) (mN' : Bool) (cs : List Int32) (c' : Nat → Bool), runM n true mN W O op dp c ts = runM n' false mN' (fl 7 W) (O ++ cs ++ (ft 7 W).map nI) (op - fc (ft 7 W)) dp c' r ∧ r.length ≤ n' ∧ r.length < ts.length ∧ NOk r ∧ CDS cs [] e ∧ ∀ i, i ≤ dp → c' i = c i := by
  unfold one0
  by_cases h2 : hk ts = 2
  · rw [if_pos h2]
    refine ⟨fun r hq => (by cases hq), fun e r hq => ?_⟩
    cases hq
    have hlen := hk_ne (ts := ts) (by rw [h2]; decide)
    obtain ⟨n1, rfl⟩ : ∃ n1, n = n1 + 1 := ⟨n - 1, by omega⟩
    refine ⟨n1, mN, [cde ts], c, runM_v (Or.inl h2), by omega, by omega, a3.tl, ?_, fun _ _ => rfl⟩
    cases ts with
    | nil => exact absurd h2 (by decide)
    | cons t r =>
      obtain ⟨b1, b2⟩ := (a3 t List.mem_cons_self).2 h2
      have ec : cde (t :: r) = -1 - t.2.1 := if_pos h2
      rw [ec]
      refine ⟨fun F s => ?_, fun x hx => by rw [List.mem_singleton.mp hx]; exact Or.inl b2, fun o ho => absurd ho (by simp)⟩
      rw [rnC_one, show hvl (t :: r) = t.2.1 from rfl]
      unfold stp
      rw [if_pos b2, show -1 - (-1 - t.2.1) = t.2.1 by
        rw [Int32.sub_eq_add_neg, Int32.neg_sub, Int32.sub_eq_add_neg, ← Int32.add_assoc, Int32.add_comm (-1) t.2.1, Int32.add_assoc, Int32.add_right_neg, Int32.add_zero]]
  · rw [if_neg h2]
    by_cases h3 : hk ts = 3
    · rw [if_pos h3]
      refine ⟨fun r hq => (by cases hq), fun e r hq => ?_⟩
      cases hq
      have hlen := hk_ne (ts := ts) (by rw [h3]; decide)
      obtain ⟨n1, rfl⟩ : ∃ n1, n = n1 + 1 := ⟨n - 1, by omega⟩
      refine ⟨n1, mN, [cde ts], c, runM_v (Or.inr h3), by omega, by omega, a3.tl, ?_, fun _ _ => rfl⟩
      cases ts with
      | nil => exact absurd h3 (by decide)
      | cons t r =>
        obtain ⟨j, b1, b2⟩ := (a3 t List.mem_cons_self).1 h3
        have ec : cde (t :: r) = t.2.1 := if_neg h2
        rw [ec]
        refine ⟨fun F s => ?_, fun x hx => by rw [List.mem_singleton.mp hx]; exact Or.inr ⟨j, b2, Or.inl b1⟩, fun o ho => absurd ho (by simp)⟩
        show stp F t.2.1 s = some (F (t.2.1).toNatClampNeg :: s)
        unfold stp
        rw [b2, if_neg (nI_pos (by omega)), if_pos (show nI j < 6 from nI_lt (b := 6) b1 (by decide))]
    · rw [if_neg h3]
      refine ⟨fun r hq => ?_, fun e r hq => (by cases hq)⟩
      cases hq
      exact runM_f h2 h3 (ho.elim (fun z => Or.inl ⟨z.1, z.2, fun y => a5 y.1 y.2⟩) Or.inr)
theorem one_sim {k : Nat} (hp : ∀ j, k = j + 1 → SM1 (pk j).1 j ∧ SIM 3 4 (pk j).2 j true) : SM1 (pk k).1 k := by
  intro n mN W O op dp c ts a1 a2 a3 a4 a5
  rw [pk_one]
  cases k with
  | zero => exact one0_sim a1 a3 a5 (Or.inr (by omega))
  | succ k =>
    dsimp only
    obtain ⟨i1, i2⟩ := hp k rfl
    by_cases h45 : hk ts = 45
    · rw [if_pos h45]
      have hlen := hk_ne (ts := ts) (by rw [h45]; decide)
      obtain ⟨n1, rfl⟩ : ∃ n1, n = n1 + 1 := ⟨n - 1, by omega⟩
      rw [runM_m h45 (by omega)]
      obtain ⟨s1, s2⟩ := i1 n1 false (18 :: W) O (op + 1) dp c ts.tail (by omega) (by omega) a3.tl (by omega) (fun z => absurd z (by decide))
      cases hs : (pk k).1 ts.tail with
      | mk q r =>
        cases q with
        | none =>
          rw [s1 r hs]
          exact ⟨fun r' hq => by cases hq; rfl, fun e' r' hq => (by cases hq)⟩
        | some e =>
          obtain ⟨n2, mN2, cs2, c3, t1, t2, t3, t4, t5, t6⟩ := s2 e r hs
          refine ⟨fun r' hq => (by cases hq), fun e' r' hq => ?_⟩
          cases hq
          refine ⟨n2, mN2, cs2 ++ [nI 18], c3, ?_, t2, by omega, t4, (t5.un (o := 18) (u := 10) (by decide) (fun F x s => rfl)).fl, t6⟩
          rw [t1, fl_7.1, fl_7.2, List.map_cons, show op + 1 - fc (18 :: ft 7 W) = op - fc (ft 7 W) by rw [show fc (18 :: ft 7 W) = fc (ft 7 W) + 1 from List.countP_cons_of_pos (by decide)]; omega]
          simp only [List.append_assoc, List.cons_append, List.nil_append]
    · rw [if_neg h45]
      by_cases h40 : hk ts = 40
      · rw [if_pos h40]
        have hlen := hk_ne (ts := ts) (by rw [h40]; decide)
        obtain ⟨n1, rfl⟩ : ∃ n1, n = n1 + 1 := ⟨n - 1, by omega⟩
        rw [runM_p h40 (by omega)]
        obtain ⟨s1, s2⟩ := E_sim i2 n1 true (30 :: W) O (op + 1) (dp + 1) (cUp c (dp + 1) false) ts.tail (by omega) (by omega) a3.tl (by omega) (fun q hq => by cases hq; decide) (fun _ => rfl) (fun z => absurd z (by decide)) (fun _ => cUp_s)
        cases hs : eP (pk k).2 ts.tail with
        | mk q r =>
          cases q with
          | none =>
            rw [s1 r hs]
            exact ⟨fun r' hq => by cases hq; rfl, fun e' r' hq => (by cases hq)⟩
          | some e =>
            obtain ⟨n2, mN2, p2, cs2, c3, t1, t2, t3, t4, t5, t6, t7, t8, t9⟩ := s2 e r hs
            rw [t1]
            show (∀ r', (if hk r = 41 then (some e, r.tail) else (none, r)) = (none, r') → _) ∧ ∀ e' r', (if hk r = 41 then (some e, r.tail) else (none, r)) = (some e', r') → _
            by_cases h41 : hk r = 41
            · rw [if_pos h41]
              refine ⟨fun r' hq => (by cases hq), fun e' r' hq => ?_⟩
              cases hq
              have hlen2 := hk_ne (ts := r) (by rw [h41]; decide)
              obtain ⟨n3, rfl⟩ : ∃ n3, n2 = n3 + 1 := ⟨n2 - 1, by omega⟩
              obtain ⟨f1, f2⟩ := fl_app (r := 1) (p := p2) (W := 30 :: W) t5 (fun q hq => by cases hq; decide)
              refine ⟨n3, mN2, cs2 ++ p2.map nI, c3, ?_, by omega, by omega, t4.tl, t6.fl, fun i hi => by rw [t7 i (by omega), cUp_n (by omega)]⟩
              rw [runM_c h41 (by omega), f1, f2, List.tail_cons, show op + 1 + fc p2 - fc p2 - 1 - fc (ft 7 W) = op - fc (ft 7 W) by omega, show dp + 1 - 1 = dp by omega]
              simp only [List.append_assoc]
            · rw [if_neg h41]
              refine ⟨fun r' hq => ?_, fun e' r' hq => (by cases hq)⟩
              cases hq
              refine runM_s (fun z => absurd z.2 (by omega)) (fun o ho => ?_) (fun z => h41 z.1)
              rcases t9 o ho with z | z
              · exact absurd z (by have := (opc_rk ho).2.1; omega)
              · exact z
      · rw [if_neg h40]
        exact one0_sim a1 a3 a5 (Or.inl ⟨h40, h45⟩)
theorem pk_sim (k : Nat) : SM1 (pk k).1 k ∧ SIM 3 4 (pk k).2 k true := by
  induction k with
  | zero =>
    have h1 : SM1 (pk 0).1 0 := one_sim (fun j hj => absurd hj (by omega))
    exact ⟨h1, not_sim h1 (fun j hj => absurd hj (by omega))⟩
  | succ k ih =>
    have h1 : SM1 (pk (k + 1)).1 (k + 1) := one_sim (fun j hj => by
      have : j = k := by omega
      subst this
      exact ih)
    exact ⟨h1, not_sim h1 (fun j hj => by
      have : j = k := by omega
      subst this
      exact ih.2)⟩
/-- the machine reads what the grammar reads -/
theorem runM_E {ts : List TK} {n : Nat} {c : Nat → Bool} (h1 : ts.length ≤ n) (h2 : ts.length ≤ 161) (h3 : NOk ts) (hc : c 0 = false) :
    (∀ r, eP (pk 5).2 ts = (none, r) → runM n true true [] [] 0 0 c ts = (none, r)) ∧
    ∀ e r, eP (pk 5).2 ts = (some e, r) → (¬ hk r = 59 → runM n true true [] [] 0 0 c ts = (none, r)) ∧ (hk r = 59 → ∃ cs, runM n true true [] [] 0 0 c ts = (some cs, r) ∧ CDS cs [] e) := by
  obtain ⟨s1, s2⟩ := E_sim (pk_sim 5).2 n true [] [] 0 0 c ts h1 h2 h3 rfl (fun o ho => (by cases ho)) (fun _ => rfl) (fun z => absurd z (by decide)) (fun _ => hc)
  refine ⟨s1, fun e r hq => ?_⟩
  obtain ⟨n2, mN2, p2, cs2, c3, t1, t2, t3, t4, t5, t6, t7, t8, t9⟩ := s2 e r hq
  rw [t1]
  refine ⟨fun h59 => ?_, fun h59 => ?_⟩
  · refine runM_s (fun z => h59 z.1) (fun o ho => ?_) (fun z => z.2 rfl)
    rcases t9 o ho with z | z
    · exact absurd z (by have := (opc_rk ho).2.1; omega)
    · exact z
  · have hlen := hk_ne (ts := r) (by rw [h59]; decide)
    obtain ⟨n3, rfl⟩ : ∃ n3, n2 = n3 + 1 := ⟨n2 - 1, by omega⟩
    obtain ⟨f1, f2⟩ := fl_app (r := 1) (p := p2) (W := []) t5 (fun q hq => (by cases hq))
    rw [runM_e h59 rfl, f2]
    exact ⟨_, rfl, t6.fl⟩
