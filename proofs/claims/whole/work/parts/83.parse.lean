-- ===== the grammar, over tokens: what is read, and what is left =====
abbrev FX : Type := (Nat → Int32) → Int32
abbrev PR : Type := Option FX × List TK
def hk (ts : List TK) : Int32 := match ts with
  | [] => 0
  | t :: _ => t.1
def hvl (ts : List TK) : Int32 := match ts with
  | [] => 0
  | t :: _ => t.2.1
def hpl (ts : List TK) : Nat := match ts with
  | [] => 0
  | t :: _ => t.2.2
def bopV (o : Nat) (a b : Int32) : Int32 := match o with
  | 2 => if a = 0 then (if b = 0 then 0 else 1) else 1
  | 3 => if a = 0 then 0 else (if b = 0 then 0 else 1)
  | 5 => if a < b then 1 else 0
  | 6 => if a = b then 1 else 0
  | 7 => a + b
  | 8 => a - b
  | _ => a * b
def uopV (o : Nat) (a : Int32) : Int32 := match o with
  | 4 => if a = 0 then 1 else 0
  | _ => -a
def binP (o : Nat) (e : FX) (q : PR) : PR := match q with
  | (none, r) => (none, r)
  | (some e2, r) => (some (fun F => bopV o (e F) (e2 F)), r)
def unP (o : Nat) (q : PR) : PR := match q with
  | (none, r) => (none, r)
  | (some e, r) => (some (fun F => uopV o (e F)), r)
def cloP (q : PR) : PR := match q with
  | (none, r) => (none, r)
  | (some e, r) => if hk r = 41 then (some e, r.tail) else (none, r)
def lpP (op : Int32 → Option Nat) (sub : List TK → PR) (n : Nat) (q : PR) : PR := match n with
  | 0 => q
  | n + 1 => match q with
    | (none, r) => (none, r)
    | (some e, r) => match op (hk r) with
      | none => (some e, r)
      | some o => lpP op sub n (binP o e (sub r.tail))
theorem lpP_n {op : Int32 → Option Nat} {sub : List TK → PR} (n : Nat) {r : List TK} : lpP op sub n (none, r) = (none, r) := by
  cases n <;> rfl
theorem lpP_e {op : Int32 → Option Nat} {sub : List TK → PR} {n : Nat} {e : FX} {r : List TK} (h : op (hk r) = none) : lpP op sub n (some e, r) = (some e, r) := by
  cases n with
  | zero => rfl
  | succ n =>
    show (match op (hk r) with | none => (some e, r) | some o => lpP op sub n (binP o e (sub r.tail))) = _
    rw [h]
theorem lpP_s {op : Int32 → Option Nat} {sub : List TK → PR} {n o : Nat} {e : FX} {r : List TK} (h : op (hk r) = some o) : lpP op sub (n + 1) (some e, r) = lpP op sub n (binP o e (sub r.tail)) := by
  show (match op (hk r) with | none => (some e, r) | some o => lpP op sub n (binP o e (sub r.tail))) = _
  rw [h]
def seqP (op : Int32 → Option Nat) (sub : List TK → PR) (ts : List TK) : PR := lpP op sub 160 (sub ts)
def opO (k : Int32) : Option Nat := if k = 7 then some 2 else none
def opA (k : Int32) : Option Nat := if k = 8 then some 3 else none
def opT (k : Int32) : Option Nat := if k = 42 then some 9 else none
def opS (k : Int32) : Option Nat := if k = 43 then some 7 else if k = 45 then some 8 else none
def one0 (ts : List TK) : PR := if hk ts = 2 then (some (fun _ => hvl ts), ts.tail) else if hk ts = 3 then (some (fun F => F (hvl ts).toNatClampNeg), ts.tail) else (none, ts)
def sumP (one : List TK → PR) : List TK → PR := seqP opS (seqP opT one)
def cmpP (one : List TK → PR) (ts : List TK) : PR := match sumP one ts with
  | (none, r) => (none, r)
  | (some e, r) => if hk r = 60 then binP 5 e (sumP one r.tail) else if hk r = 61 then binP 6 e (sumP one r.tail) else (some e, r)
def eP (nt : List TK → PR) : List TK → PR := seqP opO (seqP opA nt)
/-- ONE and NOT, while k more may be opened -/
def pk (k : Nat) : (List TK → PR) × (List TK → PR) := match k with
  | 0 => (one0, fun ts => if hk ts = 9 then (none, ts) else cmpP one0 ts)
  | k + 1 => (fun ts => if hk ts = 45 then unP 10 ((pk k).1 ts.tail) else if hk ts = 40 then cloP (eP (pk k).2 ts.tail) else one0 ts, fun ts => if hk ts = 9 then unP 4 ((pk k).2 ts.tail) else cmpP (fun ts => if hk ts = 45 then unP 10 ((pk k).1 ts.tail) else if hk ts = 40 then cloP (eP (pk k).2 ts.tail) else one0 ts) ts)
theorem pk_not (k : Nat) (ts : List TK) : (pk k).2 ts = if hk ts = 9 then (match k with | 0 => (none, ts) | k + 1 => unP 4 ((pk k).2 ts.tail)) else cmpP (pk k).1 ts := by
  cases k <;> rfl
theorem pk_one (k : Nat) (ts : List TK) : (pk k).1 ts = match k with | 0 => one0 ts | k + 1 => if hk ts = 45 then unP 10 ((pk k).1 ts.tail) else if hk ts = 40 then cloP (eP (pk k).2 ts.tail) else one0 ts := by
  cases k <;> rfl
def prtP (key : Int32) (ts : List TK) : PR := if hk ts = key then (match eP (pk 5).2 ts.tail with
  | (none, r) => (none, r)
  | (some e, r) => if hk r = 59 then (some e, r.tail) else (none, r)) else (none, ts)
-- ===== the class's parser =====
theorem layT_T : ∀ t, t < 6 → layT (199 + 6 * t) = 10 := by decide
/-- every token but the last can stand somewhere -/
def EOK (ts : List TK) : Prop := ts.length ≤ 161 ∧ ∀ j t, ts[j]? = some t → 1 < t.1 → j + 1 < ts.length
/-- what reading leaves alone: cells of the text from s on may change -/
def PXf (m m' : Mem) (T s : Nat) : Prop := (∀ a, a ≠ 41 → a ≠ T → a ≠ T + 1 → a ≠ T + 2 → a ≠ T + 3 → m' a = m a) ∧ (∀ k, k ≠ 2 → k ≠ 3 → m' 41 k = m 41 k) ∧ (∀ k, k ≠ 5 → m' T k = m T k) ∧ ∀ k, k < s → m' (T + 1) k = m (T + 1) k ∧ m' (T + 2) k = m (T + 2) k ∧ m' (T + 3) k = m (T + 3) k
theorem PXf.rf {m : Mem} {T s : Nat} : PXf m m T s := ⟨fun _ _ _ _ _ _ => rfl, fun _ _ _ => rfl, fun _ _ => rfl, fun _ _ => ⟨rfl, rfl, rfl⟩⟩
theorem PXf.tr {m m1 m2 : Mem} {T s s1 : Nat} (h1 : PXf m m1 T s) (h2 : PXf m1 m2 T s1) (hs : s ≤ s1) : PXf m m2 T s :=
  ⟨fun a x1 x2 x3 x4 x5 => by rw [h2.1 a x1 x2 x3 x4 x5, h1.1 a x1 x2 x3 x4 x5], fun k a b => by rw [h2.2.1 k a b, h1.2.1 k a b], fun k a => by rw [h2.2.2.1 k a, h1.2.2.1 k a], fun k hk => by
    obtain ⟨a1, a2, a3⟩ := h1.2.2.2 k hk
    obtain ⟨b1, b2, b3⟩ := h2.2.2.2 k (by omega)
    exact ⟨b1.trans a1, b2.trans a2, b3.trans a3⟩⟩
def PSt (m : Mem) (T : Nat) (ts : List TK) (i o s b : Nat) : Prop :=
  m 41 0 = nI 36 ∧ m 41 1 = nI T ∧ m 41 2 = nI i ∧ m 41 3 = nI o ∧ RTk m ts ∧ m T 5 = nI s ∧ rngOK (m (T + 1)) (m (T + 2)) (m (T + 3)) b s
def PSuc (m : Mem) (T : Nat) (ts : List TK) (i o s b : Nat) (e : FX) (i1 s1 : Nat) (m1 : Mem) : Prop :=
  i < i1 ∧ i1 < ts.length ∧ s < s1 ∧ s1 + i ≤ s + i1 ∧ PXf m m1 T s ∧ PSt m1 T ts i1 o s1 b ∧ ∀ F, cvF (m1 (T + 1)) (m1 (T + 2)) (m1 (T + 3)) F s1 (s1 - 1) = e F
def PFai (m : Mem) (T : Nat) (ts : List TK) (i1 s : Nat) (m1 : Mem) : Prop := i1 < ts.length ∧ m1 41 2 = nI i1 ∧ PXf m m1 T s
def PPo (m : Mem) (T : Nat) (ts : List TK) (i o s b : Nat) (q : PR) (c : Int32) (m1 : Mem) : Prop :=
  (∃ i1, q = (none, ts.drop i1) ∧ c = -1 ∧ PFai m T ts i1 s m1) ∨ ∃ e i1 s1, q = (some e, ts.drop i1) ∧ c = nI (s1 - 1) ∧ PSuc m T ts i o s b e i1 s1 m1
/-- a reading method does what P says -/
def RDC (l : Launch) (X : XT) (t : Nat) (ts : List TK) (M : MI) (P : List TK → PR) (o d : Nat) : Prop :=
  ∀ (m : Mem) (i s b : Nat), PSt m (199 + 6 * t) ts i o s b → i < ts.length → b ≤ s → s ≤ i → Meth l X d M [vR 3 41] m (fun r m' => ∃ c, r = some (vI c) ∧ PPo m (199 + 6 * t) ts i o s b (P (ts.drop i)) c m')
theorem drop_hd {ts : List TK} {i : Nat} (h : i < ts.length) : ∃ t, ts[i]? = some t ∧ ts.drop i = t :: ts.drop (i + 1) := ⟨ts[i], List.getElem?_eq_getElem h, List.drop_eq_getElem_cons h⟩
theorem hk_at {ts : List TK} {i : Nat} {t : TK} (h : ts[i]? = some t) : hk (ts.drop i) = t.1 ∧ hvl (ts.drop i) = t.2.1 ∧ hpl (ts.drop i) = t.2.2 ∧ (ts.drop i).tail = ts.drop (i + 1) := by
  have hi := (List.getElem?_eq_some_iff.mp h).1
  have e : ts[i] = t := (List.getElem?_eq_some_iff.mp h).2
  rw [List.drop_eq_getElem_cons hi, e]
  exact ⟨rfl, rfl, rfl, rfl⟩
theorem hk_nx {ts : List TK} {i : Nat} (he : EOK ts) (hi : i < ts.length) (h : 1 < hk (ts.drop i)) : i + 1 < ts.length := by
  obtain ⟨t, ht, -⟩ := drop_hd hi
  rw [(hk_at ht).1] at h
  exact he.2 i t ht h
section
variable {l : Launch} {X : XT} {d t i o s b : Nat} {ts : List TK} {m : Mem}
theorem c_Pnext (hP : PSt m (199 + 6 * t) ts i o s b) (he : EOK ts) (hi : i < ts.length) : Meth l X d M_X2_next [vR 3 41] m (fun r m' => r = some (vI (hk (ts.drop i))) ∧ m' = m) := by
  obtain ⟨p1, p2, p3, p4, p5, p6, p7⟩ := hP
  obtain ⟨tk, ht, -⟩ := drop_hd hi
  have h36 : (m 41 0).toNatClampNeg = 36 := by rw [p1]; rfl
  have hl := he.1
  refine E_X2_next (ls := [vR 3 41]) rfl rfl ?_
  repeat refine AW.s rfl ?_
  try dsimp only [List.set_cons_zero, List.set_cons_succ, Option.toList_some, Option.toList_none, List.cons_append, List.nil_append]
  rw [p3]
  refine AW.c rfl ((by rw [h36]; decide)) ?_
  try dsimp only [List.set_cons_zero, List.set_cons_succ, Option.toList_some, Option.toList_none, List.cons_append, List.nil_append]
  rw [h36]
  repeat refine AW.s rfl ?_
  try dsimp only [List.set_cons_zero, List.set_cons_succ, Option.toList_some, Option.toList_none, List.cons_append, List.nil_append]
  rw [p5.1]
  refine AW.b rfl (fun hc => ?_) (fun hc => ?_)
  · repeat refine AW.s rfl ?_
    try dsimp only [List.set_cons_zero, List.set_cons_succ, Option.toList_some, Option.toList_none, List.cons_append, List.nil_append]
    refine AW.c rfl ((by rw [h36]; decide)) ?_
    try dsimp only [List.set_cons_zero, List.set_cons_succ, Option.toList_some, Option.toList_none, List.cons_append, List.nil_append]
    rw [h36]
    repeat refine AW.s rfl ?_
    try dsimp only [List.set_cons_zero, List.set_cons_succ, Option.toList_some, Option.toList_none, List.cons_append, List.nil_append]
    rw [p3]
    refine AW.c rfl (vp_in_nI (by omega) (by decide)) ?_
    try dsimp only [List.set_cons_zero, List.set_cons_succ, Option.toList_some, Option.toList_none, List.cons_append, List.nil_append]
    rw [nI_clamp (by omega), show m (36 + 2) i = tk.1 from (p5.2 i tk ht).1, ← (hk_at ht).1]
    repeat refine AW.s rfl ?_
    try dsimp only [List.set_cons_zero, List.set_cons_succ, Option.toList_some, Option.toList_none, List.cons_append, List.nil_append]
    exact AW.ri rfl rfl rfl ⟨rfl, rfl⟩
  · exact absurd (nI_lt hi (by omega)) hc
theorem c_Pplace (hat : m 41 2 = nI i) (h0 : m 41 0 = nI 36) (hR : RTk m ts) (he : EOK ts) (hi : i < ts.length) : Meth l X d M_X2_place [vR 3 41] m (fun r m' => r = some (vI (nI (hpl (ts.drop i)))) ∧ m' = m) := by
  obtain ⟨tk, ht, -⟩ := drop_hd hi
  have h36 : (m 41 0).toNatClampNeg = 36 := by rw [h0]; rfl
  have hl := he.1
  refine E_X2_place (ls := [vR 3 41]) rfl rfl ?_
  repeat refine AW.s rfl ?_
  try dsimp only [List.set_cons_zero, List.set_cons_succ, Option.toList_some, Option.toList_none, List.cons_append, List.nil_append]
  rw [hat]
  refine AW.c rfl ((by rw [h36]; decide)) ?_
  try dsimp only [List.set_cons_zero, List.set_cons_succ, Option.toList_some, Option.toList_none, List.cons_append, List.nil_append]
  rw [h36]
  repeat refine AW.s rfl ?_
  try dsimp only [List.set_cons_zero, List.set_cons_succ, Option.toList_some, Option.toList_none, List.cons_append, List.nil_append]
  rw [hR.1]
  refine AW.b rfl (fun hc => ?_) (fun hc => ?_)
  · repeat refine AW.s rfl ?_
    try dsimp only [List.set_cons_zero, List.set_cons_succ, Option.toList_some, Option.toList_none, List.cons_append, List.nil_append]
    refine AW.c rfl ((by rw [h36]; decide)) ?_
    try dsimp only [List.set_cons_zero, List.set_cons_succ, Option.toList_some, Option.toList_none, List.cons_append, List.nil_append]
    rw [h36]
    repeat refine AW.s rfl ?_
    try dsimp only [List.set_cons_zero, List.set_cons_succ, Option.toList_some, Option.toList_none, List.cons_append, List.nil_append]
    rw [hat]
    refine AW.c rfl (vp_in_nI (by omega) (by decide)) ?_
    try dsimp only [List.set_cons_zero, List.set_cons_succ, Option.toList_some, Option.toList_none, List.cons_append, List.nil_append]
    rw [nI_clamp (by omega), show m (36 + 4) i = nI tk.2.2 from (hR.2 i tk ht).2.2, ← (hk_at ht).2.2.1]
    repeat refine AW.s rfl ?_
    try dsimp only [List.set_cons_zero, List.set_cons_succ, Option.toList_some, Option.toList_none, List.cons_append, List.nil_append]
    exact AW.ri rfl rfl rfl ⟨rfl, rfl⟩
  · exact absurd (nI_lt hi (by omega)) hc
theorem c_take {k : Int32} (hd : 1 ≤ d) (hP : PSt m (199 + 6 * t) ts i o s b) (he : EOK ts) (hi : i < ts.length) : Meth l X d M_X2_take [vR 3 41, vI k] m (fun r m' => (hk (ts.drop i) = k ∧ r = some (vI 1) ∧ m' = mUp m 41 2 (nI (i + 1))) ∨ (¬ hk (ts.drop i) = k ∧ r = some (vI 0) ∧ m' = m)) := by
  obtain ⟨d, rfl⟩ : ∃ e, d = e + 1 := ⟨d - 1, by omega⟩
  refine E_X2_take (ls := [vR 3 41, vI k]) rfl rfl ?_
  repeat refine AW.s rfl ?_
  try dsimp only [List.set_cons_zero, List.set_cons_succ, Option.toList_some, Option.toList_none, List.cons_append, List.nil_append]
  refine AW.V k_2_40 ((c_Pnext hP he hi)) rfl rfl rfl rfl rfl rfl (fun r1 m1 hq => ?_)
  obtain ⟨rfl, hm1⟩ := hq
  rw [hm1]
  repeat refine AW.s rfl ?_
  try dsimp only [List.set_cons_zero, List.set_cons_succ, Option.toList_some, Option.toList_none, List.cons_append, List.nil_append]
  refine AW.b rfl (fun hc => ?_) (fun hc => ?_)
  · have q := hc
    repeat refine AW.s rfl ?_
    try dsimp only [List.set_cons_zero, List.set_cons_succ, Option.toList_some, Option.toList_none, List.cons_append, List.nil_append]
    rw [hP.2.2.1, nI_1]
    exact AW.ri rfl rfl rfl (Or.inl ⟨q, rfl, rfl⟩)
  · have q := hc
    repeat refine AW.s rfl ?_
    try dsimp only [List.set_cons_zero, List.set_cons_succ, Option.toList_some, Option.toList_none, List.cons_append, List.nil_append]
    exact AW.ri rfl rfl rfl (Or.inr ⟨q, rfl, rfl⟩)
theorem c_takeOpening (hP : PSt m (199 + 6 * t) ts i o s b) (ho : o ≤ 5) : Meth l X d M_X2_takeOpening [vR 3 41] m (fun r m' => (o < 5 ∧ r = some (vI 1) ∧ m' = mUp (mUp m 41 3 (nI (o + 1))) 41 2 (nI (i + 1))) ∨ (o = 5 ∧ r = some (vI 0) ∧ m' = m)) := by
  refine E_X2_takeOpening (ls := [vR 3 41]) rfl rfl ?_
  repeat refine AW.s rfl ?_
  try dsimp only [List.set_cons_zero, List.set_cons_succ, Option.toList_some, Option.toList_none, List.cons_append, List.nil_append]
  rw [hP.2.2.2.1]
  refine AW.b rfl (fun hc => ?_) (fun hc => ?_)
  · have q : o < 5 := (nI_ltI (b := 5) (by omega) (by decide)).mp hc
    repeat refine AW.s rfl ?_
    try dsimp only [List.set_cons_zero, List.set_cons_succ, Option.toList_some, Option.toList_none, List.cons_append, List.nil_append]
    rw [hP.2.2.2.1, nI_1, show mUp m 41 3 (nI (o + 1)) 41 2 = nI i by rw [mUp_n (Or.inr (by decide))]; exact hP.2.2.1, nI_1]
    exact AW.ri rfl rfl rfl (Or.inl ⟨q, rfl, rfl⟩)
  · have q : o = 5 := by
      have : ¬ o < 5 := fun q => hc (nI_lt (b := 5) q (by decide))
      omega
    repeat refine AW.s rfl ?_
    try dsimp only [List.set_cons_zero, List.set_cons_succ, Option.toList_some, Option.toList_none, List.cons_append, List.nil_append]
    exact AW.ri rfl rfl rfl (Or.inr ⟨q, rfl, rfl⟩)
/-- a cell is added -/
def adC (m : Mem) (T s : Nat) (o a b : Int32) : Mem := mUp (mUp (mUp (mUp m (T + 1) s o) (T + 2) s a) (T + 3) s b) T 5 (nI (s + 1))
theorem c_Padd {T : Nat} {x y z : Int32} (hs : m T 5 = nI s) (h160 : s < 160) : Meth l X d M_X9_add [vR 10 T, vI x, vI y, vI z] m (fun r m' => r = some (vI (nI s)) ∧ m' = adC m T s x y z) := by
  refine (c_add hs (by omega)).post (fun r m' hq => ?_)
  rcases hq with ⟨h, -⟩ | ⟨-, h1, h2⟩
  · omega
  · exact ⟨h1, h2⟩
theorem c_joined {x y z : Int32} (hd : 1 ≤ d) (ht : t < 6) (hT : m 41 1 = nI (199 + 6 * t)) (hs : z = -1 ∨ (m (199 + 6 * t) 5 = nI s ∧ s < 160)) : Meth l X d M_X2_joined [vR 3 41, vI x, vI y, vI z] m (fun r m' => (z = -1 ∧ r = some (vI (-1)) ∧ m' = m) ∨ (¬ z = -1 ∧ r = some (vI (nI s)) ∧ m' = adC m (199 + 6 * t) s x y z)) := by
  obtain ⟨d, rfl⟩ : ∃ e, d = e + 1 := ⟨d - 1, by omega⟩
  have hTT : (m 41 1).toNatClampNeg = 199 + 6 * t := by rw [hT]; exact nI_clamp (by omega)
  refine E_X2_joined (ls := [vR 3 41, vI x, vI y, vI z]) rfl rfl ?_
  repeat refine AW.s rfl ?_
  try dsimp only [List.set_cons_zero, List.set_cons_succ, Option.toList_some, Option.toList_none, List.cons_append, List.nil_append]
  refine AW.b rfl (fun hc => ?_) (fun hc => ?_)
  · have q := hc
    repeat refine AW.s rfl ?_
    try dsimp only [List.set_cons_zero, List.set_cons_succ, Option.toList_some, Option.toList_none, List.cons_append, List.nil_append]
    exact AW.ri rfl rfl rfl (Or.inl ⟨q, rfl, rfl⟩)
  · have q := hc
    obtain ⟨h1, h2⟩ := hs.resolve_left q
    repeat refine AW.s rfl ?_
    try dsimp only [List.set_cons_zero, List.set_cons_succ, Option.toList_some, Option.toList_none, List.cons_append, List.nil_append]
    refine AW.c rfl ((by rw [hTT]; exact layT_T t ht)) ?_
    try dsimp only [List.set_cons_zero, List.set_cons_succ, Option.toList_some, Option.toList_none, List.cons_append, List.nil_append]
    rw [hTT]
    repeat refine AW.s rfl ?_
    try dsimp only [List.set_cons_zero, List.set_cons_succ, Option.toList_some, Option.toList_none, List.cons_append, List.nil_append]
    refine AW.V k_2_71 ((c_Padd h1 h2)) rfl rfl rfl rfl rfl rfl (fun r1 m1 hq => ?_)
    obtain ⟨rfl, hm1⟩ := hq
    rw [hm1]
    exact AW.ri rfl rfl rfl (Or.inr ⟨q, rfl, rfl⟩)
theorem c_closed {x z : Int32} {k : Nat} (hd : 1 ≤ d) (ht : t < 6) (hT : m 41 1 = nI (199 + 6 * t)) (ho : z = -1 ∨ (m 41 3 = nI (k + 1) ∧ m (199 + 6 * t) 5 = nI s ∧ s < 160)) : Meth l X d M_X2_closed [vR 3 41, vI x, vI z] m (fun r m' => (z = -1 ∧ r = some (vI (-1)) ∧ ∃ v, m' = mUp m 41 3 v) ∨ (¬ z = -1 ∧ r = some (vI (nI s)) ∧ m' = adC (mUp m 41 3 (nI k)) (199 + 6 * t) s x z 0)) := by
  obtain ⟨d, rfl⟩ : ∃ e, d = e + 1 := ⟨d - 1, by omega⟩
  have hTT : (m 41 1).toNatClampNeg = 199 + 6 * t := by rw [hT]; exact nI_clamp (by omega)
  refine E_X2_closed (ls := [vR 3 41, vI x, vI z]) rfl rfl ?_
  repeat refine AW.s rfl ?_
  try dsimp only [List.set_cons_zero, List.set_cons_succ, Option.toList_some, Option.toList_none, List.cons_append, List.nil_append]
  refine AW.b rfl (fun hc => ?_) (fun hc => ?_)
  · have q := hc
    repeat refine AW.s rfl ?_
    try dsimp only [List.set_cons_zero, List.set_cons_succ, Option.toList_some, Option.toList_none, List.cons_append, List.nil_append]
    exact AW.ri rfl rfl rfl (Or.inl ⟨q, rfl, _, rfl⟩)
  · have q := hc
    obtain ⟨h0, h1, h2⟩ := ho.resolve_left q
    rw [h0, show nI (k + 1) - 1 = nI k from pk_sub (b := 1) (by omega)]
    have hT2 : (mUp m 41 3 (nI k) 41 1).toNatClampNeg = 199 + 6 * t := by rw [mUp_n (Or.inr (by decide))]; exact hTT
    repeat refine AW.s rfl ?_
    try dsimp only [List.set_cons_zero, List.set_cons_succ, Option.toList_some, Option.toList_none, List.cons_append, List.nil_append]
    refine AW.c rfl ((by rw [hT2]; exact layT_T t ht)) ?_
    try dsimp only [List.set_cons_zero, List.set_cons_succ, Option.toList_some, Option.toList_none, List.cons_append, List.nil_append]
    rw [hT2]
    repeat refine AW.s rfl ?_
    try dsimp only [List.set_cons_zero, List.set_cons_succ, Option.toList_some, Option.toList_none, List.cons_append, List.nil_append]
    refine AW.V k_2_71 ((c_Padd (s := s) (by rw [mUp_a (by omega)]; exact h1) h2)) rfl rfl rfl rfl rfl rfl (fun r1 m1 hq => ?_)
    obtain ⟨rfl, hm1⟩ := hq
    rw [hm1]
    exact AW.ri rfl rfl rfl (Or.inr ⟨q, rfl, rfl⟩)
end
theorem cvF_ag {op lf rt op' lf' rt' f : Nat → Int32} {b e : Nat} (h : rngOK op lf rt b e) (he : e ≤ 160) (hag : ∀ k, k < e → op' k = op k ∧ lf' k = lf k ∧ rt' k = rt k) : ∀ i, b ≤ i → i < e → ∀ n, i < n → cvF op' lf' rt' f n i = cvF op lf rt f n i := by
  intro i
  induction i using Nat.strongRecOn with
  | ind i ih =>
    intro hs hi n hn
    obtain ⟨a, rfl⟩ : ∃ a, n = a + 1 := ⟨n - 1, by omega⟩
    obtain ⟨o, ho, hc⟩ := h i hs hi
    obtain ⟨g1, g2, g3⟩ := hag i hi
    show wkN (op' i).toNatClampNeg _ _ _ _ = wkN (op i).toNatClampNeg _ _ _ _
    rw [g1, g2, g3, ho, nI_clamp (by have := hc.1; omega)]
    exact wkN_congr hc (by omega) (fun j h1 h2 => ih j h2 h1 (by omega) a (by omega)) (fun _ _ => rfl)
theorem wk_bop {o a b : Nat} {v f : Nat → Int32} (ho : o = 2 ∨ o = 3 ∨ o = 5 ∨ o = 6 ∨ o = 7 ∨ o = 8 ∨ o = 9) (ha : a < 2 ^ 31) (hb : b < 2 ^ 31) : wkN o (nI a) (nI b) v f = bopV o (v a) (v b) := by
  have e1 := nI_clamp ha
  have e2 := nI_clamp hb
  rcases ho with rfl | rfl | rfl | rfl | rfl | rfl | rfl
  · rw [wk_2, e1, e2]; rfl
  · rw [wk_3, e1, e2]; rfl
  · rw [wk_5, e1, e2]; rfl
  · rw [wk_6, e1, e2]; rfl
  · rw [wk_7, e1, e2]; rfl
  · rw [wk_8, e1, e2]; rfl
  · rw [wk_9, e1, e2]; rfl
theorem wk_uop {o a : Nat} {r : Int32} {v f : Nat → Int32} (ho : o = 4 ∨ o = 10) (ha : a < 2 ^ 31) : wkN o (nI a) r v f = uopV o (v a) := by
  have e1 := nI_clamp ha
  rcases ho with rfl | rfl
  · rw [wk_4, e1]; rfl
  · rw [wk_10, e1]; rfl
/-- a cell more: the state then -/
theorem adC_st {m : Mem} {t : Nat} {ts : List TK} {i o s b n : Nat} {x y : Int32} (ht : t < 6) (hP : PSt m (199 + 6 * t) ts i o s b) (hc : celOK n x y b s) : PSt (adC m (199 + 6 * t) s (nI n) x y) (199 + 6 * t) ts i o (s + 1) b ∧ PXf m (adC m (199 + 6 * t) s (nI n) x y) (199 + 6 * t) s ∧ (adC m (199 + 6 * t) s (nI n) x y (199 + 6 * t + 1) s = nI n ∧ adC m (199 + 6 * t) s (nI n) x y (199 + 6 * t + 2) s = x ∧ adC m (199 + 6 * t) s (nI n) x y (199 + 6 * t + 3) s = y) := by
  generalize hT : 199 + 6 * t = T at *
  have hT1 : 199 ≤ T := by omega
  obtain ⟨p1, p2, p3, p4, p5, p6, p7⟩ := hP
  have f0 : ∀ a, a ≠ T → a ≠ T + 1 → a ≠ T + 2 → a ≠ T + 3 → adC m T s (nI n) x y a = m a := fun a h1 h2 h3 h4 => by
    unfold adC
    rw [mUp_a h1, mUp_a h4, mUp_a h3, mUp_a h2]
  have f1 : ∀ k, k ≠ s → adC m T s (nI n) x y (T + 1) k = m (T + 1) k := fun k hk => by
    unfold adC
    rw [mUp_a (by omega), mUp_a (by omega), mUp_a (by omega), mUp_n (Or.inr hk)]
  have f2 : ∀ k, k ≠ s → adC m T s (nI n) x y (T + 2) k = m (T + 2) k := fun k hk => by
    unfold adC
    rw [mUp_a (by omega), mUp_a (by omega), mUp_n (Or.inr hk), mUp_a (by omega)]
  have f3 : ∀ k, k ≠ s → adC m T s (nI n) x y (T + 3) k = m (T + 3) k := fun k hk => by
    unfold adC
    rw [mUp_a (by omega), mUp_n (Or.inr hk), mUp_a (by omega), mUp_a (by omega)]
  have g1 : adC m T s (nI n) x y (T + 1) s = nI n := by
    unfold adC
    rw [mUp_a (by omega), mUp_a (by omega), mUp_a (by omega), mUp_s]
  have g2 : adC m T s (nI n) x y (T + 2) s = x := by
    unfold adC
    rw [mUp_a (by omega), mUp_a (by omega), mUp_s]
  have g3 : adC m T s (nI n) x y (T + 3) s = y := by
    unfold adC
    rw [mUp_a (by omega), mUp_s]
  refine ⟨⟨?_, ?_, ?_, ?_, ?_, ?_, fun k h1 h2 => ?_⟩, ⟨fun a _ h2 h3 h4 h5 => f0 a h2 h3 h4 h5, fun k _ _ => by rw [f0 41 (by omega) (by omega) (by omega) (by omega)], fun k hk => ?_, fun k hk => ⟨f1 k (by omega), f2 k (by omega), f3 k (by omega)⟩⟩, g1, g2, g3⟩
  · rw [f0 41 (by omega) (by omega) (by omega) (by omega)]; exact p1
  · rw [f0 41 (by omega) (by omega) (by omega) (by omega)]; exact p2
  · rw [f0 41 (by omega) (by omega) (by omega) (by omega)]; exact p3
  · rw [f0 41 (by omega) (by omega) (by omega) (by omega)]; exact p4
  · refine ⟨by rw [f0 36 (by omega) (by omega) (by omega) (by omega)]; exact p5.1, fun j tk hj => ?_⟩
    rw [f0 38 (by omega) (by omega) (by omega) (by omega), f0 39 (by omega) (by omega) (by omega) (by omega), f0 40 (by omega) (by omega) (by omega) (by omega)]
    exact p5.2 j tk hj
  · exact mUp_s _ _ _ _
  · by_cases e : k = s
    · subst e
      rw [g1, g2, g3]
      exact ⟨n, rfl, hc⟩
    · rw [f1 k e, f2 k e, f3 k e]
      exact p7 k h1 (by omega)
  · unfold adC
    rw [mUp_n (Or.inr hk), mUp_a (by omega), mUp_a (by omega), mUp_a (by omega)]
/-- the place moves on -/
theorem PSt.at {m : Mem} {T : Nat} {ts : List TK} {i o s b : Nat} (hT : 199 ≤ T) (h : PSt m T ts i o s b) (j : Nat) : PSt (mUp m 41 2 (nI j)) T ts j o s b ∧ PXf m (mUp m 41 2 (nI j)) T s := by
  obtain ⟨p1, p2, p3, p4, p5, p6, p7⟩ := h
  have f0 : ∀ a, a ≠ 41 → mUp m 41 2 (nI j) a = m a := fun a h => mUp_a h
  refine ⟨⟨by rw [mUp_n (Or.inr (by decide))]; exact p1, by rw [mUp_n (Or.inr (by decide))]; exact p2, mUp_s _ _ _ _, by rw [mUp_n (Or.inr (by decide))]; exact p4, ⟨by rw [f0 36 (by decide)]; exact p5.1, fun q tk hq => by rw [f0 38 (by decide), f0 39 (by decide), f0 40 (by decide)]; exact p5.2 q tk hq⟩, by rw [f0 T (by omega)]; exact p6, by rw [f0 (T + 1) (by omega), f0 (T + 2) (by omega), f0 (T + 3) (by omega)]; exact p7⟩, ⟨fun a h _ _ _ _ => f0 a h, fun k h1 _ => mUp_n (Or.inr h1), fun k _ => by rw [f0 T (by omega)], fun k _ => by rw [f0 (T + 1) (by omega), f0 (T + 2) (by omega), f0 (T + 3) (by omega)]; exact ⟨rfl, rfl, rfl⟩⟩⟩
theorem PSt.op {m : Mem} {T : Nat} {ts : List TK} {i o s b : Nat} (hT : 199 ≤ T) (h : PSt m T ts i o s b) (o' : Nat) : PSt (mUp m 41 3 (nI o')) T ts i o' s b ∧ PXf m (mUp m 41 3 (nI o')) T s := by
  obtain ⟨p1, p2, p3, p4, p5, p6, p7⟩ := h
  have f0 : ∀ a, a ≠ 41 → mUp m 41 3 (nI o') a = m a := fun a h => mUp_a h
  refine ⟨⟨by rw [mUp_n (Or.inr (by decide))]; exact p1, by rw [mUp_n (Or.inr (by decide))]; exact p2, by rw [mUp_n (Or.inr (by decide))]; exact p3, mUp_s _ _ _ _, ⟨by rw [f0 36 (by decide)]; exact p5.1, fun q tk hq => by rw [f0 38 (by decide), f0 39 (by decide), f0 40 (by decide)]; exact p5.2 q tk hq⟩, by rw [f0 T (by omega)]; exact p6, by rw [f0 (T + 1) (by omega), f0 (T + 2) (by omega), f0 (T + 3) (by omega)]; exact p7⟩, ⟨fun a h _ _ _ _ => f0 a h, fun k _ h1 => mUp_n (Or.inr h1), fun k _ => by rw [f0 T (by omega)], fun k _ => by rw [f0 (T + 1) (by omega), f0 (T + 2) (by omega), f0 (T + 3) (by omega)]; exact ⟨rfl, rfl, rfl⟩⟩⟩
/-- two things read, an operation behind them -/
theorem PSuc.bin {m m1 m3 : Mem} {t : Nat} {ts : List TK} {i o s b n i1 s1 i2 s2 : Nat} {e e2 : FX} (ht : t < 6) (hE : EOK ts) (hsi : s ≤ i) (hbs : b ≤ s) (hn : n = 2 ∨ n = 3 ∨ n = 5 ∨ n = 6 ∨ n = 7 ∨ n = 8 ∨ n = 9) (h1 : PSuc m (199 + 6 * t) ts i o s b e i1 s1 m1) (h2 : PSuc (mUp m1 41 2 (nI (i1 + 1))) (199 + 6 * t) ts (i1 + 1) o s1 b e2 i2 s2 m3) :
    PSuc m (199 + 6 * t) ts i o s b (fun F => bopV n (e F) (e2 F)) i2 (s2 + 1) (adC m3 (199 + 6 * t) s2 (nI n) (nI (s1 - 1)) (nI (s2 - 1))) := by
  obtain ⟨a1, a2, a3, a4, a5, a6, a7⟩ := h1
  obtain ⟨b1, b2, b3, b4, b5, b6, b7⟩ := h2
  have hl := hE.1
  have hcel : celOK n (nI (s1 - 1)) (nI (s2 - 1)) b s2 := ⟨by omega, fun q => absurd q (by omega), fun _ => ⟨s1 - 1, by omega, by omega, rfl⟩, fun _ _ _ => ⟨s2 - 1, by omega, by omega, rfl⟩⟩
  obtain ⟨c1, c2, c3, c4, c5⟩ := adC_st (o := o) (i := i2) ht b6 hcel
  have fT : PXf m m3 (199 + 6 * t) s := (a5.tr (a6.at (by omega) (i1 + 1)).2 (by omega)).tr b5 (by omega)
  refine ⟨by omega, b2, by omega, by omega, fT.tr c2 (by omega), c1, fun F => ?_⟩
  have hs2 : s2 + 1 ≤ 160 := by omega
  rw [Nat.add_sub_cancel]
  show wkN (adC m3 (199 + 6 * t) s2 (nI n) (nI (s1 - 1)) (nI (s2 - 1)) (199 + 6 * t + 1) s2).toNatClampNeg _ _ _ _ = _
  rw [c3, c4, c5, nI_clamp (by omega), wk_bop hn (by omega) (by omega)]
  have v2 : cvF (adC m3 (199 + 6 * t) s2 (nI n) (nI (s1 - 1)) (nI (s2 - 1)) (199 + 6 * t + 1)) (adC m3 (199 + 6 * t) s2 (nI n) (nI (s1 - 1)) (nI (s2 - 1)) (199 + 6 * t + 2)) (adC m3 (199 + 6 * t) s2 (nI n) (nI (s1 - 1)) (nI (s2 - 1)) (199 + 6 * t + 3)) F s2 (s2 - 1) = e2 F := by
    rw [cvF_ag b6.2.2.2.2.2.2 (by omega) (fun k hk => c2.2.2.2 k hk) (s2 - 1) (by omega) (by omega) s2 (by omega)]
    exact b7 F
  have v1 : cvF (adC m3 (199 + 6 * t) s2 (nI n) (nI (s1 - 1)) (nI (s2 - 1)) (199 + 6 * t + 1)) (adC m3 (199 + 6 * t) s2 (nI n) (nI (s1 - 1)) (nI (s2 - 1)) (199 + 6 * t + 2)) (adC m3 (199 + 6 * t) s2 (nI n) (nI (s1 - 1)) (nI (s2 - 1)) (199 + 6 * t + 3)) F s2 (s1 - 1) = e F := by
    rw [cvF_ag b6.2.2.2.2.2.2 (by omega) (fun k hk => c2.2.2.2 k hk) (s1 - 1) (by omega) (by omega) s2 (by omega)]
    have f13 := (a6.at (by omega) (i1 + 1)).2.tr b5 (Nat.le_refl _)
    rw [cvF_ag a6.2.2.2.2.2.2 (by omega) (fun k hk => f13.2.2.2 k hk) (s1 - 1) (by omega) (by omega) s2 (by omega)]
    rw [cvF_st a6.2.2.2.2.2.2 (by omega) (fun _ _ => rfl) (s1 - 1) (by omega) (by omega) s2 s1 (by omega) (by omega)]
    exact a7 F
  rw [v1, v2]
